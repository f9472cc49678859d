/-! the reference: hours, pages copied -/
set_option maxRecDepth 100000 in
set_option maxHeartbeats 400000 in
theorem b_ah0 {K : Option am_V → am_M → Prop} {X : Nat → am_L → List am_V → am_M → Prop} (hX : am_cl eX7_anHour lX7_anHour none K X) {σ : am_M} (g : Nat) (h : X 2 [some (.inr (.inr (20, 0))), some (.inl (nI g)), some (.inl (0 : Int32)), none, none] [] σ) : X 0 [some (.inr (.inr (20, 0))), some (.inl (nI g)), none, none, none] [] σ := am_run_ok emX7_anHour hX [2] 400 (show X 2 [some (.inr (.inr (20, 0))), some (.inl (nI g)), some (.inl (0 : Int32)), none, none] [] σ from h)
set_option maxRecDepth 100000 in
set_option maxHeartbeats 400000 in
theorem b_ah2 {K : Option am_V → am_M → Prop} {X : Nat → am_L → List am_V → am_M → Prop} (hX : am_cl eX7_anHour lX7_anHour none K X) {σ : am_M} (g p : Nat) (h : (((σ 20 0 1) ≤ (nI p)) → X 89 [some (.inr (.inr (20, 0))), some (.inl (nI g)), some (.inl (0 : Int32)), none, none] [] σ) ∧ (¬ ((σ 20 0 1) ≤ (nI p)) → (vp_in (((nI g) + ((7 : Int32) * (nI p))) + (6 : Int32)) 340) ∧ ((((σ 21 0 (((nI g) + ((7 : Int32) * (nI p))) + (6 : Int32)).toNatClampNeg) = (0 : Int32)) → (vp_in (((nI g) + ((7 : Int32) * (nI p))) + (5 : Int32)) 340) ∧ ((vp_in ((nI g) + (66 : Int32)) 340) ∧ ((((σ 21 0 (((nI g) + ((7 : Int32) * (nI p))) + (5 : Int32)).toNatClampNeg) = (σ 21 0 ((nI g) + (66 : Int32)).toNatClampNeg)) → X 54 [some (.inr (.inr (20, 0))), some (.inl (nI g)), some (.inl (nI p)), some (.inl ((nI g) + ((7 : Int32) * (nI p)))), some (.inl (1 : Int32))] [] σ) ∧ (¬ ((σ 21 0 (((nI g) + ((7 : Int32) * (nI p))) + (5 : Int32)).toNatClampNeg) = (σ 21 0 ((nI g) + (66 : Int32)).toNatClampNeg)) → X 54 [some (.inr (.inr (20, 0))), some (.inl (nI g)), some (.inl (nI p)), some (.inl ((nI g) + ((7 : Int32) * (nI p)))), some (.inl (0 : Int32))] [] σ)))) ∧ (¬ ((σ 21 0 (((nI g) + ((7 : Int32) * (nI p))) + (6 : Int32)).toNatClampNeg) = (0 : Int32)) → X 54 [some (.inr (.inr (20, 0))), some (.inl (nI g)), some (.inl (nI p)), some (.inl ((nI g) + ((7 : Int32) * (nI p)))), some (.inl (0 : Int32))] [] σ)))) : X 2 [some (.inr (.inr (20, 0))), some (.inl (nI g)), some (.inl (nI p)), none, none] [] σ := am_run_ok emX7_anHour hX [54, 89] 400 (show (((σ 20 0 1) ≤ (nI p)) → X 89 [some (.inr (.inr (20, 0))), some (.inl (nI g)), some (.inl (0 : Int32)), none, none] [] σ) ∧ (¬ ((σ 20 0 1) ≤ (nI p)) → 4 ≤ 4 ∧ 0 ≤ 8 ∧ True ∧ sX7_is [.inr (.inr (20, 0)), .inl (nI g), .inl (nI p), .inl (0 : Int32)] σ (fun vv tt => am_run eX7_anHour lX7_anHour none K X [54, 89] 385 24 [some (.inr (.inr (20, 0))), some (.inl (nI g)), some (.inl (nI p)), some (.inl ((nI g) + ((7 : Int32) * (nI p)))), none] (vv.toList ++ []) tt)) from ⟨fun q0 => (h.1 q0), fun q0 => ⟨am_le rfl, am_le rfl, trivial, tX7_is (⟨(h.2 q0).1, ⟨fun q1 => (show (((1 : Int32) = (0 : Int32)) → _) ∧ (¬ ((1 : Int32) = (0 : Int32)) → (vp_in (((nI g) + ((7 : Int32) * (nI p))) + (5 : Int32)) 340) ∧ ((vp_in ((nI g) + (66 : Int32)) 340) ∧ ((((σ 21 0 (((nI g) + ((7 : Int32) * (nI p))) + (5 : Int32)).toNatClampNeg) = (σ 21 0 ((nI g) + (66 : Int32)).toNatClampNeg)) → X 54 [some (.inr (.inr (20, 0))), some (.inl (nI g)), some (.inl (nI p)), some (.inl ((nI g) + ((7 : Int32) * (nI p)))), some (.inl (1 : Int32))] [] σ) ∧ (¬ ((σ 21 0 (((nI g) + ((7 : Int32) * (nI p))) + (5 : Int32)).toNatClampNeg) = (σ 21 0 ((nI g) + (66 : Int32)).toNatClampNeg)) → X 54 [some (.inr (.inr (20, 0))), some (.inl (nI g)), some (.inl (nI p)), some (.inl ((nI g) + ((7 : Int32) * (nI p)))), some (.inl (0 : Int32))] [] σ)))) from ⟨fun q => absurd q (by decide), fun _ => ⟨((h.2 q0).2.1 q1).1, ⟨((h.2 q0).2.1 q1).2.1, ⟨fun q2 => (((h.2 q0).2.1 q1).2.2.1 q2), fun q2 => (((h.2 q0).2.1 q1).2.2.2 q2)⟩⟩⟩⟩), fun q1 => (show (((0 : Int32) = (0 : Int32)) → X 54 [some (.inr (.inr (20, 0))), some (.inl (nI g)), some (.inl (nI p)), some (.inl ((nI g) + ((7 : Int32) * (nI p)))), some (.inl (0 : Int32))] [] σ) ∧ (¬ ((0 : Int32) = (0 : Int32)) → _) from ⟨fun _ => ((h.2 q0).2.2 q1), fun q => absurd (by decide) q⟩)⟩⟩)⟩⟩)
set_option maxRecDepth 100000 in
set_option maxHeartbeats 400000 in
theorem b_ah54 {K : Option am_V → am_M → Prop} {X : Nat → am_L → List am_V → am_M → Prop} (hX : am_cl eX7_anHour lX7_anHour none K X) {σ : am_M} (g p : Nat) (a z : Int32) (h : ((z = (0 : Int32)) → (vp_in (a + (6 : Int32)) 340) ∧ ((vp_in (a + (6 : Int32)) 340) ∧ (X 2 [some (.inr (.inr (20, 0))), some (.inl (nI g)), some (.inl ((nI p) + (1 : Int32))), some (.inl a), some (.inl z)] [] (am_u σ 21 0 (a + (6 : Int32)).toNatClampNeg (σ 21 0 (a + (6 : Int32)).toNatClampNeg))))) ∧ (¬ (z = (0 : Int32)) → (vp_in (a + (6 : Int32)) 340) ∧ (X 2 [some (.inr (.inr (20, 0))), some (.inl (nI g)), some (.inl ((nI p) + (1 : Int32))), some (.inl a), some (.inl z)] [] (am_u σ 21 0 (a + (6 : Int32)).toNatClampNeg (1 : Int32))))) : X 54 [some (.inr (.inr (20, 0))), some (.inl (nI g)), some (.inl (nI p)), some (.inl a), some (.inl z)] [] σ := am_run_ok emX7_anHour hX [2] 400 (show ((z = (0 : Int32)) → (vp_in (a + (6 : Int32)) 340) ∧ ((vp_in (a + (6 : Int32)) 340) ∧ (X 2 [some (.inr (.inr (20, 0))), some (.inl (nI g)), some (.inl ((nI p) + (1 : Int32))), some (.inl a), some (.inl z)] [] (am_u σ 21 0 (a + (6 : Int32)).toNatClampNeg (σ 21 0 (a + (6 : Int32)).toNatClampNeg))))) ∧ (¬ (z = (0 : Int32)) → (vp_in (a + (6 : Int32)) 340) ∧ (X 2 [some (.inr (.inr (20, 0))), some (.inl (nI g)), some (.inl ((nI p) + (1 : Int32))), some (.inl a), some (.inl z)] [] (am_u σ 21 0 (a + (6 : Int32)).toNatClampNeg (1 : Int32)))) from ⟨fun q0 => ⟨(h.1 q0).1, ⟨(h.1 q0).2.1, (h.1 q0).2.2⟩⟩, fun q0 => ⟨(h.2 q0).1, (h.2 q0).2⟩⟩)
set_option maxRecDepth 100000 in
set_option maxHeartbeats 400000 in
theorem b_ah89 {K : Option am_V → am_M → Prop} {X : Nat → am_L → List am_V → am_M → Prop} (hX : am_cl eX7_anHour lX7_anHour none K X) {σ : am_M} (g p : Nat) (h : (((σ 20 0 1) ≤ (nI p)) → X 112 [some (.inr (.inr (20, 0))), some (.inl (nI g)), some (.inl (0 : Int32)), none, none] [] σ) ∧ (¬ ((σ 20 0 1) ≤ (nI p)) → sX7_boards [.inr (.inr (20, 0)), .inl (nI g), .inl (nI p)] σ (fun vv tt => X 103 [some (.inr (.inr (20, 0))), some (.inl (nI g)), some (.inl (nI p)), none, none] (vv.toList ++ []) tt))) : X 89 [some (.inr (.inr (20, 0))), some (.inl (nI g)), some (.inl (nI p)), none, none] [] σ := am_run_ok emX7_anHour hX [103, 112] 400 (show (((σ 20 0 1) ≤ (nI p)) → X 112 [some (.inr (.inr (20, 0))), some (.inl (nI g)), some (.inl (0 : Int32)), none, none] [] σ) ∧ (¬ ((σ 20 0 1) ≤ (nI p)) → 3 ≤ 3 ∧ 0 ≤ 8 ∧ True ∧ sX7_boards [.inr (.inr (20, 0)), .inl (nI g), .inl (nI p)] σ (fun vv tt => X 103 [some (.inr (.inr (20, 0))), some (.inl (nI g)), some (.inl (nI p)), none, none] (vv.toList ++ []) tt)) from ⟨fun q0 => (h.1 q0), fun q0 => ⟨am_le rfl, am_le rfl, trivial, (h.2 q0)⟩⟩)
set_option maxRecDepth 100000 in
set_option maxHeartbeats 400000 in
theorem b_ah103 {K : Option am_V → am_M → Prop} {X : Nat → am_L → List am_V → am_M → Prop} (hX : am_cl eX7_anHour lX7_anHour none K X) {σ : am_M} (g p : Nat) (v : Int32) (h : X 89 [some (.inr (.inr (20, 0))), some (.inl (nI g)), some (.inl ((nI p) + (1 : Int32))), none, none] [] σ) : X 103 [some (.inr (.inr (20, 0))), some (.inl (nI g)), some (.inl (nI p)), none, none] [.inl v] σ := am_run_ok emX7_anHour hX [89] 400 (show X 89 [some (.inr (.inr (20, 0))), some (.inl (nI g)), some (.inl ((nI p) + (1 : Int32))), none, none] [] σ from h)
set_option maxRecDepth 100000 in
set_option maxHeartbeats 400000 in
theorem b_ah112 {K : Option am_V → am_M → Prop} {X : Nat → am_L → List am_V → am_M → Prop} (hX : am_cl eX7_anHour lX7_anHour none K X) {σ : am_M} (g p : Nat) (h : (((σ 20 0 1) ≤ (nI p)) → (vp_in ((nI g) + (66 : Int32)) 340) ∧ ((vp_in ((nI g) + (66 : Int32)) 340) ∧ (K none (am_u σ 21 0 ((nI g) + (66 : Int32)).toNatClampNeg ((σ 21 0 ((nI g) + (66 : Int32)).toNatClampNeg) + (1 : Int32)))))) ∧ (¬ ((σ 20 0 1) ≤ (nI p)) → (vp_in (((nI g) + ((7 : Int32) * (nI p))) + (6 : Int32)) 340) ∧ ((((σ 21 0 (((nI g) + ((7 : Int32) * (nI p))) + (6 : Int32)).toNatClampNeg) = (1 : Int32)) → X 137 [some (.inr (.inr (20, 0))), some (.inl (nI g)), some (.inl (nI p)), some (.inl ((nI g) + ((7 : Int32) * (nI p)))), none] [] σ) ∧ (¬ ((σ 21 0 (((nI g) + ((7 : Int32) * (nI p))) + (6 : Int32)).toNatClampNeg) = (1 : Int32)) → X 189 [some (.inr (.inr (20, 0))), some (.inl (nI g)), some (.inl (nI p)), some (.inl ((nI g) + ((7 : Int32) * (nI p)))), none] [] σ)))) : X 112 [some (.inr (.inr (20, 0))), some (.inl (nI g)), some (.inl (nI p)), none, none] [] σ := am_run_ok emX7_anHour hX [137, 189] 400 (show (((σ 20 0 1) ≤ (nI p)) → (vp_in ((nI g) + (66 : Int32)) 340) ∧ ((vp_in ((nI g) + (66 : Int32)) 340) ∧ (K none (am_u σ 21 0 ((nI g) + (66 : Int32)).toNatClampNeg ((σ 21 0 ((nI g) + (66 : Int32)).toNatClampNeg) + (1 : Int32)))))) ∧ (¬ ((σ 20 0 1) ≤ (nI p)) → 4 ≤ 4 ∧ 0 ≤ 8 ∧ True ∧ sX7_is [.inr (.inr (20, 0)), .inl (nI g), .inl (nI p), .inl (1 : Int32)] σ (fun vv tt => am_run eX7_anHour lX7_anHour none K X [137, 189] 385 134 [some (.inr (.inr (20, 0))), some (.inl (nI g)), some (.inl (nI p)), some (.inl ((nI g) + ((7 : Int32) * (nI p)))), none] (vv.toList ++ []) tt)) from ⟨fun q0 => ⟨(h.1 q0).1, ⟨(h.1 q0).2.1, (h.1 q0).2.2⟩⟩, fun q0 => ⟨am_le rfl, am_le rfl, trivial, tX7_is (⟨(h.2 q0).1, ⟨fun q1 => (show (((1 : Int32) = (0 : Int32)) → _) ∧ (¬ ((1 : Int32) = (0 : Int32)) → X 137 [some (.inr (.inr (20, 0))), some (.inl (nI g)), some (.inl (nI p)), some (.inl ((nI g) + ((7 : Int32) * (nI p)))), none] [] σ) from ⟨fun q => absurd q (by decide), fun _ => ((h.2 q0).2.1 q1)⟩), fun q1 => (show (((0 : Int32) = (0 : Int32)) → X 189 [some (.inr (.inr (20, 0))), some (.inl (nI g)), some (.inl (nI p)), some (.inl ((nI g) + ((7 : Int32) * (nI p)))), none] [] σ) ∧ (¬ ((0 : Int32) = (0 : Int32)) → _) from ⟨fun _ => ((h.2 q0).2.2 q1), fun q => absurd (by decide) q⟩)⟩⟩)⟩⟩)
set_option maxRecDepth 100000 in
set_option maxHeartbeats 400000 in
theorem b_ah137 {K : Option am_V → am_M → Prop} {X : Nat → am_L → List am_V → am_M → Prop} (hX : am_cl eX7_anHour lX7_anHour none K X) {σ : am_M} (g p : Nat) (a : Int32) (h : (vp_in (a + (4 : Int32)) 340) ∧ ((((σ 21 0 (a + (4 : Int32)).toNatClampNeg) = (0 : Int32)) → (vp_in (a + (6 : Int32)) 340) ∧ (X 162 [some (.inr (.inr (20, 0))), some (.inl (nI g)), some (.inl (nI p)), some (.inl a), none] [] (am_u σ 21 0 (a + (6 : Int32)).toNatClampNeg (4 : Int32)))) ∧ (¬ ((σ 21 0 (a + (4 : Int32)).toNatClampNeg) = (0 : Int32)) → (vp_in (a + (6 : Int32)) 340) ∧ (X 162 [some (.inr (.inr (20, 0))), some (.inl (nI g)), some (.inl (nI p)), some (.inl a), none] [] (am_u σ 21 0 (a + (6 : Int32)).toNatClampNeg (1 : Int32)))))) : X 137 [some (.inr (.inr (20, 0))), some (.inl (nI g)), some (.inl (nI p)), some (.inl a), none] [] σ := am_run_ok emX7_anHour hX [162] 400 (show (vp_in (a + (4 : Int32)) 340) ∧ ((((σ 21 0 (a + (4 : Int32)).toNatClampNeg) = (0 : Int32)) → (vp_in (a + (6 : Int32)) 340) ∧ (X 162 [some (.inr (.inr (20, 0))), some (.inl (nI g)), some (.inl (nI p)), some (.inl a), none] [] (am_u σ 21 0 (a + (6 : Int32)).toNatClampNeg (4 : Int32)))) ∧ (¬ ((σ 21 0 (a + (4 : Int32)).toNatClampNeg) = (0 : Int32)) → (vp_in (a + (6 : Int32)) 340) ∧ (X 162 [some (.inr (.inr (20, 0))), some (.inl (nI g)), some (.inl (nI p)), some (.inl a), none] [] (am_u σ 21 0 (a + (6 : Int32)).toNatClampNeg (1 : Int32))))) from ⟨h.1, ⟨fun q0 => ⟨(h.2.1 q0).1, (h.2.1 q0).2⟩, fun q0 => ⟨(h.2.2 q0).1, (h.2.2 q0).2⟩⟩⟩)
set_option maxRecDepth 100000 in
set_option maxHeartbeats 400000 in
theorem b_ah162 {K : Option am_V → am_M → Prop} {X : Nat → am_L → List am_V → am_M → Prop} (hX : am_cl eX7_anHour lX7_anHour none K X) {σ : am_M} (g p : Nat) (a : Int32) (h : (vp_in (a + (4 : Int32)) 340) ∧ ((vp_in (a + (4 : Int32)) 340) ∧ ((((σ 21 0 (a + (4 : Int32)).toNatClampNeg) ≤ (0 : Int32)) → (vp_in (a + (4 : Int32)) 340) ∧ (X 189 [some (.inr (.inr (20, 0))), some (.inl (nI g)), some (.inl (nI p)), some (.inl a), none] [] (am_u σ 21 0 (a + (4 : Int32)).toNatClampNeg ((σ 21 0 (a + (4 : Int32)).toNatClampNeg) - (0 : Int32))))) ∧ (¬ ((σ 21 0 (a + (4 : Int32)).toNatClampNeg) ≤ (0 : Int32)) → (vp_in (a + (4 : Int32)) 340) ∧ (X 189 [some (.inr (.inr (20, 0))), some (.inl (nI g)), some (.inl (nI p)), some (.inl a), none] [] (am_u σ 21 0 (a + (4 : Int32)).toNatClampNeg ((σ 21 0 (a + (4 : Int32)).toNatClampNeg) - (1 : Int32)))))))) : X 162 [some (.inr (.inr (20, 0))), some (.inl (nI g)), some (.inl (nI p)), some (.inl a), none] [] σ := am_run_ok emX7_anHour hX [189] 400 (show (vp_in (a + (4 : Int32)) 340) ∧ ((vp_in (a + (4 : Int32)) 340) ∧ ((((σ 21 0 (a + (4 : Int32)).toNatClampNeg) ≤ (0 : Int32)) → (vp_in (a + (4 : Int32)) 340) ∧ (X 189 [some (.inr (.inr (20, 0))), some (.inl (nI g)), some (.inl (nI p)), some (.inl a), none] [] (am_u σ 21 0 (a + (4 : Int32)).toNatClampNeg ((σ 21 0 (a + (4 : Int32)).toNatClampNeg) - (0 : Int32))))) ∧ (¬ ((σ 21 0 (a + (4 : Int32)).toNatClampNeg) ≤ (0 : Int32)) → (vp_in (a + (4 : Int32)) 340) ∧ (X 189 [some (.inr (.inr (20, 0))), some (.inl (nI g)), some (.inl (nI p)), some (.inl a), none] [] (am_u σ 21 0 (a + (4 : Int32)).toNatClampNeg ((σ 21 0 (a + (4 : Int32)).toNatClampNeg) - (1 : Int32))))))) from ⟨h.1, ⟨h.2.1, ⟨fun q0 => ⟨(h.2.2.1 q0).1, (h.2.2.1 q0).2⟩, fun q0 => ⟨(h.2.2.2 q0).1, (h.2.2.2 q0).2⟩⟩⟩⟩)
set_option maxRecDepth 100000 in
set_option maxHeartbeats 400000 in
theorem b_ah189 {K : Option am_V → am_M → Prop} {X : Nat → am_L → List am_V → am_M → Prop} (hX : am_cl eX7_anHour lX7_anHour none K X) {σ : am_M} (g p : Nat) (h : X 112 [some (.inr (.inr (20, 0))), some (.inl (nI g)), some (.inl ((nI p) + (1 : Int32))), none, none] [] σ) : X 189 [some (.inr (.inr (20, 0))), some (.inl (nI g)), some (.inl (nI p)), none, none] [] σ := am_run_ok emX7_anHour hX [112] 400 (show X 112 [some (.inr (.inr (20, 0))), some (.inl (nI g)), some (.inl ((nI p) + (1 : Int32))), none, none] [] σ from h)
/-- patience is none too large -/
def pat_ok (r : Rw) (n : Nat) : Prop := ∀ q, q < n → q_lim (r q 4) 9
theorem m_ixj (g p : Nat) : nI g + (7 : Int32) * nI p = nI (g + 7 * p) := by
  show nI g + nI 7 * nI p = _
  rw [pk_mul, nI_add]
theorem q_a4 (a : Nat) : nI a + (4 : Int32) = nI (a + 4) := nI_add a 4
theorem q_a5 (a : Nat) : nI a + (5 : Int32) = nI (a + 5) := nI_add a 5
theorem q_a6 (a : Nat) : nI a + (6 : Int32) = nI (a + 6) := nI_add a 6
theorem pat_k {r : Rw} {n : Nat} (h : pat_ok r n) {q : Nat} (hq : q < n) : ∃ v : Nat, v ≤ 9 ∧ r q 4 = nI v := ⟨_, (h q hq).2, (h q hq).1⟩
theorem pat_brds {n pl : Nat} {r : Rw} {bt : Int32} {k : Nat} (h : pat_ok r n) : pat_ok (p_brds n pl r bt k).1 n := fun q hq => by
  rw [p_brds_at (by decide)]
  exact h q hq
theorem pat_come {n : Nat} {r : Rw} {hr : Int32} (h : pat_ok r n) : pat_ok (p_come r hr) n := fun q hq => by
  rw [p_come_at (by decide)]
  exact h q hq
theorem pat_pat {n : Nat} {r : Rw} (h : pat_ok r n) : pat_ok (p_pat r) n := fun q hq => by
  obtain ⟨v, hv, e⟩ := pat_k h hq
  unfold p_pat
  by_cases a : r q 6 = 1
  · rw [if_pos a]
    by_cases b : r q 4 ≤ 0
    · rw [if_pos b, if_neg (by decide)]
      exact h q hq
    · rw [if_neg b, if_pos rfl, e]
      rw [e] at b
      cases v with
      | zero => exact absurd (Int32.le_refl _) b
      | succ v => exact q_lim_of (n := v) (nI_pred v) (by omega) (by decide)
  · rw [if_neg a]
    exact h q hq
theorem pat_hr {n pl : Nat} {r : Rw} {hr bt : Int32} (h : pat_ok r n) : pat_ok (p_hr n pl r hr bt).1 n := pat_pat (pat_brds (pat_come h))
theorem pat_hrs {n pl : Nat} {r : Rw} {hr bt : Int32} (h : pat_ok r n) : ∀ k, pat_ok (p_hrs n pl r hr bt k).1 n
  | 0 => h
  | k + 1 => pat_hr (pat_hrs h k)
theorem p_hr_at {n pl : Nat} {r : Rw} {hr bt : Int32} {q j : Nat} (h : j ≠ 6) (h4 : j ≠ 4) : (p_hr n pl r hr bt).1 q j = r q j := by
  show p_pat (p_brds n pl (p_come r hr) bt n).1 q j = _
  rw [p_pat_at h h4, p_brds_at h, p_come_at h]
theorem p_hrs_at {n pl : Nat} {r : Rw} {hr bt : Int32} {q j : Nat} (h : j ≠ 6) (h4 : j ≠ 4) : ∀ k, (p_hrs n pl r hr bt k).1 q j = r q j
  | 0 => rfl
  | k + 1 => by
    show (p_hr n pl (p_hrs n pl r hr bt k).1 (hr + nI k) (p_hrs n pl r hr bt k).2).1 q j = _
    rw [p_hr_at h h4, p_hrs_at h h4 k]
theorem m_set_n {σ : am_M} {g n : Nat} {r : Rw} {hr bt : Int32} : m_set σ g n r hr bt 20 0 1 = σ 20 0 1 := rfl
theorem r_set_r {r : Rw} {p j : Nat} {v : Int32} (h : r p j = v) : r_set r p j v = r := by
  funext q k
  unfold r_set
  by_cases e : q = p ∧ k = j
  · rw [if_pos e, e.1, e.2, h]
  · rw [if_neg e]
set_option maxHeartbeats 2000000 in
theorem tX7_anHour {σ : am_M} {g pl : Nat} {r : Rw} {hr bt : Int32} {K : am_K} (hg : g ≤ 272) (ho : m_ok σ) (hpl : σ 21 0 (g + 63) + 3 = nI pl) (h5 : pl ≤ 5) (ha : m_at σ g (m_n σ) r) (hpt : pat_ok r (m_n σ)) (h : K none (m_set σ g (m_n σ) (p_hr (m_n σ) pl r hr bt).1 (hr + 1) (p_hr (m_n σ) pl r hr bt).2)) : sX7_anHour [.inr (.inr (20, 0)), .inl (nI g)] (m_set σ g (m_n σ) r hr bt) K := by
  obtain ⟨hn, h9⟩ := m_ok_e ho
  have hN0 : m_n σ = m_n σ := rfl
  generalize hN : m_n σ = n at hn h9 h ha hpt
  refine ⟨am_le rfl, fun X hX => b_ah0 hX g ?_⟩
  have v66 : vp_in (nI (g + 66)) 340 := q_in (by omega) (by decide)
  -- the third loop
  have l3 : ∀ (r2 : Rw) (bt2 : Int32), pat_ok r2 n → K none (m_set σ g n (p_pat r2) (hr + 1) bt2) → X 112 [some (.inr (.inr (20, 0))), some (.inl (nI g)), some (.inl (nI 0)), none, none] [] (m_set σ g n r2 hr bt2) := by
    intro r2 bt2 hp2 hk
    rw [← m_k_0 (f := p_pat r2) (r := r2) h9]
    refine q_dn (W := fun i => X 112 [some (.inr (.inr (20, 0))), some (.inl (nI g)), some (.inl (nI i)), none, none] [] (m_set σ g n (p_k (p_pat r2) r2 i) hr bt2)) (n := n) (fun i hi ih => ?_) ?_ 0 (Nat.zero_le _)
    · have v6 : vp_in (nI (g + 7 * i + 6)) 340 := q_in (by omega) (by decide)
      have v4 : vp_in (nI (g + 7 * i + 4)) 340 := q_in (by omega) (by decide)
      -- behind the row's change
      have hend : ∀ r' : Rw, (∀ j, j < 7 → r' i j = p_pat r2 i j) → (∀ q, q ≠ i → r' q = p_k (p_pat r2) r2 i q) → X 189 [some (.inr (.inr (20, 0))), some (.inl (nI g)), some (.inl (nI i)), some (.inl (nI (g + 7 * i))), none] [] (m_set σ g n r' hr bt2) := by
        intro r' e1 e2
        rw [m_k_s h9 e1 e2] at ih
        refine am_fo hX (ls := [some (.inr (.inr (20, 0))), some (.inl (nI g)), some (.inl (nI i)), none, none]) ⟨rfl, rfl, rfl, trivial⟩ (b_ah189 hX g i ?_)
        rw [show nI i + (1 : Int32) = nI (i + 1) from nI_1 i]
        exact ih
      refine b_ah112 hX g i ?_
      rw [m_ixj, q_a6, m_66, nI_clamp (by omega), nI_clamp (by omega), m_set_r hi (by decide), p_k_i, m_set_n, hn]
      refine ⟨fun q => absurd q (nI_ge hi (by omega)), fun _ => ⟨v6, fun a => ?_, fun a => ?_⟩⟩
      · obtain ⟨v, hv, ev⟩ := pat_k hp2 hi
        refine b_ah137 hX g i _ ?_
        rw [q_a4, q_a6, nI_clamp (by omega), nI_clamp (by omega), m_set_r hi (by decide), p_k_i, m_set_u h9 hi (by decide), m_set_u h9 hi (by decide)]
        refine ⟨v4, fun b => ⟨v6, ?_⟩, fun b => ⟨v6, ?_⟩⟩
        · refine b_ah162 hX g i _ ?_
          rw [q_a4, nI_clamp (by omega), m_set_r hi (by decide), m_set_u h9 hi (by decide), m_set_u h9 hi (by decide)]
          have e4 : r_set (p_k (p_pat r2) r2 i) i 6 4 i 4 = r2 i 4 := by
            unfold r_set
            rw [if_neg (fun z => absurd z.2 (by decide)), p_k_i]
          rw [e4]
          refine ⟨v4, v4, fun d => ⟨v4, hend _ (fun j hj => ?_) (fun q hq => ?_)⟩, fun d => absurd (by rw [b]; decide) d⟩
          · unfold p_pat
            rw [if_pos a, if_pos d]
            by_cases c4 : j = 4
            · subst c4
              unfold r_set
              rw [if_pos ⟨rfl, rfl⟩, if_neg (by decide)]
              simp
            · unfold r_set
              rw [if_neg (fun z => c4 z.2)]
              by_cases c6 : j = 6
              · rw [if_pos ⟨rfl, c6⟩, if_pos c6]
              · rw [if_neg (fun z => c6 z.2), if_neg c6, p_k_i]
          · rw [r_set_o hq, r_set_o hq]
        · refine b_ah162 hX g i _ ?_
          rw [q_a4, nI_clamp (by omega), m_set_r hi (by decide), m_set_u h9 hi (by decide), m_set_u h9 hi (by decide)]
          have e4 : r_set (p_k (p_pat r2) r2 i) i 6 1 i 4 = r2 i 4 := by
            unfold r_set
            rw [if_neg (fun z => absurd z.2 (by decide)), p_k_i]
          rw [e4]
          refine ⟨v4, v4, fun d => ?_, fun d => ⟨v4, hend _ (fun j hj => ?_) (fun q hq => ?_)⟩⟩
          · exfalso
            rw [ev, ← nI_0, nI_leI (by omega) (by decide)] at d
            rw [ev, ← nI_0, nI_eq (by omega) (by decide)] at b
            omega
          · unfold p_pat
            rw [if_pos a, if_neg d]
            by_cases c4 : j = 4
            · subst c4
              unfold r_set
              rw [if_pos ⟨rfl, rfl⟩, if_pos rfl]
            · unfold r_set
              rw [if_neg (fun z => c4 z.2), if_neg c4]
              by_cases c6 : j = 6
              · rw [if_pos ⟨rfl, c6⟩, c6, a]
              · rw [if_neg (fun z => c6 z.2), p_k_i]
          · rw [r_set_o hq, r_set_o hq]
      · refine hend _ (fun j hj => ?_) (fun q _ => rfl)
        unfold p_pat
        rw [if_neg a, p_k_i]
    · refine b_ah112 hX g n ?_
      rw [m_66, nI_clamp (by omega), m_k_n h9, m_set_h h9, m_set_uh h9, m_set_n, hn]
      exact ⟨fun _ => ⟨v66, v66, hk⟩, fun q => absurd (nI_le (Nat.le_refl _) (by omega)) q⟩
  -- the second
  have l2 : ∀ r1 : Rw, m_at σ g n r1 → pat_ok r1 n → K none (m_set σ g n (p_pat (p_brds n pl r1 bt n).1) (hr + 1) (p_brds n pl r1 bt n).2) → X 89 [some (.inr (.inr (20, 0))), some (.inl (nI g)), some (.inl (nI 0)), none, none] [] (m_set σ g n r1 hr bt) := by
    intro r1 ha1 hp1 hk
    refine q_dn (W := fun i => X 89 [some (.inr (.inr (20, 0))), some (.inl (nI g)), some (.inl (nI i)), none, none] [] (m_set σ g n (p_brds n pl r1 bt i).1 hr (p_brds n pl r1 bt i).2)) (n := n) (fun i hi ih => ?_) ?_ 0 (Nat.zero_le _)
    · refine b_ah89 hX g i ⟨fun q => absurd q ?_, fun _ => ?_⟩
      · rw [m_set_n, hn]
        exact nI_ge hi (by omega)
      · have hai : m_at σ g n (p_brds n pl r1 bt i).1 := m_at_cg ha1 (fun q j _ hj => p_brds_at (by omega) i)
        subst hN
        refine tX7_boards hg ho hpl h5 hi hai ?_
        refine b_ah103 hX g i _ ?_
        rw [show nI i + (1 : Int32) = nI (i + 1) from nI_1 i]
        exact ih
    · refine b_ah89 hX g n ⟨fun _ => l3 _ _ (pat_brds hp1) hk, fun q => absurd ?_ q⟩
      rw [m_set_n, hn]
      exact nI_le (Nat.le_refl _) (by omega)
  rw [← m_k_0 (f := p_come r hr) (r := r) h9]
  refine q_dn (W := fun i => X 2 [some (.inr (.inr (20, 0))), some (.inl (nI g)), some (.inl (nI i)), none, none] [] (m_set σ g n (p_k (p_come r hr) r i) hr bt)) (n := n) (fun i hi ih => ?_) ?_ 0 (Nat.zero_le _)
  · have v6 : vp_in (nI (g + 7 * i + 6)) 340 := q_in (by omega) (by decide)
    have v5 : vp_in (nI (g + 7 * i + 5)) 340 := q_in (by omega) (by decide)
    have hno : (¬ (r i 6 = 0 ∧ r i 5 = hr)) → X 54 [some (.inr (.inr (20, 0))), some (.inl (nI g)), some (.inl (nI i)), some (.inl (nI (g + 7 * i))), some (.inl (0 : Int32))] [] (m_set σ g n (p_k (p_come r hr) r i) hr bt) := by
      intro hc
      refine b_ah54 hX g i _ _ ?_
      rw [q_a6, nI_clamp (by omega), m_set_r hi (by decide), p_k_i, m_set_u h9 hi (by decide), show nI i + (1 : Int32) = nI (i + 1) from nI_1 i]
      refine ⟨fun _ => ⟨v6, v6, ?_⟩, fun q => absurd rfl q⟩
      refine am_fo hX (ls := [some (.inr (.inr (20, 0))), some (.inl (nI g)), some (.inl (nI (i + 1))), none, none]) ⟨rfl, rfl, rfl, trivial⟩ ?_
      rw [r_set_r (show p_k (p_come r hr) r i i 6 = r i 6 by rw [p_k_i])]
      rw [m_k_s (r' := p_k (p_come r hr) r i) h9 (fun j hj => ?_) (fun q _ => rfl)] at ih
      · exact ih
      · unfold p_come
        rw [if_neg (fun z => hc z.2), p_k_i]
    refine b_ah2 hX g i ?_
    rw [m_ixj, q_a5, q_a6, m_66, nI_clamp (by omega), nI_clamp (by omega), nI_clamp (by omega), m_set_r hi (by decide), m_set_r hi (by decide), p_k_i, m_set_h h9, m_set_n, hn]
    refine ⟨fun q => absurd q (nI_ge hi (by omega)), fun _ => ⟨v6, fun a => ⟨v5, v66, fun b => ?_, fun b => hno (fun z => b z.2)⟩, fun a => hno (fun z => a z.1)⟩⟩
    refine b_ah54 hX g i _ _ ?_
    rw [q_a6, nI_clamp (by omega), m_set_u h9 hi (by decide), m_set_u h9 hi (by decide), show nI i + (1 : Int32) = nI (i + 1) from nI_1 i]
    refine ⟨fun q => absurd q (by decide), fun _ => ⟨v6, ?_⟩⟩
    refine am_fo hX (ls := [some (.inr (.inr (20, 0))), some (.inl (nI g)), some (.inl (nI (i + 1))), none, none]) ⟨rfl, rfl, rfl, trivial⟩ ?_
    rw [m_k_s (r' := r_set (p_k (p_come r hr) r i) i 6 1) h9 (fun j hj => ?_) (fun q hq => r_set_o hq)] at ih
    · exact ih
    · unfold p_come r_set
      by_cases c6 : j = 6
      · rw [if_pos ⟨rfl, c6⟩, if_pos ⟨c6, a, b⟩]
      · rw [if_neg (fun z => c6 z.2), if_neg (fun z => c6 z.1), p_k_i]
  · refine b_ah2 hX g n ⟨fun _ => ?_, fun q => absurd ?_ q⟩
    · rw [m_k_n h9]
      exact l2 _ (m_at_cg ha (fun q j _ hj => p_come_at (by omega))) (pat_come hpt) h
    · rw [m_set_n, hn]
      exact nI_le (Nat.le_refl _) (by omega)
