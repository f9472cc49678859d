/-! pairs: ahead, when, keep, back -/
set_option maxRecDepth 100000 in
set_option maxHeartbeats 400000 in
theorem b_xh0 {K : Option am_V → am_M → Prop} {X : Nat → am_L → List am_V → am_M → Prop} (hX : am_cl eX6_ahead lX6_ahead (some .int) K X) {σ : am_M} (a b : Int32) (h : ((a < (0 : Int32)) → K (some (.inl (-1 : Int32))) σ) ∧ (¬ (a < (0 : Int32)) → (((30 : Int32) < a) → K (some (.inl (-1 : Int32))) σ) ∧ (¬ ((30 : Int32) < a) → ((b < (0 : Int32)) → K (some (.inl (-1 : Int32))) σ) ∧ (¬ (b < (0 : Int32)) → (((4 : Int32) < b) → K (some (.inl (-1 : Int32))) σ) ∧ (¬ ((4 : Int32) < b) → sX0_copyFrom [.inr (.inr (3, 1)), .inr (.inr (3, 0))] σ (fun vv tt => X 32 [some (.inr (.inr (0, 0))), some (.inl a), some (.inl b), none] (vv.toList ++ []) tt)))))) : X 0 [some (.inr (.inr (0, 0))), some (.inl a), some (.inl b), none] [] σ := am_run_ok emX6_ahead hX [32] 400 (show 3 ≤ 3 ∧ 0 ≤ 8 ∧ sX6_isWithin [.inl a, .inl (0 : Int32), .inl (30 : Int32)] σ (fun vv tt => am_run eX6_ahead lX6_ahead (some .int) K X [32] 396 7 [some (.inr (.inr (0, 0))), some (.inl a), some (.inl b), none] (vv.toList ++ []) tt) from ⟨am_le rfl, am_le rfl, tX6_isWithin (⟨fun q0 => (show (((0 : Int32) = (0 : Int32)) → K (some (.inl (-1 : Int32))) σ) ∧ (¬ ((0 : Int32) = (0 : Int32)) → _) from ⟨fun _ => (h.1 q0), fun q => absurd (by decide) q⟩), fun q0 => ⟨fun q1 => (show (((0 : Int32) = (0 : Int32)) → K (some (.inl (-1 : Int32))) σ) ∧ (¬ ((0 : Int32) = (0 : Int32)) → _) from ⟨fun _ => ((h.2 q0).1 q1), fun q => absurd (by decide) q⟩), fun q1 => (show (((1 : Int32) = (0 : Int32)) → _) ∧ (¬ ((1 : Int32) = (0 : Int32)) → 3 ≤ 3 ∧ 0 ≤ 8 ∧ sX6_isWithin [.inl b, .inl (0 : Int32), .inl (4 : Int32)] σ (fun vv tt => am_run eX6_ahead lX6_ahead (some .int) K X [32] 391 16 [some (.inr (.inr (0, 0))), some (.inl a), some (.inl b), none] (vv.toList ++ []) tt)) from ⟨fun q => absurd q (by decide), fun _ => ⟨am_le rfl, am_le rfl, tX6_isWithin (⟨fun q2 => (show (((0 : Int32) = (0 : Int32)) → K (some (.inl (-1 : Int32))) σ) ∧ (¬ ((0 : Int32) = (0 : Int32)) → _) from ⟨fun _ => (((h.2 q0).2 q1).1 q2), fun q => absurd (by decide) q⟩), fun q2 => ⟨fun q3 => (show (((0 : Int32) = (0 : Int32)) → K (some (.inl (-1 : Int32))) σ) ∧ (¬ ((0 : Int32) = (0 : Int32)) → _) from ⟨fun _ => ((((h.2 q0).2 q1).2 q2).1 q3), fun q => absurd (by decide) q⟩), fun q3 => (show (((1 : Int32) = (0 : Int32)) → _) ∧ (¬ ((1 : Int32) = (0 : Int32)) → 2 ≤ 2 ∧ 0 ≤ 8 ∧ True ∧ sX0_copyFrom [.inr (.inr (3, 1)), .inr (.inr (3, 0))] σ (fun vv tt => X 32 [some (.inr (.inr (0, 0))), some (.inl a), some (.inl b), none] (vv.toList ++ []) tt)) from ⟨fun q => absurd q (by decide), fun _ => ⟨am_le rfl, am_le rfl, trivial, ((((h.2 q0).2 q1).2 q2).2 q3)⟩⟩)⟩⟩)⟩⟩)⟩⟩)⟩)
set_option maxRecDepth 100000 in
set_option maxHeartbeats 400000 in
theorem b_xh32 {K : Option am_V → am_M → Prop} {X : Nat → am_L → List am_V → am_M → Prop} (hX : am_cl eX6_ahead lX6_ahead (some .int) K X) {σ : am_M} (a b : Int32) (h : sX0_passHours [.inr (.inr (3, 1)), .inl a] σ (fun vv tt => X 40 [some (.inr (.inr (0, 0))), some (.inl a), some (.inl b), none] (vv.toList ++ []) tt)) : X 32 [some (.inr (.inr (0, 0))), some (.inl a), some (.inl b), none] [] σ := am_run_ok emX6_ahead hX [40] 400 (show 2 ≤ 2 ∧ 0 ≤ 8 ∧ True ∧ sX0_passHours [.inr (.inr (3, 1)), .inl a] σ (fun vv tt => X 40 [some (.inr (.inr (0, 0))), some (.inl a), some (.inl b), none] (vv.toList ++ []) tt) from ⟨am_le rfl, am_le rfl, trivial, h⟩)
set_option maxRecDepth 100000 in
set_option maxHeartbeats 400000 in
theorem b_xh40 {K : Option am_V → am_M → Prop} {X : Nat → am_L → List am_V → am_M → Prop} (hX : am_cl eX6_ahead lX6_ahead (some .int) K X) {σ : am_M} (a b v : Int32) (h : ((b = (0 : Int32)) → K (some (.inl v)) σ) ∧ (¬ (b = (0 : Int32)) → (c_ok σ 1) ∧ (K (some (.inl (nI (c_who σ 1 b)))) σ))) : X 40 [some (.inr (.inr (0, 0))), some (.inl a), some (.inl b), none] [.inl v] σ := am_run_ok emX6_ahead hX [] 400 (show ((b = (0 : Int32)) → K (some (.inl v)) σ) ∧ (¬ (b = (0 : Int32)) → 2 ≤ 2 ∧ 0 ≤ 8 ∧ True ∧ sX0_those [.inr (.inr (3, 1)), .inl b] σ (fun vv tt => am_run eX6_ahead lX6_ahead (some .int) K X [] 393 57 [some (.inr (.inr (0, 0))), some (.inl a), some (.inl b), some (.inl v)] (vv.toList ++ []) tt)) from ⟨fun q0 => (h.1 q0), fun q0 => ⟨am_le rfl, am_le rfl, trivial, tX0_those (⟨(h.2 q0).1, (show K (some (.inl (nI (c_who σ 1 b)))) σ from (h.2 q0).2)⟩)⟩⟩)
set_option maxRecDepth 100000 in
set_option maxHeartbeats 400000 in
theorem b_yh0 {K : Option am_V → am_M → Prop} {X : Nat → am_L → List am_V → am_M → Prop} (hX : am_cl eX7_ahead lX7_ahead (some .int) K X) {σ : am_M} (a b : Int32) (h : ((a < (0 : Int32)) → K (some (.inl (-1 : Int32))) σ) ∧ (¬ (a < (0 : Int32)) → (((30 : Int32) < a) → K (some (.inl (-1 : Int32))) σ) ∧ (¬ ((30 : Int32) < a) → ((b < (0 : Int32)) → K (some (.inl (-1 : Int32))) σ) ∧ (¬ (b < (0 : Int32)) → (((4 : Int32) < b) → K (some (.inl (-1 : Int32))) σ) ∧ (¬ ((4 : Int32) < b) → sX7_copies [.inr (.inr (20, 0)), .inl (0 : Int32), .inl (272 : Int32)] σ (fun vv tt => X 34 [some (.inr (.inr (20, 0))), some (.inl a), some (.inl b), none] (vv.toList ++ []) tt)))))) : X 0 [some (.inr (.inr (20, 0))), some (.inl a), some (.inl b), none] [] σ := am_run_ok emX7_ahead hX [34] 400 (show 3 ≤ 3 ∧ 0 ≤ 8 ∧ sX7_in [.inr (.inl (a).toInt64), .inr (.inl (0 : Int64)), .inr (.inl (30 : Int64))] σ (fun vv tt => am_run eX7_ahead lX7_ahead (some .int) K X [34] 395 9 [some (.inr (.inr (20, 0))), some (.inl a), some (.inl b), none] (vv.toList ++ []) tt) from ⟨am_le rfl, am_le rfl, uX7_in (v := a) (a := (0 : Int32)) (b := (30 : Int32)) (⟨fun q0 => (show (((0 : Int32) = (0 : Int32)) → K (some (.inl (-1 : Int32))) σ) ∧ (¬ ((0 : Int32) = (0 : Int32)) → _) from ⟨fun _ => (h.1 q0), fun q => absurd (by decide) q⟩), fun q0 => ⟨fun q1 => (show (((0 : Int32) = (0 : Int32)) → K (some (.inl (-1 : Int32))) σ) ∧ (¬ ((0 : Int32) = (0 : Int32)) → _) from ⟨fun _ => ((h.2 q0).1 q1), fun q => absurd (by decide) q⟩), fun q1 => (show (((1 : Int32) = (0 : Int32)) → _) ∧ (¬ ((1 : Int32) = (0 : Int32)) → 3 ≤ 3 ∧ 0 ≤ 8 ∧ sX7_in [.inr (.inl (b).toInt64), .inr (.inl (0 : Int64)), .inr (.inl (4 : Int64))] σ (fun vv tt => am_run eX7_ahead lX7_ahead (some .int) K X [34] 389 21 [some (.inr (.inr (20, 0))), some (.inl a), some (.inl b), none] (vv.toList ++ []) tt)) from ⟨fun q => absurd q (by decide), fun _ => ⟨am_le rfl, am_le rfl, uX7_in (v := b) (a := (0 : Int32)) (b := (4 : Int32)) (⟨fun q2 => (show (((0 : Int32) = (0 : Int32)) → K (some (.inl (-1 : Int32))) σ) ∧ (¬ ((0 : Int32) = (0 : Int32)) → _) from ⟨fun _ => (((h.2 q0).2 q1).1 q2), fun q => absurd (by decide) q⟩), fun q2 => ⟨fun q3 => (show (((0 : Int32) = (0 : Int32)) → K (some (.inl (-1 : Int32))) σ) ∧ (¬ ((0 : Int32) = (0 : Int32)) → _) from ⟨fun _ => ((((h.2 q0).2 q1).2 q2).1 q3), fun q => absurd (by decide) q⟩), fun q3 => (show (((1 : Int32) = (0 : Int32)) → _) ∧ (¬ ((1 : Int32) = (0 : Int32)) → 3 ≤ 3 ∧ 0 ≤ 8 ∧ True ∧ sX7_copies [.inr (.inr (20, 0)), .inl (0 : Int32), .inl (272 : Int32)] σ (fun vv tt => X 34 [some (.inr (.inr (20, 0))), some (.inl a), some (.inl b), none] (vv.toList ++ []) tt)) from ⟨fun q => absurd q (by decide), fun _ => ⟨am_le rfl, am_le rfl, trivial, ((((h.2 q0).2 q1).2 q2).2 q3)⟩⟩)⟩⟩)⟩⟩)⟩⟩)⟩)
set_option maxRecDepth 100000 in
set_option maxHeartbeats 400000 in
theorem b_yh34 {K : Option am_V → am_M → Prop} {X : Nat → am_L → List am_V → am_M → Prop} (hX : am_cl eX7_ahead lX7_ahead (some .int) K X) {σ : am_M} (a b : Int32) (h : sX7_goesOn [.inr (.inr (20, 0)), .inl (272 : Int32), .inl a] σ (fun vv tt => X 42 [some (.inr (.inr (20, 0))), some (.inl a), some (.inl b), none] (vv.toList ++ []) tt)) : X 34 [some (.inr (.inr (20, 0))), some (.inl a), some (.inl b), none] [] σ := am_run_ok emX7_ahead hX [42] 400 (show 3 ≤ 3 ∧ 0 ≤ 8 ∧ True ∧ sX7_goesOn [.inr (.inr (20, 0)), .inl (272 : Int32), .inl a] σ (fun vv tt => X 42 [some (.inr (.inr (20, 0))), some (.inl a), some (.inl b), none] (vv.toList ++ []) tt) from ⟨am_le rfl, am_le rfl, trivial, h⟩)
set_option maxRecDepth 100000 in
set_option maxHeartbeats 400000 in
theorem b_yh42 {K : Option am_V → am_M → Prop} {X : Nat → am_L → List am_V → am_M → Prop} (hX : am_cl eX7_ahead lX7_ahead (some .int) K X) {σ : am_M} (a b v : Int32) (h : ((b = (0 : Int32)) → K (some (.inl v)) σ) ∧ (¬ (b = (0 : Int32)) → (m_ok σ) ∧ (K (some (.inl (nI (p_who (m_r σ 272) (m_n σ) b)))) σ))) : X 42 [some (.inr (.inr (20, 0))), some (.inl a), some (.inl b), none] [.inl v] σ := am_run_ok emX7_ahead hX [] 400 (show ((b = (0 : Int32)) → K (some (.inl v)) σ) ∧ (¬ (b = (0 : Int32)) → 3 ≤ 3 ∧ 0 ≤ 8 ∧ True ∧ sX7_whoOn [.inr (.inr (20, 0)), .inl (272 : Int32), .inl b] σ (fun vv tt => am_run eX7_ahead lX7_ahead (some .int) K X [] 393 59 [some (.inr (.inr (20, 0))), some (.inl a), some (.inl b), some (.inl v)] (vv.toList ++ []) tt)) from ⟨fun q0 => (h.1 q0), fun q0 => ⟨am_le rfl, am_le rfl, trivial, wX7_whoOn (g := 272) (⟨(by decide), ⟨(h.2 q0).1, (show K (some (.inl (nI (p_who (m_r σ 272) (m_n σ) b)))) σ from (h.2 q0).2)⟩⟩)⟩⟩)
set_option maxRecDepth 100000 in
set_option maxHeartbeats 400000 in
theorem b_xw0 {K : Option am_V → am_M → Prop} {X : Nat → am_L → List am_V → am_M → Prop} (hX : am_cl eX6_when lX6_when (some .int) K X) {σ : am_M} (a : Int32) (h : ((a < (0 : Int32)) → K (some (.inl (-1 : Int32))) σ) ∧ (¬ (a < (0 : Int32)) → (((σ 3 0 1) ≤ a) → K (some (.inl (-1 : Int32))) σ) ∧ (¬ ((σ 3 0 1) ≤ a) → sX0_copyFrom [.inr (.inr (3, 1)), .inr (.inr (3, 0))] σ (fun vv tt => X 24 [some (.inr (.inr (0, 0))), some (.inl a), none] (vv.toList ++ []) tt)))) : X 0 [some (.inr (.inr (0, 0))), some (.inl a), none] [] σ := am_run_ok emX6_when hX [24] 400 (show 2 ≤ 2 ∧ 0 ≤ 8 ∧ True ∧ sX0_has [.inr (.inr (3, 0)), .inl a] σ (fun vv tt => am_run eX6_when lX6_when (some .int) K X [24] 396 8 [some (.inr (.inr (0, 0))), some (.inl a), none] (vv.toList ++ []) tt) from ⟨am_le rfl, am_le rfl, trivial, tX0_has (⟨fun q0 => (show (((0 : Int32) = (0 : Int32)) → K (some (.inl (-1 : Int32))) σ) ∧ (¬ ((0 : Int32) = (0 : Int32)) → _) from ⟨fun _ => (h.1 q0), fun q => absurd (by decide) q⟩), fun q0 => ⟨fun q1 => (show (((0 : Int32) = (0 : Int32)) → K (some (.inl (-1 : Int32))) σ) ∧ (¬ ((0 : Int32) = (0 : Int32)) → _) from ⟨fun _ => ((h.2 q0).1 q1), fun q => absurd (by decide) q⟩), fun q1 => (show (((1 : Int32) = (0 : Int32)) → _) ∧ (¬ ((1 : Int32) = (0 : Int32)) → 2 ≤ 2 ∧ 0 ≤ 8 ∧ True ∧ sX0_copyFrom [.inr (.inr (3, 1)), .inr (.inr (3, 0))] σ (fun vv tt => X 24 [some (.inr (.inr (0, 0))), some (.inl a), none] (vv.toList ++ []) tt)) from ⟨fun q => absurd q (by decide), fun _ => ⟨am_le rfl, am_le rfl, trivial, ((h.2 q0).2 q1)⟩⟩)⟩⟩)⟩)
set_option maxRecDepth 100000 in
set_option maxHeartbeats 400000 in
theorem b_xw24 {K : Option am_V → am_M → Prop} {X : Nat → am_L → List am_V → am_M → Prop} (hX : am_cl eX6_when lX6_when (some .int) K X) {σ : am_M} (a : Int32) (h : X 26 [some (.inr (.inr (0, 0))), some (.inl a), some (.inl (0 : Int32))] [] σ) : X 24 [some (.inr (.inr (0, 0))), some (.inl a), none] [] σ := am_run_ok emX6_when hX [26] 400 (show X 26 [some (.inr (.inr (0, 0))), some (.inl a), some (.inl (0 : Int32))] [] σ from h)
set_option maxRecDepth 100000 in
set_option maxHeartbeats 400000 in
theorem b_xw26 {K : Option am_V → am_M → Prop} {X : Nat → am_L → List am_V → am_M → Prop} (hX : am_cl eX6_when lX6_when (some .int) K X) {σ : am_M} (a t : Int32) (h : (((30 : Int32) < t) → K (some (.inl (-4 : Int32))) σ) ∧ (¬ ((30 : Int32) < t) → (vp_in a 9) ∧ ((((σ 5 (9 * 1 + a.toNatClampNeg) 6) = (3 : Int32)) → K (some (.inl t)) σ) ∧ (¬ ((σ 5 (9 * 1 + a.toNatClampNeg) 6) = (3 : Int32)) → sX0_passHour [.inr (.inr (3, 1))] σ (fun vv tt => X 57 [some (.inr (.inr (0, 0))), some (.inl a), some (.inl t)] (vv.toList ++ []) tt))))) : X 26 [some (.inr (.inr (0, 0))), some (.inl a), some (.inl t)] [] σ := am_run_ok emX6_when hX [57] 400 (show (((30 : Int32) < t) → K (some (.inl (-4 : Int32))) σ) ∧ (¬ ((30 : Int32) < t) → (vp_in a 9) ∧ ((vp_in (6 : Int32) 7) ∧ ((((σ 5 (9 * 1 + a.toNatClampNeg) 6) = (3 : Int32)) → K (some (.inl t)) σ) ∧ (¬ ((σ 5 (9 * 1 + a.toNatClampNeg) 6) = (3 : Int32)) → 1 ≤ 1 ∧ 0 ≤ 8 ∧ True ∧ sX0_passHour [.inr (.inr (3, 1))] σ (fun vv tt => X 57 [some (.inr (.inr (0, 0))), some (.inl a), some (.inl t)] (vv.toList ++ []) tt))))) from ⟨fun q0 => (h.1 q0), fun q0 => ⟨(h.2 q0).1, ⟨am_ci (by decide), ⟨fun q1 => ((h.2 q0).2.1 q1), fun q1 => ⟨am_le rfl, am_le rfl, trivial, ((h.2 q0).2.2 q1)⟩⟩⟩⟩⟩)
set_option maxRecDepth 100000 in
set_option maxHeartbeats 400000 in
theorem b_xw57 {K : Option am_V → am_M → Prop} {X : Nat → am_L → List am_V → am_M → Prop} (hX : am_cl eX6_when lX6_when (some .int) K X) {σ : am_M} (a t : Int32) (h : X 26 [some (.inr (.inr (0, 0))), some (.inl a), some (.inl (t + (1 : Int32)))] [] σ) : X 57 [some (.inr (.inr (0, 0))), some (.inl a), some (.inl t)] [] σ := am_run_ok emX6_when hX [26] 400 (show X 26 [some (.inr (.inr (0, 0))), some (.inl a), some (.inl (t + (1 : Int32)))] [] σ from h)
set_option maxRecDepth 100000 in
set_option maxHeartbeats 400000 in
theorem b_yw0 {K : Option am_V → am_M → Prop} {X : Nat → am_L → List am_V → am_M → Prop} (hX : am_cl eX7_when lX7_when (some .int) K X) {σ : am_M} (a : Int32) (h : (((a) < (0 : Int32)) → K (some (.inl (-1 : Int32))) σ) ∧ (¬ ((a) < (0 : Int32)) → ((((σ 20 0 1) - (1 : Int32)) < (a)) → K (some (.inl (-1 : Int32))) σ) ∧ (¬ (((σ 20 0 1) - (1 : Int32)) < (a)) → sX7_copies [.inr (.inr (20, 0)), .inl (0 : Int32), .inl (272 : Int32)] σ (fun vv tt => X 18 [some (.inr (.inr (20, 0))), some (.inl a), none] (vv.toList ++ []) tt)))) : X 0 [some (.inr (.inr (20, 0))), some (.inl a), none] [] σ := am_run_ok emX7_when hX [18] 400 (show 2 ≤ 2 ∧ 0 ≤ 8 ∧ True ∧ sX7_isOne [.inr (.inr (20, 0)), .inl a] σ (fun vv tt => am_run eX7_when lX7_when (some .int) K X [18] 397 5 [some (.inr (.inr (20, 0))), some (.inl a), none] (vv.toList ++ []) tt) from ⟨am_le rfl, am_le rfl, trivial, tX7_isOne (⟨fun q0 => (show (((0 : Int32) = (0 : Int32)) → K (some (.inl (-1 : Int32))) σ) ∧ (¬ ((0 : Int32) = (0 : Int32)) → _) from ⟨fun _ => (h.1 q0), fun q => absurd (by decide) q⟩), fun q0 => ⟨fun q1 => (show (((0 : Int32) = (0 : Int32)) → K (some (.inl (-1 : Int32))) σ) ∧ (¬ ((0 : Int32) = (0 : Int32)) → _) from ⟨fun _ => ((h.2 q0).1 q1), fun q => absurd (by decide) q⟩), fun q1 => (show (((1 : Int32) = (0 : Int32)) → _) ∧ (¬ ((1 : Int32) = (0 : Int32)) → 3 ≤ 3 ∧ 0 ≤ 8 ∧ True ∧ sX7_copies [.inr (.inr (20, 0)), .inl (0 : Int32), .inl (272 : Int32)] σ (fun vv tt => X 18 [some (.inr (.inr (20, 0))), some (.inl a), none] (vv.toList ++ []) tt)) from ⟨fun q => absurd q (by decide), fun _ => ⟨am_le rfl, am_le rfl, trivial, ((h.2 q0).2 q1)⟩⟩)⟩⟩)⟩)
set_option maxRecDepth 100000 in
set_option maxHeartbeats 400000 in
theorem b_yw18 {K : Option am_V → am_M → Prop} {X : Nat → am_L → List am_V → am_M → Prop} (hX : am_cl eX7_when lX7_when (some .int) K X) {σ : am_M} (a : Int32) (h : X 20 [some (.inr (.inr (20, 0))), some (.inl a), some (.inl (0 : Int32))] [] σ) : X 18 [some (.inr (.inr (20, 0))), some (.inl a), none] [] σ := am_run_ok emX7_when hX [20] 400 (show X 20 [some (.inr (.inr (20, 0))), some (.inl a), some (.inl (0 : Int32))] [] σ from h)
set_option maxRecDepth 100000 in
set_option maxHeartbeats 400000 in
theorem b_yw20 {K : Option am_V → am_M → Prop} {X : Nat → am_L → List am_V → am_M → Prop} (hX : am_cl eX7_when lX7_when (some .int) K X) {σ : am_M} (a t : Int32) (h : (((30 : Int32) < t) → K (some (.inl (-4 : Int32))) σ) ∧ (¬ ((30 : Int32) < t) → (vp_in (((272 : Int32) + ((7 : Int32) * a)) + (6 : Int32)) 340) ∧ ((((σ 21 0 (((272 : Int32) + ((7 : Int32) * a)) + (6 : Int32)).toNatClampNeg) = (3 : Int32)) → K (some (.inl t)) σ) ∧ (¬ ((σ 21 0 (((272 : Int32) + ((7 : Int32) * a)) + (6 : Int32)).toNatClampNeg) = (3 : Int32)) → sX7_anHour [.inr (.inr (20, 0)), .inl (272 : Int32)] σ (fun vv tt => X 47 [some (.inr (.inr (20, 0))), some (.inl a), some (.inl t)] (vv.toList ++ []) tt))))) : X 20 [some (.inr (.inr (20, 0))), some (.inl a), some (.inl t)] [] σ := am_run_ok emX7_when hX [47] 400 (show (((30 : Int32) < t) → K (some (.inl (-4 : Int32))) σ) ∧ (¬ ((30 : Int32) < t) → 4 ≤ 4 ∧ 0 ≤ 8 ∧ True ∧ sX7_is [.inr (.inr (20, 0)), .inl (272 : Int32), .inl a, .inl (3 : Int32)] σ (fun vv tt => am_run eX7_when lX7_when (some .int) K X [47] 392 35 [some (.inr (.inr (20, 0))), some (.inl a), some (.inl t)] (vv.toList ++ []) tt)) from ⟨fun q0 => (h.1 q0), fun q0 => ⟨am_le rfl, am_le rfl, trivial, tX7_is (⟨(h.2 q0).1, ⟨fun q1 => (show (((1 : Int32) = (0 : Int32)) → _) ∧ (¬ ((1 : Int32) = (0 : Int32)) → K (some (.inl t)) σ) from ⟨fun q => absurd q (by decide), fun _ => ((h.2 q0).2.1 q1)⟩), fun q1 => (show (((0 : Int32) = (0 : Int32)) → 2 ≤ 2 ∧ 0 ≤ 8 ∧ True ∧ sX7_anHour [.inr (.inr (20, 0)), .inl (272 : Int32)] σ (fun vv tt => X 47 [some (.inr (.inr (20, 0))), some (.inl a), some (.inl t)] (vv.toList ++ []) tt)) ∧ (¬ ((0 : Int32) = (0 : Int32)) → _) from ⟨fun _ => ⟨am_le rfl, am_le rfl, trivial, ((h.2 q0).2.2 q1)⟩, fun q => absurd (by decide) q⟩)⟩⟩)⟩⟩)
set_option maxRecDepth 100000 in
set_option maxHeartbeats 400000 in
theorem b_yw47 {K : Option am_V → am_M → Prop} {X : Nat → am_L → List am_V → am_M → Prop} (hX : am_cl eX7_when lX7_when (some .int) K X) {σ : am_M} (a t : Int32) (h : X 20 [some (.inr (.inr (20, 0))), some (.inl a), some (.inl (t + (1 : Int32)))] [] σ) : X 47 [some (.inr (.inr (20, 0))), some (.inl a), some (.inl t)] [] σ := am_run_ok emX7_when hX [20] 400 (show X 20 [some (.inr (.inr (20, 0))), some (.inl a), some (.inl (t + (1 : Int32)))] [] σ from h)
set_option maxRecDepth 100000 in
set_option maxHeartbeats 400000 in
theorem b_xk0 {K : Option am_V → am_M → Prop} {X : Nat → am_L → List am_V → am_M → Prop} (hX : am_cl eX6_keep lX6_keep (some .int) K X) {σ : am_M} (a : Int32) (h : ((a < (0 : Int32)) → K (some (.inl (-1 : Int32))) σ) ∧ (¬ (a < (0 : Int32)) → (((1 : Int32) < a) → K (some (.inl (-1 : Int32))) σ) ∧ (¬ ((1 : Int32) < a) → (vp_in a 2) ∧ ((((σ 15 0 a.toNatClampNeg) = (0 : Int32)) → (vp_in a 2) ∧ (sX0_copyFrom [.inr (.inr (3, (2 + a.toNatClampNeg))), .inr (.inr (3, 0))] σ (fun vv tt => X 39 [some (.inr (.inr (0, 0))), some (.inl a), some (.inl (0 : Int32))] (vv.toList ++ []) tt))) ∧ (¬ ((σ 15 0 a.toNatClampNeg) = (0 : Int32)) → (vp_in a 2) ∧ (sX0_copyFrom [.inr (.inr (3, (2 + a.toNatClampNeg))), .inr (.inr (3, 0))] σ (fun vv tt => X 39 [some (.inr (.inr (0, 0))), some (.inl a), some (.inl (1 : Int32))] (vv.toList ++ []) tt))))))) : X 0 [some (.inr (.inr (0, 0))), some (.inl a), none] [] σ := am_run_ok emX6_keep hX [39] 400 (show 3 ≤ 3 ∧ 0 ≤ 8 ∧ sX6_isWithin [.inl a, .inl (0 : Int32), .inl (1 : Int32)] σ (fun vv tt => am_run eX6_keep lX6_keep (some .int) K X [39] 396 6 [some (.inr (.inr (0, 0))), some (.inl a), none] (vv.toList ++ []) tt) from ⟨am_le rfl, am_le rfl, tX6_isWithin (⟨fun q0 => (show (((0 : Int32) = (0 : Int32)) → K (some (.inl (-1 : Int32))) σ) ∧ (¬ ((0 : Int32) = (0 : Int32)) → _) from ⟨fun _ => (h.1 q0), fun q => absurd (by decide) q⟩), fun q0 => ⟨fun q1 => (show (((0 : Int32) = (0 : Int32)) → K (some (.inl (-1 : Int32))) σ) ∧ (¬ ((0 : Int32) = (0 : Int32)) → _) from ⟨fun _ => ((h.2 q0).1 q1), fun q => absurd (by decide) q⟩), fun q1 => (show (((1 : Int32) = (0 : Int32)) → _) ∧ (¬ ((1 : Int32) = (0 : Int32)) → (vp_in a 2) ∧ ((((σ 15 0 a.toNatClampNeg) = (0 : Int32)) → (vp_in a 2) ∧ (2 ≤ 2 ∧ 0 ≤ 8 ∧ True ∧ sX0_copyFrom [.inr (.inr (3, (2 + a.toNatClampNeg))), .inr (.inr (3, 0))] σ (fun vv tt => X 39 [some (.inr (.inr (0, 0))), some (.inl a), some (.inl (0 : Int32))] (vv.toList ++ []) tt))) ∧ (¬ ((σ 15 0 a.toNatClampNeg) = (0 : Int32)) → (vp_in a 2) ∧ (2 ≤ 2 ∧ 0 ≤ 8 ∧ True ∧ sX0_copyFrom [.inr (.inr (3, (2 + a.toNatClampNeg))), .inr (.inr (3, 0))] σ (fun vv tt => X 39 [some (.inr (.inr (0, 0))), some (.inl a), some (.inl (1 : Int32))] (vv.toList ++ []) tt))))) from ⟨fun q => absurd q (by decide), fun _ => ⟨((h.2 q0).2 q1).1, ⟨fun q2 => ⟨(((h.2 q0).2 q1).2.1 q2).1, ⟨am_le rfl, am_le rfl, trivial, (((h.2 q0).2 q1).2.1 q2).2⟩⟩, fun q2 => ⟨(((h.2 q0).2 q1).2.2 q2).1, ⟨am_le rfl, am_le rfl, trivial, (((h.2 q0).2 q1).2.2 q2).2⟩⟩⟩⟩⟩)⟩⟩)⟩)
set_option maxRecDepth 100000 in
set_option maxHeartbeats 400000 in
theorem b_xk39 {K : Option am_V → am_M → Prop} {X : Nat → am_L → List am_V → am_M → Prop} (hX : am_cl eX6_keep lX6_keep (some .int) K X) {σ : am_M} (a w : Int32) (h : (vp_in a 2) ∧ (K (some (.inl w)) (am_u σ 15 0 a.toNatClampNeg (vp_nar .boolean (1 : Int32))))) : X 39 [some (.inr (.inr (0, 0))), some (.inl a), some (.inl w)] [] σ := am_run_ok emX6_keep hX [] 400 (show (vp_in a 2) ∧ (K (some (.inl w)) (am_u σ 15 0 a.toNatClampNeg (vp_nar .boolean (1 : Int32)))) from ⟨h.1, h.2⟩)
set_option maxRecDepth 100000 in
set_option maxHeartbeats 400000 in
theorem b_yk0 {K : Option am_V → am_M → Prop} {X : Nat → am_L → List am_V → am_M → Prop} (hX : am_cl eX7_keep lX7_keep (some .int) K X) {σ : am_M} (a : Int32) (h : ((a < (0 : Int32)) → K (some (.inl (-1 : Int32))) σ) ∧ (¬ (a < (0 : Int32)) → (((1 : Int32) < a) → K (some (.inl (-1 : Int32))) σ) ∧ (¬ ((1 : Int32) < a) → sX7_copies [.inr (.inr (20, 0)), .inl (0 : Int32), .inl ((68 : Int32) * (a + (1 : Int32)))] σ (fun vv tt => X 23 [some (.inr (.inr (20, 0))), some (.inl a), none] (vv.toList ++ []) tt)))) : X 0 [some (.inr (.inr (20, 0))), some (.inl a), none] [] σ := am_run_ok emX7_keep hX [23] 400 (show 3 ≤ 3 ∧ 0 ≤ 8 ∧ sX7_in [.inr (.inl (a).toInt64), .inr (.inl (0 : Int64)), .inr (.inl (1 : Int64))] σ (fun vv tt => am_run eX7_keep lX7_keep (some .int) K X [23] 395 7 [some (.inr (.inr (20, 0))), some (.inl a), none] (vv.toList ++ []) tt) from ⟨am_le rfl, am_le rfl, uX7_in (v := a) (a := (0 : Int32)) (b := (1 : Int32)) (⟨fun q0 => (show (((0 : Int32) = (0 : Int32)) → K (some (.inl (-1 : Int32))) σ) ∧ (¬ ((0 : Int32) = (0 : Int32)) → _) from ⟨fun _ => (h.1 q0), fun q => absurd (by decide) q⟩), fun q0 => ⟨fun q1 => (show (((0 : Int32) = (0 : Int32)) → K (some (.inl (-1 : Int32))) σ) ∧ (¬ ((0 : Int32) = (0 : Int32)) → _) from ⟨fun _ => ((h.2 q0).1 q1), fun q => absurd (by decide) q⟩), fun q1 => (show (((1 : Int32) = (0 : Int32)) → _) ∧ (¬ ((1 : Int32) = (0 : Int32)) → 3 ≤ 3 ∧ 0 ≤ 8 ∧ True ∧ sX7_copies [.inr (.inr (20, 0)), .inl (0 : Int32), .inl ((68 : Int32) * (a + (1 : Int32)))] σ (fun vv tt => X 23 [some (.inr (.inr (20, 0))), some (.inl a), none] (vv.toList ++ []) tt)) from ⟨fun q => absurd q (by decide), fun _ => ⟨am_le rfl, am_le rfl, trivial, ((h.2 q0).2 q1)⟩⟩)⟩⟩)⟩)
set_option maxRecDepth 100000 in
set_option maxHeartbeats 400000 in
theorem b_yk23 {K : Option am_V → am_M → Prop} {X : Nat → am_L → List am_V → am_M → Prop} (hX : am_cl eX7_keep lX7_keep (some .int) K X) {σ : am_M} (a : Int32) (h : (vp_in a 2) ∧ ((((σ 28 0 a.toNatClampNeg) = (0 : Int32)) → (vp_in a 2) ∧ (K (some (.inl (0 : Int32))) (am_u σ 28 0 a.toNatClampNeg (vp_nar .boolean (1 : Int32))))) ∧ (¬ ((σ 28 0 a.toNatClampNeg) = (0 : Int32)) → (vp_in a 2) ∧ (K (some (.inl (1 : Int32))) (am_u σ 28 0 a.toNatClampNeg (vp_nar .boolean (1 : Int32))))))) : X 23 [some (.inr (.inr (20, 0))), some (.inl a), none] [] σ := am_run_ok emX7_keep hX [] 400 (show (vp_in a 2) ∧ ((((σ 28 0 a.toNatClampNeg) = (0 : Int32)) → (vp_in a 2) ∧ (K (some (.inl (0 : Int32))) (am_u σ 28 0 a.toNatClampNeg (vp_nar .boolean (1 : Int32))))) ∧ (¬ ((σ 28 0 a.toNatClampNeg) = (0 : Int32)) → (vp_in a 2) ∧ (K (some (.inl (1 : Int32))) (am_u σ 28 0 a.toNatClampNeg (vp_nar .boolean (1 : Int32)))))) from ⟨h.1, ⟨fun q0 => ⟨(h.2.1 q0).1, (h.2.1 q0).2⟩, fun q0 => ⟨(h.2.2 q0).1, (h.2.2 q0).2⟩⟩⟩)
set_option maxRecDepth 100000 in
set_option maxHeartbeats 400000 in
theorem b_xq0 {K : Option am_V → am_M → Prop} {X : Nat → am_L → List am_V → am_M → Prop} (hX : am_cl eX6_back lX6_back (some .int) K X) {σ : am_M} (a : Int32) (h : ((a < (0 : Int32)) → K (some (.inl (-1 : Int32))) σ) ∧ (¬ (a < (0 : Int32)) → (((1 : Int32) < a) → K (some (.inl (-1 : Int32))) σ) ∧ (¬ ((1 : Int32) < a) → (vp_in a 2) ∧ ((((σ 15 0 a.toNatClampNeg) = (0 : Int32)) → K (some (.inl (-2 : Int32))) σ) ∧ (¬ ((σ 15 0 a.toNatClampNeg) = (0 : Int32)) → (vp_in a 2) ∧ (sX0_copyFrom [.inr (.inr (3, 0)), .inr (.inr (3, (2 + a.toNatClampNeg)))] σ (fun vv tt => X 36 [some (.inr (.inr (0, 0))), some (.inl a)] (vv.toList ++ []) tt))))))) : X 0 [some (.inr (.inr (0, 0))), some (.inl a)] [] σ := am_run_ok emX6_back hX [36] 400 (show 3 ≤ 3 ∧ 0 ≤ 8 ∧ sX6_isWithin [.inl a, .inl (0 : Int32), .inl (1 : Int32)] σ (fun vv tt => am_run eX6_back lX6_back (some .int) K X [36] 396 6 [some (.inr (.inr (0, 0))), some (.inl a)] (vv.toList ++ []) tt) from ⟨am_le rfl, am_le rfl, tX6_isWithin (⟨fun q0 => (show (((0 : Int32) = (0 : Int32)) → K (some (.inl (-1 : Int32))) σ) ∧ (¬ ((0 : Int32) = (0 : Int32)) → _) from ⟨fun _ => (h.1 q0), fun q => absurd (by decide) q⟩), fun q0 => ⟨fun q1 => (show (((0 : Int32) = (0 : Int32)) → K (some (.inl (-1 : Int32))) σ) ∧ (¬ ((0 : Int32) = (0 : Int32)) → _) from ⟨fun _ => ((h.2 q0).1 q1), fun q => absurd (by decide) q⟩), fun q1 => (show (((1 : Int32) = (0 : Int32)) → _) ∧ (¬ ((1 : Int32) = (0 : Int32)) → (vp_in a 2) ∧ ((((σ 15 0 a.toNatClampNeg) = (0 : Int32)) → K (some (.inl (-2 : Int32))) σ) ∧ (¬ ((σ 15 0 a.toNatClampNeg) = (0 : Int32)) → (vp_in a 2) ∧ (2 ≤ 2 ∧ 0 ≤ 8 ∧ True ∧ sX0_copyFrom [.inr (.inr (3, 0)), .inr (.inr (3, (2 + a.toNatClampNeg)))] σ (fun vv tt => X 36 [some (.inr (.inr (0, 0))), some (.inl a)] (vv.toList ++ []) tt))))) from ⟨fun q => absurd q (by decide), fun _ => ⟨((h.2 q0).2 q1).1, ⟨fun q2 => (((h.2 q0).2 q1).2.1 q2), fun q2 => ⟨(((h.2 q0).2 q1).2.2 q2).1, ⟨am_le rfl, am_le rfl, trivial, (((h.2 q0).2 q1).2.2 q2).2⟩⟩⟩⟩⟩)⟩⟩)⟩)
set_option maxRecDepth 100000 in
set_option maxHeartbeats 400000 in
theorem b_xq36 {K : Option am_V → am_M → Prop} {X : Nat → am_L → List am_V → am_M → Prop} (hX : am_cl eX6_back lX6_back (some .int) K X) {σ : am_M} (a : Int32) (h : K (some (.inl (σ 3 0 5))) σ) : X 36 [some (.inr (.inr (0, 0))), some (.inl a)] [] σ := am_run_ok emX6_back hX [] 400 (show K (some (.inl (σ 3 0 5))) σ from h)
set_option maxRecDepth 100000 in
set_option maxHeartbeats 400000 in
theorem b_yq0 {K : Option am_V → am_M → Prop} {X : Nat → am_L → List am_V → am_M → Prop} (hX : am_cl eX7_back lX7_back (some .int) K X) {σ : am_M} (a : Int32) (h : ((a < (0 : Int32)) → K (some (.inl (-1 : Int32))) σ) ∧ (¬ (a < (0 : Int32)) → (((1 : Int32) < a) → K (some (.inl (-1 : Int32))) σ) ∧ (¬ ((1 : Int32) < a) → (vp_in a 2) ∧ ((((σ 28 0 a.toNatClampNeg) = (0 : Int32)) → K (some (.inl (-2 : Int32))) σ) ∧ (¬ ((σ 28 0 a.toNatClampNeg) = (0 : Int32)) → sX7_copies [.inr (.inr (20, 0)), .inl ((68 : Int32) * (a + (1 : Int32))), .inl (0 : Int32)] σ (fun vv tt => X 35 [some (.inr (.inr (20, 0))), some (.inl a)] (vv.toList ++ []) tt)))))) : X 0 [some (.inr (.inr (20, 0))), some (.inl a)] [] σ := am_run_ok emX7_back hX [35] 400 (show 3 ≤ 3 ∧ 0 ≤ 8 ∧ sX7_in [.inr (.inl (a).toInt64), .inr (.inl (0 : Int64)), .inr (.inl (1 : Int64))] σ (fun vv tt => am_run eX7_back lX7_back (some .int) K X [35] 395 7 [some (.inr (.inr (20, 0))), some (.inl a)] (vv.toList ++ []) tt) from ⟨am_le rfl, am_le rfl, uX7_in (v := a) (a := (0 : Int32)) (b := (1 : Int32)) (⟨fun q0 => (show (((0 : Int32) = (0 : Int32)) → K (some (.inl (-1 : Int32))) σ) ∧ (¬ ((0 : Int32) = (0 : Int32)) → _) from ⟨fun _ => (h.1 q0), fun q => absurd (by decide) q⟩), fun q0 => ⟨fun q1 => (show (((0 : Int32) = (0 : Int32)) → K (some (.inl (-1 : Int32))) σ) ∧ (¬ ((0 : Int32) = (0 : Int32)) → _) from ⟨fun _ => ((h.2 q0).1 q1), fun q => absurd (by decide) q⟩), fun q1 => (show (((1 : Int32) = (0 : Int32)) → _) ∧ (¬ ((1 : Int32) = (0 : Int32)) → (vp_in a 2) ∧ ((((σ 28 0 a.toNatClampNeg) = (0 : Int32)) → K (some (.inl (-2 : Int32))) σ) ∧ (¬ ((σ 28 0 a.toNatClampNeg) = (0 : Int32)) → 3 ≤ 3 ∧ 0 ≤ 8 ∧ True ∧ sX7_copies [.inr (.inr (20, 0)), .inl ((68 : Int32) * (a + (1 : Int32))), .inl (0 : Int32)] σ (fun vv tt => X 35 [some (.inr (.inr (20, 0))), some (.inl a)] (vv.toList ++ []) tt)))) from ⟨fun q => absurd q (by decide), fun _ => ⟨((h.2 q0).2 q1).1, ⟨fun q2 => (((h.2 q0).2 q1).2.1 q2), fun q2 => ⟨am_le rfl, am_le rfl, trivial, (((h.2 q0).2 q1).2.2 q2)⟩⟩⟩⟩)⟩⟩)⟩)
set_option maxRecDepth 100000 in
set_option maxHeartbeats 400000 in
theorem b_yq35 {K : Option am_V → am_M → Prop} {X : Nat → am_L → List am_V → am_M → Prop} (hX : am_cl eX7_back lX7_back (some .int) K X) {σ : am_M} (a : Int32) (h : K (some (.inl (σ 21 0 66))) σ) : X 35 [some (.inr (.inr (20, 0))), some (.inl a)] [] σ := am_run_ok emX7_back hX [] 400 (show (vp_in (66 : Int32) 340) ∧ (K (some (.inl (σ 21 0 66))) σ) from ⟨am_ci (by decide), h⟩)
theorem iv_tri {σ : am_M} {n pl : Nat} (hv : iv σ n pl) : c_cp σ 1 0 n 3 1 1 = nI n ∧ c_cp σ 1 0 n 3 1 2 = nI pl ∧ c_cp σ 1 0 n 3 1 5 = σ 3 0 5 ∧ c_cp σ 1 0 n 3 1 6 = σ 3 0 6 ∧ (∀ p j, p < n → j < 7 → c_r (c_cp σ 1 0 n) 1 p j = c_r σ 0 p j) ∧ p_inv (c_r (c_cp σ 1 0 n) 1) n pl ∧ r_ok (c_r (c_cp σ 1 0 n) 1) n := by
  obtain ⟨h9, a1, ⟨b1, b2, b3, b4, b5, b6, b7, b8, b9, b10, b11⟩, -⟩ := hv
  have e : ∀ p j, p < n → j < 7 → c_r (c_cp σ 1 0 n) 1 p j = c_r σ 0 p j := fun p j hp hj => c_cp_r hp hj
  exact ⟨by rw [c_cp_3 (by omega)]; exact b1, by rw [c_cp_3 (by omega)]; exact b3, c_cp_3 (by omega), c_cp_3 (by omega), e, p_inv_cg (fun p hp => by rw [e p 6 hp (by decide)]) b11, fun p j hp hj => by rw [e p j hp hj]; exact b10 p j hp hj⟩
theorem iv_trm {σ τ : am_M} {n pl : Nat} {r : Rw} (hv : iv σ n pl) (e21 : τ 21 = σ 21) (hr : ∀ p j, p < n → j < 7 → r p j = c_r σ 0 p j) : m_set (m_cp τ 0 272 68) 272 n r (σ 3 0 5) (σ 3 0 6) = m_cp τ 0 272 68 ∧ m_at (m_cp τ 0 272 68) 272 n r ∧ m_cp τ 0 272 68 21 0 (272 + 63) + 3 = nI pl := by
  obtain ⟨h9, a1, ⟨b1, b2, b3, b4, b5, b6, b7, b8, b9, b10, b11⟩, -⟩ := hv
  have c : ∀ j, j < 68 → m_cp τ 0 272 68 21 0 (272 + j) = σ 21 0 j := fun j hj => by
    rw [m_cp_i, if_pos (by omega), e21, show 0 + (272 + j - 272) = j by omega]
  have em : ∀ p j, p < n → j < 7 → m_r (m_cp τ 0 272 68) 272 p j = r p j := fun p j hp hj => by
    rw [hr p j hp hj, b2 p j hp hj]
    unfold m_r
    rw [Nat.add_assoc, c _ (by omega), Nat.zero_add]
  refine ⟨?_, Or.inr ⟨by decide, fun q j hq hj => ?_⟩, by rw [c 63 (by decide)]; exact b4⟩
  · rw [← m_set_cg h9 em, b8.1, b9, show σ 21 0 (0 + 66) = m_cp τ 0 272 68 21 0 (272 + 66) from (c 66 (by decide)).symm, show σ 21 0 (0 + 67) = m_cp τ 0 272 68 21 0 (272 + 67) from (c 67 (by decide)).symm]
    exact m_set_id h9
  · rw [hr q j hq (by omega), b2 q j hq (by omega)]
    unfold m_r
    rw [m_cp_i, if_neg (by omega), e21]
theorem m_n_of {σ : am_M} {n : Nat} (h : σ 20 0 1 = nI n) (h9 : n ≤ 9) : m_n σ = n ∧ m_ok σ := by
  unfold m_n
  rw [h, nI_clamp (by omega)]
  exact ⟨rfl, q_lim_of h h9 (by decide)⟩
theorem c_n_of {σ : am_M} {c n : Nat} (h : σ 3 c 1 = nI n) (h9 : n ≤ 9) : c_n σ c = n ∧ c_ok σ c := by
  unfold c_n
  rw [h, nI_clamp (by omega)]
  exact ⟨rfl, q_lim_of h h9 (by decide)⟩
theorem uX0_copyFrom {σ : am_M} {c d n : Nat} {K : am_K} (hc : c ≠ d) (ho : σ 3 d 1 = nI n) (h9 : n ≤ 9) (h : K none (c_cp σ c d n)) : sX0_copyFrom [.inr (.inr (3, c)), .inr (.inr (3, d))] σ K := by
  obtain ⟨e, k⟩ := c_n_of ho h9
  exact tX0_copyFrom hc k (by rw [e]; exact h)
theorem uX7_goesOn2 {σ τ : am_M} {n pl m : Nat} {r : Rw} {K : am_K} (hv : iv σ n pl) (e20 : τ 20 = σ 20) (e21 : τ 21 = σ 21) (hr : ∀ p j, p < n → j < 7 → r p j = c_r σ 0 p j) (hk : r_ok r n) (hm : m < 2 ^ 31) (h : K (some (.inl ((p_hrs n pl r (σ 3 0 5) (σ 3 0 6) m).2 - σ 3 0 6))) (m_set (m_cp τ 0 272 68) 272 n (p_hrs n pl r (σ 3 0 5) (σ 3 0 6) m).1 (σ 3 0 5 + nI m) (p_hrs n pl r (σ 3 0 5) (σ 3 0 6) m).2)) : sX7_goesOn [.inr (.inr (20, 0)), .inl (nI 272), .inl (nI m)] (m_cp τ 0 272 68) K := by
  obtain ⟨k1, k2, k3⟩ := iv_trm hv e21 hr
  have a1 : m_cp τ 0 272 68 20 0 1 = nI n := by
    rw [m_cp_k (by decide), e20]
    exact hv.2.1
  obtain ⟨hn, ho⟩ := m_n_of a1 hv.1
  have := tX7_goesOn (σ := m_cp τ 0 272 68) (g := 272) (pl := pl) (m := m) (r := r) (hr := σ 3 0 5) (bt := σ 3 0 6) (K := K) (by decide) ho k3 hv.2.2.1.2.2.2.2.1.2 hm (by rw [hn]; exact k2) (by rw [hn]; exact rok_pat hk) (by rw [hn]; exact h)
  rw [hn, k1] at this
  exact this
theorem pr_ahead {σ : am_M} {a b : Int32} (hI : Inv σ) : pairI sX6_ahead sX7_ahead [.inl a, .inl b] σ := by
  obtain ⟨n, pl, hv⟩ := id hI
  obtain ⟨h9, a1, a2, a3, a4, a5, a6, a7, a8⟩ := id hv
  obtain ⟨b1, b2, b3, b4, b5, b6, b7, b8, b9, b10, b11⟩ := id a2
  obtain ⟨t1, t2, t3, t4, t5, t6, t7⟩ := iv_tri hv
  refine ⟨am_le rfl, fun X hX => b_xh0 hX a b ⟨fun c1 => ⟨_, rfl, am_le rfl, fun Y hY => b_yh0 hY _ _ ⟨fun _ => ⟨rfl, hI⟩, fun q => absurd c1 q⟩⟩, fun c1 => ⟨fun c2 => ⟨_, rfl, am_le rfl, fun Y hY => b_yh0 hY _ _ ⟨fun q => absurd q c1, fun _ => ⟨fun _ => ⟨rfl, hI⟩, fun q => absurd c2 q⟩⟩⟩, fun c2 => ⟨fun c3 => ⟨_, rfl, am_le rfl, fun Y hY => b_yh0 hY _ _ ⟨fun q => absurd q c1, fun _ => ⟨fun q => absurd q c2, fun _ => ⟨fun _ => ⟨rfl, hI⟩, fun q => absurd c3 q⟩⟩⟩⟩, fun c3 => ⟨fun c4 => ⟨_, rfl, am_le rfl, fun Y hY => b_yh0 hY _ _ ⟨fun q => absurd q c1, fun _ => ⟨fun q => absurd q c2, fun _ => ⟨fun q => absurd q c3, fun _ => ⟨fun _ => ⟨rfl, hI⟩, fun q => absurd c4 q⟩⟩⟩⟩⟩, fun c4 => ?_⟩⟩⟩⟩⟩
  obtain ⟨m, m30, rfl⟩ := q_0b (b := 30) rfl (by decide) c1 c2
  refine uX0_copyFrom (by decide) b1 h9 (b_xh32 hX _ _ (uX0_passHours t1 h9 t2 b5.2 (by omega) t6 (b_xh40 hX _ _ _ ?_)))
  rw [t3, t4]
  obtain ⟨cn1, ck1⟩ := c_n_of t1 h9
  generalize hr1 : c_r (c_cp σ 1 0 n) 1 = r at t5 t6 t7 ⊢
  have z1 : ivz σ (c_set (c_cp σ 1 0 n) 1 n (p_hrs n pl r (σ 3 0 5) (σ 3 0 6) m).1 (σ 3 0 5 + nI m) (p_hrs n pl r (σ 3 0 5) (σ 3 0 6) m).2) := ivz_trans (ivz_ccp h9) (ivz_cset h9)
  have e20 : c_set (c_cp σ 1 0 n) 1 n (p_hrs n pl r (σ 3 0 5) (σ 3 0 6) m).1 (σ 3 0 5 + nI m) (p_hrs n pl r (σ 3 0 5) (σ 3 0 6) m).2 20 = σ 20 := by rw [c_set_k (by decide) (by decide), c_cp_k (by decide) (by decide)]
  have e21 : c_set (c_cp σ 1 0 n) 1 n (p_hrs n pl r (σ 3 0 5) (σ 3 0 6) m).1 (σ 3 0 5 + nI m) (p_hrs n pl r (σ 3 0 5) (σ 3 0 6) m).2 21 = σ 21 := by rw [c_set_k (by decide) (by decide), c_cp_k (by decide) (by decide)]
  have ew : c_who (c_set (c_cp σ 1 0 n) 1 n (p_hrs n pl r (σ 3 0 5) (σ 3 0 6) m).1 (σ 3 0 5 + nI m) (p_hrs n pl r (σ 3 0 5) (σ 3 0 6) m).2) 1 b = p_who (p_hrs n pl r (σ 3 0 5) (σ 3 0 6) m).1 n b := by
    have := c_who_set (σ := c_cp σ 1 0 n) (c := 1) (r := (p_hrs n pl r (σ 3 0 5) (σ 3 0 6) m).1) (hr := σ 3 0 5 + nI m) (bt := (p_hrs n pl r (σ 3 0 5) (σ 3 0 6) m).2) (s := b)
    rw [cn1] at this
    exact this
  have ck2 : c_ok (c_set (c_cp σ 1 0 n) 1 n (p_hrs n pl r (σ 3 0 5) (σ 3 0 6) m).1 (σ 3 0 5 + nI m) (p_hrs n pl r (σ 3 0 5) (σ 3 0 6) m).2) 1 := c_ok_set ck1
  generalize hτ : c_set (c_cp σ 1 0 n) 1 n (p_hrs n pl r (σ 3 0 5) (σ 3 0 6) m).1 (σ 3 0 5 + nI m) (p_hrs n pl r (σ 3 0 5) (σ 3 0 6) m).2 = τ at z1 e20 e21 ew ck2 ⊢
  have hv1 := iv_z z1 hv
  have go : ∀ v, (b = 0 → v = (p_hrs n pl r (σ 3 0 5) (σ 3 0 6) m).2 - σ 3 0 6) → (¬ b = 0 → v = nI (p_who (p_hrs n pl r (σ 3 0 5) (σ 3 0 6) m).1 n b)) → sX7_ahead [am_r 20 0, .inl (nI m), .inl b] τ (fun w τ2 => w = some (.inl v) ∧ Inv τ2) := by
    intro v v1 v2
    refine ⟨am_le rfl, fun Y hY => b_yh0 hY _ _ ⟨fun q => absurd q c1, fun _ => ⟨fun q => absurd q c2, fun _ => ⟨fun q => absurd q c3, fun _ => ⟨fun q => absurd q c4, fun _ => ?_⟩⟩⟩⟩⟩
    refine tX7_copies (f := 0) (t := 272) (by decide) (by decide) (by decide) (b_yh34 hY _ _ (uX7_goesOn2 hv e20 e21 t5 t7 (by omega) (b_yh42 hY _ _ _ ?_)))
    have z2 : ivz τ (m_set (m_cp τ 0 272 68) 272 n (p_hrs n pl r (σ 3 0 5) (σ 3 0 6) m).1 (σ 3 0 5 + nI m) (p_hrs n pl r (σ 3 0 5) (σ 3 0 6) m).2) := ivz_trans (ivz_mcp (by decide)) (ivz_mset (by decide) h9)
    have hv2 := iv_z z2 hv1
    refine ⟨fun q => ⟨by rw [v1 q], n, pl, hv2⟩, fun q => ⟨(m_n_of hv2.2.1 h9).2, ?_, n, pl, hv2⟩⟩
    rw [v2 q, (m_n_of hv2.2.1 h9).1, m_who_set]
  refine ⟨fun q => ⟨_, rfl, go _ (fun _ => rfl) (fun w => absurd q w)⟩, fun q => ⟨ck2, _, rfl, go _ (fun w => absurd w q) (fun _ => by rw [ew])⟩⟩
/-- the first hour at which S holds -/
def w_fd (S : Nat → Bool) : Nat → Int32
  | 0 => -4
  | f + 1 => if S (30 - f) then nI (30 - f) else w_fd S f
theorem w_fd_y {S : Nat → Bool} {i : Nat} (hi : i < 31) (h : S i = true) : w_fd S (31 - i) = nI i := by
  rw [show 31 - i = (30 - i) + 1 by omega]
  show (if S (30 - (30 - i)) then nI (30 - (30 - i)) else _) = _
  rw [show 30 - (30 - i) = i by omega, if_pos h]
theorem w_fd_n {S : Nat → Bool} {i : Nat} (hi : i < 31) (h : ¬ S i = true) : w_fd S (31 - i) = w_fd S (31 - (i + 1)) := by
  rw [show 31 - i = (30 - i) + 1 by omega, show 31 - (i + 1) = 30 - i by omega]
  show (if S (30 - (30 - i)) then nI (30 - (30 - i)) else _) = _
  rw [show 30 - (30 - i) = i by omega, if_neg h]
def w_S (n pl : Nat) (r : Rw) (hr bt : Int32) (p k : Nat) : Bool := decide ((p_hrs n pl r hr bt k).1 p 6 = 3)
theorem w_l30 {k : Nat} (h : k ≤ 100) : (30 : Int32) < nI k ↔ 30 < k := nI_ltI (a := 30) (by decide) (by omega)
theorem q_hr1 (h : Int32) (k : Nat) : h + nI k + 1 = h + nI (k + 1) := by
  rw [← nI_add k 1, Int32.add_assoc]
  rfl
theorem tX6_when {σ : am_M} {n pl p : Nat} {K : am_K} (hv : iv σ n pl) (hp : p < n) (h : ∀ τ, ivz σ τ → τ 20 = σ 20 → τ 21 = σ 21 → K (some (.inl (w_fd (w_S n pl (c_r (c_cp σ 1 0 n) 1) (σ 3 0 5) (σ 3 0 6) p) 31))) τ) : sX6_when [am_r 0 0, .inl (nI p)] σ K := by
  obtain ⟨h9, a1, a2, -⟩ := id hv
  obtain ⟨b1, b2, b3, b4, b5, b6, b7, b8, b9, b10, b11⟩ := id a2
  obtain ⟨t1, t2, t3, t4, t5, t6, t7⟩ := iv_tri hv
  obtain ⟨cn1, ck1⟩ := c_n_of t1 h9
  refine ⟨am_le rfl, fun X hX => b_xw0 hX _ ⟨fun q => absurd q (nI_pos (by omega)), fun _ => ⟨fun q => ?_, fun _ => uX0_copyFrom (by decide) b1 h9 (b_xw24 hX _ ?_)⟩⟩⟩
  · rw [b1, nI_leI (by omega) (by omega)] at q
    omega
  have e0 : c_cp σ 1 0 n = c_set (c_cp σ 1 0 n) 1 n (p_hrs n pl (c_r (c_cp σ 1 0 n) 1) (σ 3 0 5) (σ 3 0 6) 0).1 (σ 3 0 5 + nI 0) (p_hrs n pl (c_r (c_cp σ 1 0 n) 1) (σ 3 0 5) (σ 3 0 6) 0).2 := by
    show _ = c_set (c_cp σ 1 0 n) 1 n (c_r (c_cp σ 1 0 n) 1) (σ 3 0 5 + 0) (σ 3 0 6)
    rw [Int32.add_zero, ← t3, ← t4]
    exact c_set_id.symm
  generalize hr1 : c_r (c_cp σ 1 0 n) 1 = r at t5 t6 t7 e0 h ⊢
  have loop := q_dn (W := fun i => (∀ τ, ivz σ τ → τ 20 = σ 20 → τ 21 = σ 21 → K (some (.inl (w_fd (w_S n pl r (σ 3 0 5) (σ 3 0 6) p) (31 - i)))) τ) → X 26 [some (am_r 0 0), some (.inl (nI p)), some (.inl (nI i))] [] (c_set (c_cp σ 1 0 n) 1 n (p_hrs n pl r (σ 3 0 5) (σ 3 0 6) i).1 (σ 3 0 5 + nI i) (p_hrs n pl r (σ 3 0 5) (σ 3 0 6) i).2)) (n := 31) (fun i hi IH hK => ?_) (fun hK => ?_) 0 (by decide) h
  · rw [e0]
    exact loop
  · refine b_xw26 hX _ _ ?_
    rw [w_l30 (by omega), nI_clamp (by omega), c_set_r hp]
    refine ⟨fun q => absurd q (by omega), fun _ => ⟨q_in (by omega) (by decide), fun q => ?_, fun q => ?_⟩⟩
    · have := hK (c_set (c_cp σ 1 0 n) 1 n (p_hrs n pl r (σ 3 0 5) (σ 3 0 6) i).1 (σ 3 0 5 + nI i) (p_hrs n pl r (σ 3 0 5) (σ 3 0 6) i).2) (ivz_trans (ivz_ccp h9) (ivz_cset h9)) (by rw [c_set_k (by decide) (by decide), c_cp_k (by decide) (by decide)]) (by rw [c_set_k (by decide) (by decide), c_cp_k (by decide) (by decide)])
      rw [w_fd_y hi (by unfold w_S; exact decide_eq_true q)] at this
      exact this
    · have ps := tX0_passHour (σ := c_cp σ 1 0 n) (c := 1) (pl := pl) (r := (p_hrs n pl r (σ 3 0 5) (σ 3 0 6) i).1) (hr := σ 3 0 5 + nI i) (bt := (p_hrs n pl r (σ 3 0 5) (σ 3 0 6) i).2) (K := fun vv tt => X 57 [some (am_r 0 0), some (.inl (nI p)), some (.inl (nI i))] (vv.toList ++ []) tt) ck1 t2 b5.2 (by rw [cn1]; exact p_inv_hrs h9 t6 i) (by
        rw [cn1, q_hr1]
        refine b_xw57 hX _ _ ?_
        rw [show nI i + (1 : Int32) = nI (i + 1) from nI_add i 1]
        refine IH ?_
        rw [← w_fd_n hi (by unfold w_S; exact fun z => q (of_decide_eq_true z))]
        exact hK)
      rw [cn1] at ps
      exact ps
  · refine b_xw26 hX _ _ ⟨fun _ => hK _ (ivz_trans (ivz_ccp h9) (ivz_cset h9)) (by rw [c_set_k (by decide) (by decide), c_cp_k (by decide) (by decide)]) (by rw [c_set_k (by decide) (by decide), c_cp_k (by decide) (by decide)]), fun q => absurd ((w_l30 (k := 31) (by decide)).2 (by decide)) q⟩
theorem m_272 (p : Nat) : (272 : Int32) + (7 : Int32) * nI p + (6 : Int32) = nI (272 + 7 * p + 6) := m_ix6 272 p
theorem tX7_when {σ τ : am_M} {n pl p : Nat} {r : Rw} {K : am_K} (hv : iv σ n pl) (e20 : τ 20 = σ 20) (e21 : τ 21 = σ 21) (hr : ∀ p j, p < n → j < 7 → r p j = c_r σ 0 p j) (hk : r_ok r n) (hp : p < n) (h : ∀ τ', ivz τ τ' → K (some (.inl (w_fd (w_S n pl r (σ 3 0 5) (σ 3 0 6) p) 31))) τ') : sX7_when [am_r 20 0, .inl (nI p)] τ K := by
  obtain ⟨h9, a1, a2, -⟩ := id hv
  obtain ⟨b1, b2, b3, b4, b5, b6, b7, b8, b9, b10, b11⟩ := id a2
  obtain ⟨k1, k2, k3⟩ := iv_trm hv e21 hr
  have a1' : m_cp τ 0 272 68 20 0 1 = nI n := by
    rw [m_cp_k (by decide), e20]
    exact hv.2.1
  obtain ⟨hn, ho⟩ := m_n_of a1' hv.1
  refine ⟨am_le rfl, fun X hX => b_yw0 hX _ ⟨fun q => absurd q (nI_pos (by omega)), fun _ => ⟨fun q => ?_, fun _ => tX7_copies (f := 0) (t := 272) (by decide) (by decide) (by decide) (b_yw18 hX _ ?_)⟩⟩⟩
  · rw [e20, a1, q_m1 (by omega), nI_leI (by omega) (by omega)] at q
    omega
  have e0 : m_cp τ 0 272 68 = m_set (m_cp τ 0 272 68) 272 n (p_hrs n pl r (σ 3 0 5) (σ 3 0 6) 0).1 (σ 3 0 5 + nI 0) (p_hrs n pl r (σ 3 0 5) (σ 3 0 6) 0).2 := by
    show _ = m_set (m_cp τ 0 272 68) 272 n r (σ 3 0 5 + 0) (σ 3 0 6)
    rw [Int32.add_zero, k1]
  have zz : ∀ r' hr' bt', ivz τ (m_set (m_cp τ 0 272 68) 272 n r' hr' bt') := fun _ _ _ => ivz_trans (ivz_mcp (by decide)) (ivz_mset (by decide) h9)
  have loop := q_dn (W := fun i => (∀ τ', ivz τ τ' → K (some (.inl (w_fd (w_S n pl r (σ 3 0 5) (σ 3 0 6) p) (31 - i)))) τ') → X 20 [some (am_r 20 0), some (.inl (nI p)), some (.inl (nI i))] [] (m_set (m_cp τ 0 272 68) 272 n (p_hrs n pl r (σ 3 0 5) (σ 3 0 6) i).1 (σ 3 0 5 + nI i) (p_hrs n pl r (σ 3 0 5) (σ 3 0 6) i).2)) (n := 31) (fun i hi IH hK => ?_) (fun hK => ?_) 0 (by decide) h
  · rw [e0]
    exact loop
  · refine b_yw20 hX _ _ ?_
    rw [w_l30 (by omega), m_272, nI_clamp (by omega), m_set_r hp (by decide)]
    refine ⟨fun q => absurd q (by omega), fun _ => ⟨q_in (by omega) (by decide), fun q => ?_, fun q => ?_⟩⟩
    · have := hK _ (zz (p_hrs n pl r (σ 3 0 5) (σ 3 0 6) i).1 (σ 3 0 5 + nI i) (p_hrs n pl r (σ 3 0 5) (σ 3 0 6) i).2)
      rw [w_fd_y hi (by unfold w_S; exact decide_eq_true q)] at this
      exact this
    · have ps := tX7_anHour (σ := m_cp τ 0 272 68) (g := 272) (pl := pl) (r := (p_hrs n pl r (σ 3 0 5) (σ 3 0 6) i).1) (hr := σ 3 0 5 + nI i) (bt := (p_hrs n pl r (σ 3 0 5) (σ 3 0 6) i).2) (K := fun vv tt => X 47 [some (am_r 20 0), some (.inl (nI p)), some (.inl (nI i))] (vv.toList ++ []) tt) (by decide) ho k3 b5.2 (by rw [hn]; exact m_at_cg k2 (fun q j hq hj => p_hrs_at (by omega) (by omega) i)) (by rw [hn]; exact pat_hrs (rok_pat hk) i) (by
        rw [hn, q_hr1]
        refine b_yw47 hX _ _ ?_
        rw [show nI i + (1 : Int32) = nI (i + 1) from nI_add i 1]
        refine IH ?_
        rw [← w_fd_n hi (by unfold w_S; exact fun z => q (of_decide_eq_true z))]
        exact hK)
      rw [hn] at ps
      exact ps
  · refine b_yw20 hX _ _ ⟨fun _ => hK _ (zz _ _ _), fun q => absurd ((w_l30 (k := 31) (by decide)).2 (by decide)) q⟩
theorem pr_when {σ : am_M} {a : Int32} (hI : Inv σ) : pairI sX6_when sX7_when [.inl a] σ := by
  obtain ⟨n, pl, hv⟩ := id hI
  obtain ⟨h9, a1, a2, -⟩ := id hv
  obtain ⟨t1, t2, t3, t4, t5, t6, t7⟩ := iv_tri hv
  have bad : (a < 0 ∨ nI n ≤ a) → pairI sX6_when sX7_when [.inl a] σ := by
    intro q
    have yb : sX7_when [am_r 20 0, .inl a] σ (fun w τ2 => w = some (.inl (-1 : Int32)) ∧ Inv τ2) := ⟨am_le rfl, fun Y hY => b_yw0 hY a (by
      rw [a1, q_m1 (by omega)]
      exact ⟨fun _ => ⟨rfl, hI⟩, fun c1 => ⟨fun _ => ⟨rfl, hI⟩, fun c2 => (q.elim c1 c2).elim⟩⟩)⟩
    refine ⟨am_le rfl, fun X hX => b_xw0 hX a ?_⟩
    rw [a2.1]
    exact ⟨fun _ => ⟨_, rfl, yb⟩, fun c1 => ⟨fun _ => ⟨_, rfl, yb⟩, fun c2 => (q.elim c1 c2).elim⟩⟩
  rcases pk_ix a (n := n) (by omega) with q | q | ⟨i, hi, rfl⟩
  · exact bad (Or.inl q)
  · exact bad (Or.inr q)
  exact tX6_when hv hi fun τ z1 e20 e21 => ⟨_, rfl, tX7_when hv e20 e21 t5 t7 hi fun τ' z2 => ⟨rfl, n, pl, iv_z z2 (iv_z z1 hv)⟩⟩
theorem cm_copy {σ τ : am_M} {c g c' g' n pl : Nat} (h9 : n ≤ 9) (h : cm σ c g n pl) (e3 : ∀ j, 1 ≤ j → j ≤ 6 → τ 3 c' j = σ 3 c j) (e5 : ∀ p j, p < n → j < 7 → τ 5 (9 * c' + p) j = σ 5 (9 * c + p) j) (e21 : ∀ j, j < 68 → τ 21 0 (g' + j) = σ 21 0 (g + j)) : cm τ c' g' n pl := by
  obtain ⟨b1, b2, b3, b4, b5, b6, b7, b8, b9, b10, b11⟩ := h
  have er : ∀ p j, p < n → j < 7 → c_r τ c' p j = c_r σ c p j := fun p j hp hj => e5 p j hp hj
  refine ⟨by rw [e3 1 (by omega) (by omega)]; exact b1, fun p j hp hj => ?_, by rw [e3 2 (by omega) (by omega)]; exact b3, by rw [e21 63 (by decide)]; exact b4, b5, by rw [e3 3 (by omega) (by omega), e21 64 (by decide)]; exact b6, by rw [e3 4 (by omega) (by omega), e21 65 (by decide)]; exact b7, by rw [e3 5 (by omega) (by omega), e21 66 (by decide)]; exact b8, by rw [e3 6 (by omega) (by omega), e21 67 (by decide)]; exact b9, fun p j hp hj => by rw [er p j hp hj]; exact b10 p j hp hj, p_inv_cg (fun p hp => by rw [er p 6 hp (by decide)]) b11⟩
  rw [er p j hp hj, b2 p j hp hj]
  unfold m_r
  rw [Nat.add_assoc, Nat.add_assoc, e21 _ (by omega)]
theorem m_68k (k : Nat) : (68 : Int32) * (nI k + (1 : Int32)) = nI (68 * (k + 1)) := by
  rw [show nI k + (1 : Int32) = nI (k + 1) from nI_add k 1]
  exact pk_mul 68 (k + 1)
theorem pr_keep {σ : am_M} {a : Int32} (hI : Inv σ) : pairI sX6_keep sX7_keep [.inl a] σ := by
  obtain ⟨n, pl, hv⟩ := id hI
  obtain ⟨h9, a1, a2, a3, a4, a5, a6, a7, a8⟩ := id hv
  obtain ⟨b1, b2, b3, b4, b5, b6, b7, b8, b9, b10, b11⟩ := id a2
  refine ⟨am_le rfl, fun X hX => b_xk0 hX a ⟨fun c1 => ⟨_, rfl, am_le rfl, fun Y hY => b_yk0 hY _ ⟨fun _ => ⟨rfl, hI⟩, fun q => absurd c1 q⟩⟩, fun c1 => ⟨fun c2 => ⟨_, rfl, am_le rfl, fun Y hY => b_yk0 hY _ ⟨fun q => absurd q c1, fun _ => ⟨fun _ => ⟨rfl, hI⟩, fun q => absurd c2 q⟩⟩⟩, fun c2 => ?_⟩⟩⟩
  obtain ⟨k, k1, rfl⟩ := q_0b (b := 1) rfl (by decide) c1 c2
  obtain ⟨i1, i2⟩ := a3 k (by omega)
  have vk : vp_in (nI k) 2 := q_in (by omega) (by decide)
  have go : ∀ v, (σ 15 0 k = 0 → v = 0) → (¬ σ 15 0 k = 0 → v = 1) → sX0_copyFrom [am_r 3 (2 + k), am_r 3 0] σ (fun vv tt => X 39 [some (am_r 0 0), some (.inl (nI k)), some (.inl v)] (vv.toList ++ []) tt) := by
    intro v v1 v2
    refine uX0_copyFrom (by omega) b1 h9 (b_xk39 hX _ _ ?_)
    rw [nI_clamp (by omega)]
    refine ⟨vk, _, rfl, am_le rfl, fun Y hY => b_yk0 hY _ ⟨fun q => absurd q c1, fun _ => ⟨fun q => absurd q c2, fun _ => ?_⟩⟩⟩
    rw [m_68k]
    refine tX7_copies (f := 0) (by decide) (by omega) (by omega) (b_yk23 hY _ ?_)
    rw [nI_clamp (by omega)]
    have e28 : m_cp (am_u (c_cp σ (2 + k) 0 n) 15 0 k (vp_nar .boolean 1)) 0 (68 * (k + 1)) 68 28 = σ 28 := by
      rw [m_cp_k (by decide), am_u_k (by decide), c_cp_k (by decide) (by decide)]
    rw [e28, ← i1]
    have fin : Inv (am_u (m_cp (am_u (c_cp σ (2 + k) 0 n) 15 0 k (vp_nar .boolean 1)) 0 (68 * (k + 1)) 68) 28 0 k (vp_nar .boolean 1)) := by
      have f : ∀ q, q ≠ 3 → q ≠ 5 → q ≠ 15 → q ≠ 21 → q ≠ 28 → am_u (m_cp (am_u (c_cp σ (2 + k) 0 n) 15 0 k (vp_nar .boolean 1)) 0 (68 * (k + 1)) 68) 28 0 k (vp_nar .boolean 1) q = σ q := fun q d3 d5 d15 d21 d28 => by
        rw [am_u_k d28, m_cp_k d21, am_u_k d15, c_cp_k d3 d5]
      have g21 : ∀ j, am_u (m_cp (am_u (c_cp σ (2 + k) 0 n) 15 0 k (vp_nar .boolean 1)) 0 (68 * (k + 1)) 68) 28 0 k (vp_nar .boolean 1) 21 0 j = if 68 * (k + 1) ≤ j ∧ j < 68 * (k + 1) + 68 then σ 21 0 (0 + (j - 68 * (k + 1))) else σ 21 0 j := fun j => by
        rw [am_u_k (by decide), m_cp_i, am_u_k (by decide), c_cp_k (by decide) (by decide)]
      have g3 : am_u (m_cp (am_u (c_cp σ (2 + k) 0 n) 15 0 k (vp_nar .boolean 1)) 0 (68 * (k + 1)) 68) 28 0 k (vp_nar .boolean 1) 3 = c_cp σ (2 + k) 0 n 3 := by
        rw [am_u_k (by decide), m_cp_k (by decide), am_u_k (by decide)]
      have g5 : am_u (m_cp (am_u (c_cp σ (2 + k) 0 n) 15 0 k (vp_nar .boolean 1)) 0 (68 * (k + 1)) 68) 28 0 k (vp_nar .boolean 1) 5 = c_cp σ (2 + k) 0 n 5 := by
        rw [am_u_k (by decide), m_cp_k (by decide), am_u_k (by decide)]
      have g15 : ∀ q, am_u (m_cp (am_u (c_cp σ (2 + k) 0 n) 15 0 k (vp_nar .boolean 1)) 0 (68 * (k + 1)) 68) 28 0 k (vp_nar .boolean 1) 15 0 q = if q = k then 1 else σ 15 0 q := fun q => by
        rw [am_u_k (by decide), m_cp_k (by decide)]
        by_cases c : q = k
        · rw [if_pos c, c, am_u_s]
          rfl
        · rw [if_neg c, am_u_j c, c_cp_k (by decide) (by decide)]
      have g28 : ∀ q, am_u (m_cp (am_u (c_cp σ (2 + k) 0 n) 15 0 k (vp_nar .boolean 1)) 0 (68 * (k + 1)) 68) 28 0 k (vp_nar .boolean 1) 28 0 q = if q = k then 1 else σ 28 0 q := fun q => by
        by_cases c : q = k
        · rw [if_pos c, c, am_u_s]
          rfl
        · rw [if_neg c, am_u_j c, e28]
      refine ⟨n, pl, h9, by rw [f 20 (by decide) (by decide) (by decide) (by decide) (by decide)]; exact a1, cm_cg (σ := σ) (by rw [g3]; exact c_cp_o (by omega)) (fun p hp => by rw [g5]; funext j; exact c_cp_q (by omega)) (fun j _ hj => by rw [g21, if_neg (by omega)]) h9 a2, fun q hq => ?_, iv_seen_cg (f 11 (by decide) (by decide) (by decide) (by decide) (by decide)) (f 12 (by decide) (by decide) (by decide) (by decide) (by decide)) (f 13 (by decide) (by decide) (by decide) (by decide) (by decide)) (f 27 (by decide) (by decide) (by decide) (by decide) (by decide)) (by rw [f 20 (by decide) (by decide) (by decide) (by decide) (by decide)]) a4, iv_tape_cg (f 1 (by decide) (by decide) (by decide) (by decide) (by decide)) (f 2 (by decide) (by decide) (by decide) (by decide) (by decide)) (f 23 (by decide) (by decide) (by decide) (by decide) (by decide)) (by rw [f 20 (by decide) (by decide) (by decide) (by decide) (by decide)]) a5, iv_sheet_cg (f 17 (by decide) (by decide) (by decide) (by decide) (by decide)) (f 18 (by decide) (by decide) (by decide) (by decide) (by decide)) (f 29 (by decide) (by decide) (by decide) (by decide) (by decide)) (f 30 (by decide) (by decide) (by decide) (by decide) (by decide)) (f 31 (by decide) (by decide) (by decide) (by decide) (by decide)) a6, iv_word_cg (f 24 (by decide) (by decide) (by decide) (by decide) (by decide)) (f 25 (by decide) (by decide) (by decide) (by decide) (by decide)) a7, iv_flt_cg (f 0 (by decide) (by decide) (by decide) (by decide) (by decide)) (by rw [f 20 (by decide) (by decide) (by decide) (by decide) (by decide)]) (by rw [f 20 (by decide) (by decide) (by decide) (by decide) (by decide)]) a8⟩
      rw [g15, g28]
      by_cases c : q = k
      · subst c
        rw [if_pos rfl, if_pos rfl]
        refine ⟨rfl, Or.inr ⟨rfl, pl, cm_copy h9 a2 (fun j j1 j2 => by rw [g3, c_cp_3 ⟨j1, j2⟩]) (fun p j hp hj => by rw [g5, c_cp_r hp hj]) (fun j hj => by rw [g21, if_pos (by omega)]; congr 1; omega)⟩⟩
      · rw [if_neg c, if_neg c]
        obtain ⟨w1, w2⟩ := a3 q hq
        refine ⟨w1, ?_⟩
        rcases w2 with w2 | ⟨w2, pl', w3⟩
        · exact Or.inl w2
        · exact Or.inr ⟨w2, pl', cm_cg (by rw [g3]; exact c_cp_o (by omega)) (fun p hp => by rw [g5]; funext j; exact c_cp_q (by omega)) (fun j j1 j2 => by rw [g21, if_neg (by omega)]) h9 w3⟩
    exact ⟨vk, fun q => ⟨vk, by rw [v1 q], fin⟩, fun q => ⟨vk, by rw [v2 q], fin⟩⟩
  rw [nI_clamp (by omega)]
  exact ⟨vk, fun q => ⟨vk, go _ (fun _ => rfl) (fun w => absurd q w)⟩, fun q => ⟨vk, go _ (fun w => absurd w q) (fun _ => rfl)⟩⟩
theorem pr_back {σ : am_M} {a : Int32} (hI : Inv σ) : pairI sX6_back sX7_back [.inl a] σ := by
  obtain ⟨n, pl, hv⟩ := id hI
  obtain ⟨h9, a1, a2, a3, a4, a5, a6, a7, a8⟩ := id hv
  refine ⟨am_le rfl, fun X hX => b_xq0 hX a ⟨fun c1 => ⟨_, rfl, am_le rfl, fun Y hY => b_yq0 hY _ ⟨fun _ => ⟨rfl, hI⟩, fun q => absurd c1 q⟩⟩, fun c1 => ⟨fun c2 => ⟨_, rfl, am_le rfl, fun Y hY => b_yq0 hY _ ⟨fun q => absurd q c1, fun _ => ⟨fun _ => ⟨rfl, hI⟩, fun q => absurd c2 q⟩⟩⟩, fun c2 => ?_⟩⟩⟩
  obtain ⟨k, k1, rfl⟩ := q_0b (b := 1) rfl (by decide) c1 c2
  obtain ⟨i1, i2⟩ := a3 k (by omega)
  have vk : vp_in (nI k) 2 := q_in (by omega) (by decide)
  rw [nI_clamp (by omega)]
  refine ⟨vk, fun c3 => ⟨_, rfl, am_le rfl, fun Y hY => b_yq0 hY _ ⟨fun q => absurd q c1, fun _ => ⟨fun q => absurd q c2, fun _ => ?_⟩⟩⟩, fun c3 => ?_⟩
  · rw [nI_clamp (by omega), ← i1]
    exact ⟨vk, fun _ => ⟨rfl, hI⟩, fun q => absurd c3 q⟩
  · rcases i2 with i2 | ⟨i2, pl', w⟩
    · exact absurd i2 c3
    refine ⟨vk, uX0_copyFrom (by omega) w.1 h9 (b_xq36 hX _ ⟨_, rfl, am_le rfl, fun Y hY => b_yq0 hY _ ⟨fun q => absurd q c1, fun _ => ⟨fun q => absurd q c2, fun _ => ?_⟩⟩⟩)⟩
    rw [nI_clamp (by omega), c_cp_k (by decide) (by decide), m_68k, ← i1]
    refine ⟨vk, fun q => absurd q c3, fun _ => tX7_copies (t := 0) (by omega) (by decide) (by omega) (b_yq35 hY _ ?_)⟩
    have g21 : ∀ j, j < 68 → m_cp (c_cp σ 0 (2 + k) n) (68 * (k + 1)) 0 68 21 0 j = σ 21 0 (68 * (k + 1) + j) := fun j hj => by
      rw [m_cp_i, if_pos (by omega), c_cp_k (by decide) (by decide)]
      rfl
    have hc : cm (m_cp (c_cp σ 0 (2 + k) n) (68 * (k + 1)) 0 68) 0 0 n pl' := cm_copy h9 w (fun j j1 j2 => by rw [m_cp_k (by decide), c_cp_3 ⟨j1, j2⟩]) (fun p j hp hj => by rw [m_cp_k (by decide), c_cp_r hp hj]) (fun j hj => by rw [Nat.zero_add, g21 j hj])
    have hs : ivs σ (m_cp (c_cp σ 0 (2 + k) n) (68 * (k + 1)) 0 68) := ⟨fun q d3 d5 _ _ _ _ _ _ _ d21 _ _ => by rw [m_cp_k d21, c_cp_k d3 d5], fun j _ => by rw [m_cp_k (by decide), c_cp_k (by decide) (by decide)], fun d hd => by rw [m_cp_k (by decide)]; exact c_cp_o (by omega), fun i hi => by rw [m_cp_k (by decide)]; funext j; exact c_cp_q (by omega), fun j j1 j2 => by rw [m_cp_i, if_neg (by omega), c_cp_k (by decide) (by decide)]⟩
    refine ⟨?_, n, pl', iv_now hs hc hv⟩
    rw [g21 66 (by decide), c_cp_3 (by omega), w.2.2.2.2.2.2.2.1.1]
