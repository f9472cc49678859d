/-! the reference: alike, unlike; pages -/
set_option maxRecDepth 100000 in
set_option maxHeartbeats 400000 in
theorem b_ma0 {K : Option am_V → am_M → Prop} {X : Nat → am_L → List am_V → am_M → Prop} (hX : am_cl eX7_areAlike lX7_areAlike (some .boolean) K X) {σ : am_M} (p q : Int32) (h : X 5 [some (.inr (.inr (20, 0))), some (.inl p), some (.inl q), some (.inl (0 : Int32)), some (.inl (1 : Int32)), none] [] σ) : X 0 [some (.inr (.inr (20, 0))), some (.inl p), some (.inl q), none, none, none] [] σ := am_run_ok emX7_areAlike hX [5] 400 (show X 5 [some (.inr (.inr (20, 0))), some (.inl p), some (.inl q), some (.inl (0 : Int32)), some (.inl (1 : Int32)), none] [] σ from h)
set_option maxRecDepth 100000 in
set_option maxHeartbeats 400000 in
theorem b_ma5 {K : Option am_V → am_M → Prop} {X : Nat → am_L → List am_V → am_M → Prop} (hX : am_cl eX7_areAlike lX7_areAlike (some .boolean) K X) {σ : am_M} (p q x w : Int32) (h : (((4 : Int32) ≤ w) → (narrow .boolean (.int x) = .int x) ∧ (K (some (.inl x)) σ)) ∧ (¬ ((4 : Int32) ≤ w) → (vp_in ((7 : Int32) * p) 340) ∧ ((w = 1 ∨ (w = 2 ∨ w = 3)) ∧ (((cn (σ 21 0 ((7 : Int32) * p).toNatClampNeg) w = true) → (vp_in ((7 : Int32) * q) 340) ∧ ((w = 1 ∨ (w = 2 ∨ w = 3)) ∧ (((cn (σ 21 0 ((7 : Int32) * q).toNatClampNeg) w = true) → X 52 [some (.inr (.inr (20, 0))), some (.inl p), some (.inl q), some (.inl x), some (.inl w), some (.inl (1 : Int32))] [] σ) ∧ (¬ (cn (σ 21 0 ((7 : Int32) * q).toNatClampNeg) w = true) → X 52 [some (.inr (.inr (20, 0))), some (.inl p), some (.inl q), some (.inl x), some (.inl w), some (.inl (0 : Int32))] [] σ)))) ∧ (¬ (cn (σ 21 0 ((7 : Int32) * p).toNatClampNeg) w = true) → X 52 [some (.inr (.inr (20, 0))), some (.inl p), some (.inl q), some (.inl x), some (.inl w), some (.inl (0 : Int32))] [] σ))))) : X 5 [some (.inr (.inr (20, 0))), some (.inl p), some (.inl q), some (.inl x), some (.inl w), none] [] σ := am_run_ok emX7_areAlike hX [52] 400 (show (((4 : Int32) ≤ w) → (narrow .boolean (.int x) = .int x) ∧ (K (some (.inl x)) σ)) ∧ (¬ ((4 : Int32) ≤ w) → (vp_in ((7 : Int32) * p) 340) ∧ (2 ≤ 2 ∧ 0 ≤ 8 ∧ sX7_counts [.inl (σ 21 0 ((7 : Int32) * p).toNatClampNeg), .inl w] σ (fun vv tt => am_run eX7_areAlike lX7_areAlike (some .boolean) K X [52] 389 25 [some (.inr (.inr (20, 0))), some (.inl p), some (.inl q), some (.inl x), some (.inl w), none] (vv.toList ++ []) tt))) from ⟨fun q0 => ⟨(h.1 q0).1, (h.1 q0).2⟩, fun q0 => ⟨(h.2 q0).1, ⟨am_le rfl, am_le rfl, uX7_counts (⟨(h.2 q0).2.1, ⟨fun q1 => (show (((1 : Int32) = (0 : Int32)) → _) ∧ (¬ ((1 : Int32) = (0 : Int32)) → (vp_in ((7 : Int32) * q) 340) ∧ (2 ≤ 2 ∧ 0 ≤ 8 ∧ sX7_counts [.inl (σ 21 0 ((7 : Int32) * q).toNatClampNeg), .inl w] σ (fun vv tt => am_run eX7_areAlike lX7_areAlike (some .boolean) K X [52] 380 42 [some (.inr (.inr (20, 0))), some (.inl p), some (.inl q), some (.inl x), some (.inl w), none] (vv.toList ++ []) tt))) from ⟨fun q => absurd q (by decide), fun _ => ⟨((h.2 q0).2.2.1 q1).1, ⟨am_le rfl, am_le rfl, uX7_counts (⟨((h.2 q0).2.2.1 q1).2.1, ⟨fun q2 => (show (((1 : Int32) = (0 : Int32)) → _) ∧ (¬ ((1 : Int32) = (0 : Int32)) → X 52 [some (.inr (.inr (20, 0))), some (.inl p), some (.inl q), some (.inl x), some (.inl w), some (.inl (1 : Int32))] [] σ) from ⟨fun q => absurd q (by decide), fun _ => (((h.2 q0).2.2.1 q1).2.2.1 q2)⟩), fun q2 => (show (((0 : Int32) = (0 : Int32)) → X 52 [some (.inr (.inr (20, 0))), some (.inl p), some (.inl q), some (.inl x), some (.inl w), some (.inl (0 : Int32))] [] σ) ∧ (¬ ((0 : Int32) = (0 : Int32)) → _) from ⟨fun _ => (((h.2 q0).2.2.1 q1).2.2.2 q2), fun q => absurd (by decide) q⟩)⟩⟩)⟩⟩⟩), fun q1 => (show (((0 : Int32) = (0 : Int32)) → X 52 [some (.inr (.inr (20, 0))), some (.inl p), some (.inl q), some (.inl x), some (.inl w), some (.inl (0 : Int32))] [] σ) ∧ (¬ ((0 : Int32) = (0 : Int32)) → _) from ⟨fun _ => ((h.2 q0).2.2.2 q1), fun q => absurd (by decide) q⟩)⟩⟩)⟩⟩⟩)
set_option maxRecDepth 100000 in
set_option maxHeartbeats 400000 in
theorem b_ma5b {K : Option am_V → am_M → Prop} {X : Nat → am_L → List am_V → am_M → Prop} (hX : am_cl eX7_areAlike lX7_areAlike (some .boolean) K X) {σ : am_M} (p q x w z : Int32) (h : (((4 : Int32) ≤ w) → (narrow .boolean (.int x) = .int x) ∧ (K (some (.inl x)) σ)) ∧ (¬ ((4 : Int32) ≤ w) → (vp_in ((7 : Int32) * p) 340) ∧ ((w = 1 ∨ (w = 2 ∨ w = 3)) ∧ (((cn (σ 21 0 ((7 : Int32) * p).toNatClampNeg) w = true) → (vp_in ((7 : Int32) * q) 340) ∧ ((w = 1 ∨ (w = 2 ∨ w = 3)) ∧ (((cn (σ 21 0 ((7 : Int32) * q).toNatClampNeg) w = true) → X 52 [some (.inr (.inr (20, 0))), some (.inl p), some (.inl q), some (.inl x), some (.inl w), some (.inl (1 : Int32))] [] σ) ∧ (¬ (cn (σ 21 0 ((7 : Int32) * q).toNatClampNeg) w = true) → X 52 [some (.inr (.inr (20, 0))), some (.inl p), some (.inl q), some (.inl x), some (.inl w), some (.inl (0 : Int32))] [] σ)))) ∧ (¬ (cn (σ 21 0 ((7 : Int32) * p).toNatClampNeg) w = true) → X 52 [some (.inr (.inr (20, 0))), some (.inl p), some (.inl q), some (.inl x), some (.inl w), some (.inl (0 : Int32))] [] σ))))) : X 5 [some (.inr (.inr (20, 0))), some (.inl p), some (.inl q), some (.inl x), some (.inl w), some (.inl z)] [] σ := am_run_ok emX7_areAlike hX [52] 400 (show (((4 : Int32) ≤ w) → (narrow .boolean (.int x) = .int x) ∧ (K (some (.inl x)) σ)) ∧ (¬ ((4 : Int32) ≤ w) → (vp_in ((7 : Int32) * p) 340) ∧ (2 ≤ 2 ∧ 0 ≤ 8 ∧ sX7_counts [.inl (σ 21 0 ((7 : Int32) * p).toNatClampNeg), .inl w] σ (fun vv tt => am_run eX7_areAlike lX7_areAlike (some .boolean) K X [52] 389 25 [some (.inr (.inr (20, 0))), some (.inl p), some (.inl q), some (.inl x), some (.inl w), some (.inl z)] (vv.toList ++ []) tt))) from ⟨fun q0 => ⟨(h.1 q0).1, (h.1 q0).2⟩, fun q0 => ⟨(h.2 q0).1, ⟨am_le rfl, am_le rfl, uX7_counts (⟨(h.2 q0).2.1, ⟨fun q1 => (show (((1 : Int32) = (0 : Int32)) → _) ∧ (¬ ((1 : Int32) = (0 : Int32)) → (vp_in ((7 : Int32) * q) 340) ∧ (2 ≤ 2 ∧ 0 ≤ 8 ∧ sX7_counts [.inl (σ 21 0 ((7 : Int32) * q).toNatClampNeg), .inl w] σ (fun vv tt => am_run eX7_areAlike lX7_areAlike (some .boolean) K X [52] 380 42 [some (.inr (.inr (20, 0))), some (.inl p), some (.inl q), some (.inl x), some (.inl w), some (.inl z)] (vv.toList ++ []) tt))) from ⟨fun q => absurd q (by decide), fun _ => ⟨((h.2 q0).2.2.1 q1).1, ⟨am_le rfl, am_le rfl, uX7_counts (⟨((h.2 q0).2.2.1 q1).2.1, ⟨fun q2 => (show (((1 : Int32) = (0 : Int32)) → _) ∧ (¬ ((1 : Int32) = (0 : Int32)) → X 52 [some (.inr (.inr (20, 0))), some (.inl p), some (.inl q), some (.inl x), some (.inl w), some (.inl (1 : Int32))] [] σ) from ⟨fun q => absurd q (by decide), fun _ => (((h.2 q0).2.2.1 q1).2.2.1 q2)⟩), fun q2 => (show (((0 : Int32) = (0 : Int32)) → X 52 [some (.inr (.inr (20, 0))), some (.inl p), some (.inl q), some (.inl x), some (.inl w), some (.inl (0 : Int32))] [] σ) ∧ (¬ ((0 : Int32) = (0 : Int32)) → _) from ⟨fun _ => (((h.2 q0).2.2.1 q1).2.2.2 q2), fun q => absurd (by decide) q⟩)⟩⟩)⟩⟩⟩), fun q1 => (show (((0 : Int32) = (0 : Int32)) → X 52 [some (.inr (.inr (20, 0))), some (.inl p), some (.inl q), some (.inl x), some (.inl w), some (.inl (0 : Int32))] [] σ) ∧ (¬ ((0 : Int32) = (0 : Int32)) → _) from ⟨fun _ => ((h.2 q0).2.2.2 q1), fun q => absurd (by decide) q⟩)⟩⟩)⟩⟩⟩)
set_option maxRecDepth 100000 in
set_option maxHeartbeats 400000 in
theorem b_ma52 {K : Option am_V → am_M → Prop} {X : Nat → am_L → List am_V → am_M → Prop} (hX : am_cl eX7_areAlike lX7_areAlike (some .boolean) K X) {σ : am_M} (p q x w z : Int32) (h : ((x = (0 : Int32)) → ((z = (0 : Int32)) → X 5 [some (.inr (.inr (20, 0))), some (.inl p), some (.inl q), some (.inl (0 : Int32)), some (.inl (w + (1 : Int32))), some (.inl z)] [] σ) ∧ (¬ (z = (0 : Int32)) → (vp_in (((7 : Int32) * p) + w) 340) ∧ ((vp_in (((7 : Int32) * q) + w) 340) ∧ ((((σ 21 0 (((7 : Int32) * p) + w).toNatClampNeg) = (σ 21 0 (((7 : Int32) * q) + w).toNatClampNeg)) → X 5 [some (.inr (.inr (20, 0))), some (.inl p), some (.inl q), some (.inl (1 : Int32)), some (.inl (w + (1 : Int32))), some (.inl z)] [] σ) ∧ (¬ ((σ 21 0 (((7 : Int32) * p) + w).toNatClampNeg) = (σ 21 0 (((7 : Int32) * q) + w).toNatClampNeg)) → X 5 [some (.inr (.inr (20, 0))), some (.inl p), some (.inl q), some (.inl (0 : Int32)), some (.inl (w + (1 : Int32))), some (.inl z)] [] σ))))) ∧ (¬ (x = (0 : Int32)) → X 5 [some (.inr (.inr (20, 0))), some (.inl p), some (.inl q), some (.inl (1 : Int32)), some (.inl (w + (1 : Int32))), some (.inl z)] [] σ)) : X 52 [some (.inr (.inr (20, 0))), some (.inl p), some (.inl q), some (.inl x), some (.inl w), some (.inl z)] [] σ := am_run_ok emX7_areAlike hX [5] 400 (show ((x = (0 : Int32)) → ((z = (0 : Int32)) → X 5 [some (.inr (.inr (20, 0))), some (.inl p), some (.inl q), some (.inl (0 : Int32)), some (.inl (w + (1 : Int32))), some (.inl z)] [] σ) ∧ (¬ (z = (0 : Int32)) → (vp_in (((7 : Int32) * p) + w) 340) ∧ ((vp_in (((7 : Int32) * q) + w) 340) ∧ ((((σ 21 0 (((7 : Int32) * p) + w).toNatClampNeg) = (σ 21 0 (((7 : Int32) * q) + w).toNatClampNeg)) → X 5 [some (.inr (.inr (20, 0))), some (.inl p), some (.inl q), some (.inl (1 : Int32)), some (.inl (w + (1 : Int32))), some (.inl z)] [] σ) ∧ (¬ ((σ 21 0 (((7 : Int32) * p) + w).toNatClampNeg) = (σ 21 0 (((7 : Int32) * q) + w).toNatClampNeg)) → X 5 [some (.inr (.inr (20, 0))), some (.inl p), some (.inl q), some (.inl (0 : Int32)), some (.inl (w + (1 : Int32))), some (.inl z)] [] σ))))) ∧ (¬ (x = (0 : Int32)) → X 5 [some (.inr (.inr (20, 0))), some (.inl p), some (.inl q), some (.inl (1 : Int32)), some (.inl (w + (1 : Int32))), some (.inl z)] [] σ) from ⟨fun q0 => ⟨fun q1 => ((h.1 q0).1 q1), fun q1 => ⟨((h.1 q0).2 q1).1, ⟨((h.1 q0).2 q1).2.1, ⟨fun q2 => (((h.1 q0).2 q1).2.2.1 q2), fun q2 => (((h.1 q0).2 q1).2.2.2 q2)⟩⟩⟩⟩, fun q0 => (h.2 q0)⟩)
theorem m_i7 (p : Nat) : (7 : Int32) * nI p = nI (7 * p) := by
  show nI 7 * nI p = _
  rw [pk_mul]
theorem m_i7w (p w : Nat) : (7 : Int32) * nI p + nI w = nI (7 * p + w) := by rw [m_i7, nI_add]
theorem q_bool {b : Bool} {x : Int32} (h : x = if b then 1 else 0) : (x = 0 ↔ b = false) := by
  subst h
  exact q_ite0
theorem q_nz {b : Bool} {x : Int32} (h : x = if b then 1 else 0) : narrow .boolean (.int x) = .int x := by
  subst h
  cases b <;> rfl
set_option maxHeartbeats 1000000 in
theorem tX7_areAlike {σ : am_M} {p q : Nat} {K : am_K} (hp : p < 9) (hq : q < 9) (h : ((al (m_r σ 0 p) (m_r σ 0 q) = true) → K (some (.inl (1 : Int32))) σ) ∧ (¬ (al (m_r σ 0 p) (m_r σ 0 q) = true) → K (some (.inl (0 : Int32))) σ)) : sX7_areAlike [.inr (.inr (20, 0)), .inl (nI p), .inl (nI q)] σ K := by
  refine ⟨am_le rfl, fun X hX => b_ma0 hX (nI p) (nI q) ?_⟩
  have e : ∀ a j, m_r σ 0 a j = σ 21 0 (7 * a + j) := fun a j => by unfold m_r; rw [Nat.zero_add]
  -- the second half of a turn
  have s2 : ∀ (w : Nat) (x z : Int32) (bx bz : Bool), w ≤ 3 → (x = if bx then 1 else 0) → (z = if bz then 1 else 0) → X 5 [some (.inr (.inr (20, 0))), some (.inl (nI p)), some (.inl (nI q)), some (.inl (if bx || (bz && decide (m_r σ 0 p w = m_r σ 0 q w)) then 1 else 0)), some (.inl (nI (w + 1))), some (.inl z)] [] σ → X 52 [some (.inr (.inr (20, 0))), some (.inl (nI p)), some (.inl (nI q)), some (.inl x), some (.inl (nI w)), some (.inl z)] [] σ := by
    intro w x z bx bz hw hx hz hk
    refine b_ma52 hX (nI p) (nI q) x (nI w) z ?_
    rw [m_i7w, m_i7w, nI_clamp (by omega), nI_clamp (by omega), show nI w + (1 : Int32) = nI (w + 1) from nI_1 w, ← e, ← e]
    refine ⟨fun a => ⟨fun b => ?_, fun b => ⟨q_in (by omega) (by decide), q_in (by omega) (by decide), fun d => ?_, fun d => ?_⟩⟩, fun a => ?_⟩
    · rw [(q_bool hx).mp a, (q_bool hz).mp b] at hk
      exact hk
    · have hbz : bz = true := by
        cases hz' : bz
        · exact absurd ((q_bool hz).mpr hz') b
        · rfl
      rw [(q_bool hx).mp a, hbz] at hk
      simpa [d] using hk
    · have hbz : bz = true := by
        cases hz' : bz
        · exact absurd ((q_bool hz).mpr hz') b
        · rfl
      rw [(q_bool hx).mp a, hbz] at hk
      simpa [d] using hk
    · have hbx : bx = true := by
        cases hx' : bx
        · exact absurd ((q_bool hx).mpr hx') a
        · rfl
      rw [hbx] at hk
      exact hk
  have s5 : ∀ (w : Nat) (x : Int32) (bx : Bool) (z : Option am_V), (z = none ∨ ∃ y, z = some (.inl y)) → 1 ≤ w → w ≤ 3 → (x = if bx then 1 else 0) → (∀ z' : Int32, X 5 [some (.inr (.inr (20, 0))), some (.inl (nI p)), some (.inl (nI q)), some (.inl (if bx || alw (m_r σ 0 p) (m_r σ 0 q) w then 1 else 0)), some (.inl (nI (w + 1))), some (.inl z')] [] σ) → X 5 [some (.inr (.inr (20, 0))), some (.inl (nI p)), some (.inl (nI q)), some (.inl x), some (.inl (nI w)), z] [] σ := by
    intro w x bx z hz h1 h3 hx hk
    have main : (nI 4 ≤ nI w → (narrow .boolean (.int x) = .int x) ∧ (K (some (.inl x)) σ)) ∧ (¬ nI 4 ≤ nI w → (vp_in (nI (7 * p)) 340) ∧ ((nI w = 1 ∨ (nI w = 2 ∨ nI w = 3)) ∧ (((cn (σ 21 0 (nI (7 * p)).toNatClampNeg) (nI w) = true) → (vp_in (nI (7 * q)) 340) ∧ ((nI w = 1 ∨ (nI w = 2 ∨ nI w = 3)) ∧ (((cn (σ 21 0 (nI (7 * q)).toNatClampNeg) (nI w) = true) → X 52 [some (.inr (.inr (20, 0))), some (.inl (nI p)), some (.inl (nI q)), some (.inl x), some (.inl (nI w)), some (.inl (1 : Int32))] [] σ) ∧ (¬ (cn (σ 21 0 (nI (7 * q)).toNatClampNeg) (nI w) = true) → X 52 [some (.inr (.inr (20, 0))), some (.inl (nI p)), some (.inl (nI q)), some (.inl x), some (.inl (nI w)), some (.inl (0 : Int32))] [] σ)))) ∧ (¬ (cn (σ 21 0 (nI (7 * p)).toNatClampNeg) (nI w) = true) → X 52 [some (.inr (.inr (20, 0))), some (.inl (nI p)), some (.inl (nI q)), some (.inl x), some (.inl (nI w)), some (.inl (0 : Int32))] [] σ)))) := by
      have hw : nI w = 1 ∨ (nI w = 2 ∨ nI w = 3) := by
        rcases (show w = 1 ∨ w = 2 ∨ w = 3 by omega) with rfl | rfl | rfl
        · exact Or.inl rfl
        · exact Or.inr (Or.inl rfl)
        · exact Or.inr (Or.inr rfl)
      rw [nI_clamp (by omega), nI_clamp (by omega)]
      have e0 : ∀ a, σ 21 0 (7 * a) = m_r σ 0 a 0 := fun a => (e a 0).symm
      rw [e0, e0]
      unfold alw at hk
      refine ⟨fun a => absurd a (nI_ge (by omega) (by decide)), fun _ => ⟨q_in (by omega) (by decide), hw, fun a => ⟨q_in (by omega) (by decide), hw, fun b => ?_, fun b => ?_⟩, fun a => ?_⟩⟩
      · refine s2 w x 1 bx true h3 hx rfl ?_
        have := hk 1
        rw [a, b] at this
        simpa using this
      · refine s2 w x 0 bx false h3 hx rfl ?_
        have := hk 0
        simp [a, b] at this
        simpa using this
      · refine s2 w x 0 bx false h3 hx rfl ?_
        have := hk 0
        simp [a] at this
        simpa using this
    rcases hz with rfl | ⟨y, rfl⟩
    · refine b_ma5 hX (nI p) (nI q) x (nI w) ?_
      rw [m_i7, m_i7]
      exact main
    · refine b_ma5b hX (nI p) (nI q) x (nI w) y ?_
      rw [m_i7, m_i7]
      exact main
  have s4 : ∀ (b : Bool) (x z : Int32), (x = if b then 1 else 0) → K (some (.inl x)) σ → X 5 [some (.inr (.inr (20, 0))), some (.inl (nI p)), some (.inl (nI q)), some (.inl x), some (.inl (nI 4)), some (.inl z)] [] σ := fun b x z hb hk => b_ma5b hX (nI p) (nI q) x (nI 4) z ⟨fun _ => ⟨q_nz hb, hk⟩, fun a => absurd (by decide) a⟩
  refine s5 1 0 false none (Or.inl rfl) (by decide) (by decide) rfl fun z1 => ?_
  refine s5 2 _ (false || alw (m_r σ 0 p) (m_r σ 0 q) 1) _ (Or.inr ⟨z1, rfl⟩) (by decide) (by decide) rfl fun z2 => ?_
  refine s5 3 _ (false || alw (m_r σ 0 p) (m_r σ 0 q) 1 || alw (m_r σ 0 p) (m_r σ 0 q) 2) _ (Or.inr ⟨z2, rfl⟩) (by decide) (by decide) rfl fun z3 => ?_
  refine s4 _ _ z3 rfl ?_
  unfold al at h
  cases h1 : alw (m_r σ 0 p) (m_r σ 0 q) 1 <;> cases h2 : alw (m_r σ 0 p) (m_r σ 0 q) 2 <;> cases h3 : alw (m_r σ 0 p) (m_r σ 0 q) 3 <;> simp [h1, h2, h3] at h ⊢ <;> exact h
set_option maxRecDepth 100000 in
set_option maxHeartbeats 400000 in
theorem b_aw0 {K : Option am_V → am_M → Prop} {X : Nat → am_L → List am_V → am_M → Prop} (hX : am_cl eX7_alikeWith lX7_alikeWith (some .int) K X) {σ : am_M} (p s : Int32) (h : X 5 [some (.inr (.inr (20, 0))), some (.inl p), some (.inl s), some (.inl (0 : Int32)), some (.inl (0 : Int32))] [] σ) : X 0 [some (.inr (.inr (20, 0))), some (.inl p), some (.inl s), none, none] [] σ := am_run_ok emX7_alikeWith hX [5] 400 (show X 5 [some (.inr (.inr (20, 0))), some (.inl p), some (.inl s), some (.inl (0 : Int32)), some (.inl (0 : Int32))] [] σ from h)
set_option maxRecDepth 100000 in
set_option maxHeartbeats 400000 in
theorem b_aw5 {K : Option am_V → am_M → Prop} {X : Nat → am_L → List am_V → am_M → Prop} (hX : am_cl eX7_alikeWith lX7_alikeWith (some .int) K X) {σ : am_M} (p s x q : Int32) (h : (((σ 20 0 1) ≤ q) → K (some (.inl x)) σ) ∧ (¬ ((σ 20 0 1) ≤ q) → ((q = p) → X 5 [some (.inr (.inr (20, 0))), some (.inl p), some (.inl s), some (.inl (x ||| (0 : Int32))), some (.inl (q + (1 : Int32)))] [] σ) ∧ (¬ (q = p) → ((((s >>> (q &&& 31)) &&& (1 : Int32)) = (1 : Int32)) → sX7_areAlike [.inr (.inr (20, 0)), .inl p, .inl q] σ (fun vv tt => X 38 [some (.inr (.inr (20, 0))), some (.inl p), some (.inl s), some (.inl x), some (.inl q)] (vv.toList ++ [.inl x]) tt)) ∧ (¬ (((s >>> (q &&& 31)) &&& (1 : Int32)) = (1 : Int32)) → X 5 [some (.inr (.inr (20, 0))), some (.inl p), some (.inl s), some (.inl (x ||| (0 : Int32))), some (.inl (q + (1 : Int32)))] [] σ)))) : X 5 [some (.inr (.inr (20, 0))), some (.inl p), some (.inl s), some (.inl x), some (.inl q)] [] σ := am_run_ok emX7_alikeWith hX [5, 38] 400 (show (((σ 20 0 1) ≤ q) → K (some (.inl x)) σ) ∧ (¬ ((σ 20 0 1) ≤ q) → ((q = p) → X 5 [some (.inr (.inr (20, 0))), some (.inl p), some (.inl s), some (.inl (x ||| (0 : Int32))), some (.inl (q + (1 : Int32)))] [] σ) ∧ (¬ (q = p) → ((((s >>> (q &&& 31)) &&& (1 : Int32)) = (1 : Int32)) → 3 ≤ 4 ∧ 1 ≤ 8 ∧ True ∧ sX7_areAlike [.inr (.inr (20, 0)), .inl p, .inl q] σ (fun vv tt => X 38 [some (.inr (.inr (20, 0))), some (.inl p), some (.inl s), some (.inl x), some (.inl q)] (vv.toList ++ [.inl x]) tt)) ∧ (¬ (((s >>> (q &&& 31)) &&& (1 : Int32)) = (1 : Int32)) → X 5 [some (.inr (.inr (20, 0))), some (.inl p), some (.inl s), some (.inl (x ||| (0 : Int32))), some (.inl (q + (1 : Int32)))] [] σ))) from ⟨fun q0 => (h.1 q0), fun q0 => ⟨fun q1 => ((h.2 q0).1 q1), fun q1 => ⟨fun q2 => ⟨am_le rfl, am_le rfl, trivial, (((h.2 q0).2 q1).1 q2)⟩, fun q2 => (((h.2 q0).2 q1).2 q2)⟩⟩⟩)
set_option maxRecDepth 100000 in
set_option maxHeartbeats 400000 in
theorem b_aw38 {K : Option am_V → am_M → Prop} {X : Nat → am_L → List am_V → am_M → Prop} (hX : am_cl eX7_alikeWith lX7_alikeWith (some .int) K X) {σ : am_M} (p s x q v : Int32) (h : ((v = (0 : Int32)) → X 5 [some (.inr (.inr (20, 0))), some (.inl p), some (.inl s), some (.inl (x ||| (0 : Int32))), some (.inl (q + (1 : Int32)))] [] σ) ∧ (¬ (v = (0 : Int32)) → X 5 [some (.inr (.inr (20, 0))), some (.inl p), some (.inl s), some (.inl (x ||| ((1 : Int32) <<< (q &&& 31)))), some (.inl (q + (1 : Int32)))] [] σ)) : X 38 [some (.inr (.inr (20, 0))), some (.inl p), some (.inl s), some (.inl x), some (.inl q)] [.inl v, .inl x] σ := am_run_ok emX7_alikeWith hX [5] 400 (show ((v = (0 : Int32)) → X 5 [some (.inr (.inr (20, 0))), some (.inl p), some (.inl s), some (.inl (x ||| (0 : Int32))), some (.inl (q + (1 : Int32)))] [] σ) ∧ (¬ (v = (0 : Int32)) → X 5 [some (.inr (.inr (20, 0))), some (.inl p), some (.inl s), some (.inl (x ||| ((1 : Int32) <<< (q &&& 31)))), some (.inl (q + (1 : Int32)))] [] σ) from ⟨fun q0 => (h.1 q0), fun q0 => (h.2 q0)⟩)
/-- those of a set that are alike with one -/
def p_aw (r : Rw) (n p S : Nat) : Nat := q_set (fun q => !(decide (q = p)) && (S.testBit q && al (r p) (r q))) n
theorem p_aw_bit (r : Rw) (n p S i : Nat) : (p_aw r n p S).testBit i = (decide (i < n) && (!(decide (i = p)) && (S.testBit i && al (r p) (r i)))) := q_set_bit _ n i
theorem p_aw_lt {r : Rw} {n p S : Nat} (h : n ≤ 9) : p_aw r n p S < 512 := q_set_le _ (m := 9) h
theorem tX7_alikeWith {σ : am_M} {p S : Nat} {K : am_K} (ho : m_ok σ) (hp : p < 9) (hS : S < 512) (h : K (some (.inl (nI (p_aw (m_r σ 0) (m_n σ) p S)))) σ) : sX7_alikeWith [.inr (.inr (20, 0)), .inl (nI p), .inl (nI S)] σ K := by
  obtain ⟨hn, h9⟩ := m_ok_e ho
  unfold p_aw at h
  generalize m_n σ = n at hn h9 h
  refine ⟨am_le rfl, fun X hX => b_aw0 hX (nI p) (nI S) ?_⟩
  refine q_dn (W := fun i => X 5 [some (.inr (.inr (20, 0))), some (.inl (nI p)), some (.inl (nI S)), some (.inl (nI (q_set (fun q => !(decide (q = p)) && (S.testBit q && al (m_r σ 0 p) (m_r σ 0 q))) i))), some (.inl (nI i))] [] σ) (n := n) (fun i hi ih => ?_) ?_ 0 (Nat.zero_le _)
  · refine b_aw5 hX (nI p) (nI S) _ (nI i) ?_
    rw [hn, q_bitv (by omega) (by omega), q_or0, q_ite1, show nI i + (1 : Int32) = nI (i + 1) from nI_1 i, nI_eq (by omega) (by omega)]
    refine ⟨fun q => absurd q (nI_ge hi (by omega)), fun _ => ⟨fun a => ?_, fun a => ⟨fun b => ?_, fun b => ?_⟩⟩⟩
    · rw [q_set_0 (by simp [a])] at ih
      exact ih
    · refine tX7_areAlike hp (by omega) ⟨fun d => ?_, fun d => ?_⟩
      · refine b_aw38 hX (nI p) (nI S) _ (nI i) 1 ?_
        rw [q_one i (by omega), q_or, q_or0, show nI i + (1 : Int32) = nI (i + 1) from nI_1 i]
        refine ⟨fun q => absurd q (by decide), fun _ => ?_⟩
        rw [q_set_1 (by simp [a, b, d])] at ih
        exact ih
      · refine b_aw38 hX (nI p) (nI S) _ (nI i) 0 ?_
        rw [q_one i (by omega), q_or, q_or0, show nI i + (1 : Int32) = nI (i + 1) from nI_1 i]
        refine ⟨fun _ => ?_, fun q => absurd rfl q⟩
        rw [q_set_0 (by simp [a, b, d])] at ih
        exact ih
    · rw [q_set_0 (by simp [b])] at ih
      exact ih
  · refine b_aw5 hX (nI p) (nI S) _ (nI n) ⟨fun _ => h, fun q => absurd ?_ q⟩
    rw [hn]
    exact nI_le (Nat.le_refl _) (by omega)
/-- no two of a set are alike -/
def p_un (r : Rw) (n S : Nat) : Bool := (List.range n).all fun p => !(S.testBit p) || decide (p_aw r n p S = 0)
set_option maxRecDepth 100000 in
set_option maxHeartbeats 400000 in
theorem b_iu0 {K : Option am_V → am_M → Prop} {X : Nat → am_L → List am_V → am_M → Prop} (hX : am_cl eX7_isUnlike lX7_isUnlike (some .boolean) K X) {σ : am_M} (s : Int32) (h : X 4 [some (.inr (.inr (20, 0))), some (.inl s), some (.inl (1 : Int32)), some (.inl (0 : Int32))] [] σ) : X 0 [some (.inr (.inr (20, 0))), some (.inl s), none, none] [] σ := am_run_ok emX7_isUnlike hX [4] 400 (show X 4 [some (.inr (.inr (20, 0))), some (.inl s), some (.inl (1 : Int32)), some (.inl (0 : Int32))] [] σ from h)
set_option maxRecDepth 100000 in
set_option maxHeartbeats 400000 in
theorem b_iu4 {K : Option am_V → am_M → Prop} {X : Nat → am_L → List am_V → am_M → Prop} (hX : am_cl eX7_isUnlike lX7_isUnlike (some .boolean) K X) {σ : am_M} (s x p : Int32) (h : (((σ 20 0 1) ≤ p) → (narrow .boolean (.int x) = .int x) ∧ (K (some (.inl x)) σ)) ∧ (¬ ((σ 20 0 1) ≤ p) → ((x = (0 : Int32)) → (narrow .boolean (.int x) = .int x) ∧ (K (some (.inl x)) σ)) ∧ (¬ (x = (0 : Int32)) → ((((s >>> (p &&& 31)) &&& (1 : Int32)) = (0 : Int32)) → X 4 [some (.inr (.inr (20, 0))), some (.inl s), some (.inl (1 : Int32)), some (.inl (p + (1 : Int32)))] [] σ) ∧ (¬ (((s >>> (p &&& 31)) &&& (1 : Int32)) = (0 : Int32)) → sX7_alikeWith [.inr (.inr (20, 0)), .inl p, .inl s] σ (fun vv tt => X 30 [some (.inr (.inr (20, 0))), some (.inl s), some (.inl x), some (.inl p)] (vv.toList ++ []) tt))))) : X 4 [some (.inr (.inr (20, 0))), some (.inl s), some (.inl x), some (.inl p)] [] σ := am_run_ok emX7_isUnlike hX [4, 30] 400 (show (((σ 20 0 1) ≤ p) → (narrow .boolean (.int x) = .int x) ∧ (K (some (.inl x)) σ)) ∧ (¬ ((σ 20 0 1) ≤ p) → ((x = (0 : Int32)) → (narrow .boolean (.int x) = .int x) ∧ (K (some (.inl x)) σ)) ∧ (¬ (x = (0 : Int32)) → ((((s >>> (p &&& 31)) &&& (1 : Int32)) = (0 : Int32)) → X 4 [some (.inr (.inr (20, 0))), some (.inl s), some (.inl (1 : Int32)), some (.inl (p + (1 : Int32)))] [] σ) ∧ (¬ (((s >>> (p &&& 31)) &&& (1 : Int32)) = (0 : Int32)) → 3 ≤ 3 ∧ 0 ≤ 8 ∧ True ∧ sX7_alikeWith [.inr (.inr (20, 0)), .inl p, .inl s] σ (fun vv tt => X 30 [some (.inr (.inr (20, 0))), some (.inl s), some (.inl x), some (.inl p)] (vv.toList ++ []) tt)))) from ⟨fun q0 => ⟨(h.1 q0).1, (h.1 q0).2⟩, fun q0 => ⟨fun q1 => ⟨((h.2 q0).1 q1).1, ((h.2 q0).1 q1).2⟩, fun q1 => ⟨fun q2 => (((h.2 q0).2 q1).1 q2), fun q2 => ⟨am_le rfl, am_le rfl, trivial, (((h.2 q0).2 q1).2 q2)⟩⟩⟩⟩)
set_option maxRecDepth 100000 in
set_option maxHeartbeats 400000 in
theorem b_iu30 {K : Option am_V → am_M → Prop} {X : Nat → am_L → List am_V → am_M → Prop} (hX : am_cl eX7_isUnlike lX7_isUnlike (some .boolean) K X) {σ : am_M} (s x p v : Int32) (h : ((v = (0 : Int32)) → X 4 [some (.inr (.inr (20, 0))), some (.inl s), some (.inl (1 : Int32)), some (.inl (p + (1 : Int32)))] [] σ) ∧ (¬ (v = (0 : Int32)) → X 4 [some (.inr (.inr (20, 0))), some (.inl s), some (.inl (0 : Int32)), some (.inl (p + (1 : Int32)))] [] σ)) : X 30 [some (.inr (.inr (20, 0))), some (.inl s), some (.inl x), some (.inl p)] [.inl v] σ := am_run_ok emX7_isUnlike hX [4] 400 (show ((v = (0 : Int32)) → X 4 [some (.inr (.inr (20, 0))), some (.inl s), some (.inl (1 : Int32)), some (.inl (p + (1 : Int32)))] [] σ) ∧ (¬ (v = (0 : Int32)) → X 4 [some (.inr (.inr (20, 0))), some (.inl s), some (.inl (0 : Int32)), some (.inl (p + (1 : Int32)))] [] σ) from ⟨fun q0 => (h.1 q0), fun q0 => (h.2 q0)⟩)
theorem q_all_succ {f : Nat → Bool} (n : Nat) : (List.range (n + 1)).all f = ((List.range n).all f && f n) := by
  rw [List.range_succ, List.all_append]
  simp
theorem tX7_isUnlike {σ : am_M} {S : Nat} {K : am_K} (ho : m_ok σ) (hS : S < 512) (h : ((p_un (m_r σ 0) (m_n σ) S = true) → K (some (.inl (1 : Int32))) σ) ∧ (¬ (p_un (m_r σ 0) (m_n σ) S = true) → K (some (.inl (0 : Int32))) σ)) : sX7_isUnlike [.inr (.inr (20, 0)), .inl (nI S)] σ K := by
  obtain ⟨hn, h9⟩ := m_ok_e ho
  unfold p_un at h
  have hN : m_n σ = m_n σ := rfl
  generalize hN : m_n σ = n at hn h9 h
  refine ⟨am_le rfl, fun X hX => b_iu0 hX (nI S) ?_⟩
  -- once no: stays no
  have hno : ∀ i : Nat, i ≤ n → ¬ ((List.range n).all fun p => !(S.testBit p) || decide (p_aw (m_r σ 0) n p S = 0)) = true → X 4 [some (.inr (.inr (20, 0))), some (.inl (nI S)), some (.inl (0 : Int32)), some (.inl (nI i))] [] σ := by
    intro i hi hf
    refine b_iu4 hX (nI S) 0 (nI i) ⟨fun _ => ⟨rfl, h.2 hf⟩, fun _ => ⟨fun _ => ⟨rfl, h.2 hf⟩, fun q => absurd rfl q⟩⟩
  refine q_dn (W := fun i => ((List.range i).all fun p => !(S.testBit p) || decide (p_aw (m_r σ 0) n p S = 0)) = true → X 4 [some (.inr (.inr (20, 0))), some (.inl (nI S)), some (.inl (1 : Int32)), some (.inl (nI i))] [] σ) (n := n) (fun i hi ih ha => ?_) (fun ha => ?_) 0 (Nat.zero_le _) rfl
  · refine b_iu4 hX (nI S) 1 (nI i) ?_
    rw [hn, q_bitv (by omega) (by omega), q_ite0, show nI i + (1 : Int32) = nI (i + 1) from nI_1 i]
    refine ⟨fun q => absurd q (nI_ge hi (by omega)), fun _ => ⟨fun q => absurd q (by decide), fun _ => ⟨fun b => ih ?_, fun b => ?_⟩⟩⟩
    · rw [q_all_succ, ha, b]
      rfl
    · refine tX7_alikeWith ho (by omega) hS ?_
      rw [hN]
      have hl := p_aw_lt (r := m_r σ 0) (p := i) (S := S) h9
      refine b_iu30 hX (nI S) 1 (nI i) _ ?_
      rw [← nI_0, nI_eq (by omega) (by decide), show nI i + (1 : Int32) = nI (i + 1) from nI_1 i]
      refine ⟨fun d => ih ?_, fun d => hno (i + 1) hi ?_⟩
      · rw [q_all_succ, ha]
        simp [d]
      · intro q
        have := List.all_eq_true.mp q i (List.mem_range.mpr hi)
        simp [b, d] at this
  · refine b_iu4 hX (nI S) 1 (nI n) ⟨fun _ => ⟨rfl, h.1 ha⟩, fun q => absurd ?_ q⟩
    rw [hn]
    exact nI_le (Nat.le_refl _) (by omega)
