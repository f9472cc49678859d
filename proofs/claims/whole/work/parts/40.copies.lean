/-! hours on end; crews and pages copied -/
set_option maxRecDepth 100000 in
set_option maxHeartbeats 400000 in
theorem b_go0 {K : Option am_V → am_M → Prop} {X : Nat → am_L → List am_V → am_M → Prop} (hX : am_cl eX7_goesOn lX7_goesOn (some .int) K X) {σ : am_M} (g m : Nat) (h : (vp_in ((nI g) + (67 : Int32)) 340) ∧ (X 13 [some (.inr (.inr (20, 0))), some (.inl (nI g)), some (.inl (nI m)), some (.inl (σ 21 0 ((nI g) + (67 : Int32)).toNatClampNeg)), some (.inl (0 : Int32))] [] σ)) : X 0 [some (.inr (.inr (20, 0))), some (.inl (nI g)), some (.inl (nI m)), none, none] [] σ := am_run_ok emX7_goesOn hX [13] 400 (show (vp_in ((nI g) + (67 : Int32)) 340) ∧ (X 13 [some (.inr (.inr (20, 0))), some (.inl (nI g)), some (.inl (nI m)), some (.inl (σ 21 0 ((nI g) + (67 : Int32)).toNatClampNeg)), some (.inl (0 : Int32))] [] σ) from ⟨h.1, h.2⟩)
set_option maxRecDepth 100000 in
set_option maxHeartbeats 400000 in
theorem b_go13 {K : Option am_V → am_M → Prop} {X : Nat → am_L → List am_V → am_M → Prop} (hX : am_cl eX7_goesOn lX7_goesOn (some .int) K X) {σ : am_M} (g m t : Nat) (b : Int32) (h : (((nI m) ≤ (nI t)) → (vp_in ((nI g) + (67 : Int32)) 340) ∧ (K (some (.inl ((σ 21 0 ((nI g) + (67 : Int32)).toNatClampNeg) - b))) σ)) ∧ (¬ ((nI m) ≤ (nI t)) → sX7_anHour [.inr (.inr (20, 0)), .inl (nI g)] σ (fun vv tt => X 24 [some (.inr (.inr (20, 0))), some (.inl (nI g)), some (.inl (nI m)), some (.inl b), some (.inl (nI t))] (vv.toList ++ []) tt))) : X 13 [some (.inr (.inr (20, 0))), some (.inl (nI g)), some (.inl (nI m)), some (.inl b), some (.inl (nI t))] [] σ := am_run_ok emX7_goesOn hX [24] 400 (show (((nI m) ≤ (nI t)) → (vp_in ((nI g) + (67 : Int32)) 340) ∧ (K (some (.inl ((σ 21 0 ((nI g) + (67 : Int32)).toNatClampNeg) - b))) σ)) ∧ (¬ ((nI m) ≤ (nI t)) → 2 ≤ 2 ∧ 0 ≤ 8 ∧ True ∧ sX7_anHour [.inr (.inr (20, 0)), .inl (nI g)] σ (fun vv tt => X 24 [some (.inr (.inr (20, 0))), some (.inl (nI g)), some (.inl (nI m)), some (.inl b), some (.inl (nI t))] (vv.toList ++ []) tt)) from ⟨fun q0 => ⟨(h.1 q0).1, (h.1 q0).2⟩, fun q0 => ⟨am_le rfl, am_le rfl, trivial, (h.2 q0)⟩⟩)
set_option maxRecDepth 100000 in
set_option maxHeartbeats 400000 in
theorem b_go24 {K : Option am_V → am_M → Prop} {X : Nat → am_L → List am_V → am_M → Prop} (hX : am_cl eX7_goesOn lX7_goesOn (some .int) K X) {σ : am_M} (g m t : Nat) (b : Int32) (h : X 13 [some (.inr (.inr (20, 0))), some (.inl (nI g)), some (.inl (nI m)), some (.inl b), some (.inl ((nI t) + (1 : Int32)))] [] σ) : X 24 [some (.inr (.inr (20, 0))), some (.inl (nI g)), some (.inl (nI m)), some (.inl b), some (.inl (nI t))] [] σ := am_run_ok emX7_goesOn hX [13] 400 (show X 13 [some (.inr (.inr (20, 0))), some (.inl (nI g)), some (.inl (nI m)), some (.inl b), some (.inl ((nI t) + (1 : Int32)))] [] σ from h)
theorem tX7_goesOn {σ : am_M} {g pl m : Nat} {r : Rw} {hr bt : Int32} {K : am_K} (hg : g ≤ 272) (ho : m_ok σ) (hpl : σ 21 0 (g + 63) + 3 = nI pl) (h5 : pl ≤ 5) (hm : m < 2 ^ 31) (ha : m_at σ g (m_n σ) r) (hpt : pat_ok r (m_n σ)) (h : K (some (.inl ((p_hrs (m_n σ) pl r hr bt m).2 - bt))) (m_set σ g (m_n σ) (p_hrs (m_n σ) pl r hr bt m).1 (hr + nI m) (p_hrs (m_n σ) pl r hr bt m).2)) : sX7_goesOn [.inr (.inr (20, 0)), .inl (nI g), .inl (nI m)] (m_set σ g (m_n σ) r hr bt) K := by
  obtain ⟨hn, h9⟩ := m_ok_e ho
  have v7 : vp_in (nI (g + 67)) 340 := q_in (by omega) (by decide)
  refine ⟨am_le rfl, fun X hX => b_go0 hX g m ?_⟩
  rw [m_67, nI_clamp (by omega), m_set_b h9]
  have e0 : hr + nI 0 = hr := by show hr + (0 : Int32) = hr; simp
  have key := q_dn (W := fun i => X 13 [some (.inr (.inr (20, 0))), some (.inl (nI g)), some (.inl (nI m)), some (.inl bt), some (.inl (nI i))] [] (m_set σ g (m_n σ) (p_hrs (m_n σ) pl r hr bt i).1 (hr + nI i) (p_hrs (m_n σ) pl r hr bt i).2)) (n := m) (fun i hi ih => ?_) ?_ 0 (Nat.zero_le _)
  · rw [e0] at key
    exact ⟨v7, key⟩
  · refine b_go13 hX g m i bt ?_
    rw [nI_leI (by omega) (by omega)]
    refine ⟨fun q => absurd q (by omega), fun _ => ?_⟩
    refine tX7_anHour hg ho hpl h5 (m_at_cg ha (fun q j _ hj => p_hrs_at (by omega) (by omega) i)) (pat_hrs hpt i) ?_
    refine b_go24 hX g m i bt ?_
    have e2 : hr + nI i + 1 = hr + nI (i + 1) := by rw [← nI_1, Int32.add_assoc]
    rw [show nI i + (1 : Int32) = nI (i + 1) from nI_1 i, e2]
    exact ih
  · refine b_go13 hX g m m bt ?_
    rw [m_67, nI_clamp (by omega), m_set_b h9]
    exact ⟨fun _ => ⟨v7, h⟩, fun q => absurd (nI_le (Nat.le_refl _) hm) q⟩
/-- a page copied -/
def m_cp (σ : am_M) (f t k : Nat) : am_M := fun k' i j => if k' = 21 then (if i = 0 then (if t ≤ j ∧ j < t + k then σ 21 0 (f + (j - t)) else σ k' i j) else σ k' i j) else σ k' i j
theorem m_cp_0 {σ : am_M} {f t : Nat} : m_cp σ f t 0 = σ := by
  funext k i j
  unfold m_cp
  by_cases a : k = 21
  · subst a
    by_cases b : i = 0
    · subst b
      rw [if_pos rfl, if_pos rfl, if_neg (by omega)]
    · rw [if_pos rfl, if_neg b]
  · rw [if_neg a]
theorem m_cp_i {σ : am_M} {f t k j : Nat} : m_cp σ f t k 21 0 j = if t ≤ j ∧ j < t + k then σ 21 0 (f + (j - t)) else σ 21 0 j := rfl
theorem m_cp_s {σ : am_M} {f t k : Nat} : am_u (m_cp σ f t k) 21 0 (t + k) (σ 21 0 (f + k)) = m_cp σ f t (k + 1) := by
  funext k' i j
  by_cases a : k' = 21
  · subst a
    by_cases b : i = 0
    · subst b
      by_cases c : j = t + k
      · subst c
        rw [am_u_s, m_cp_i, if_pos ⟨by omega, by omega⟩, show t + k - t = k by omega]
      · rw [am_u_j c, m_cp_i, m_cp_i]
        by_cases d : t ≤ j ∧ j < t + k
        · rw [if_pos d, if_pos ⟨d.1, by omega⟩]
        · rw [if_neg d, if_neg (by omega)]
    · rw [am_u_i b]
      unfold m_cp
      rw [if_pos rfl, if_pos rfl, if_neg b, if_neg b]
  · rw [am_u_k a]
    unfold m_cp
    rw [if_neg a, if_neg a]
set_option maxRecDepth 100000 in
set_option maxHeartbeats 400000 in
theorem b_cp0 {K : Option am_V → am_M → Prop} {X : Nat → am_L → List am_V → am_M → Prop} (hX : am_cl eX7_copies lX7_copies none K X) {σ : am_M} (f t : Nat) (h : X 2 [some (.inr (.inr (20, 0))), some (.inl (nI f)), some (.inl (nI t)), some (.inl (0 : Int32))] [] σ) : X 0 [some (.inr (.inr (20, 0))), some (.inl (nI f)), some (.inl (nI t)), none] [] σ := am_run_ok emX7_copies hX [2] 400 (show X 2 [some (.inr (.inr (20, 0))), some (.inl (nI f)), some (.inl (nI t)), some (.inl (0 : Int32))] [] σ from h)
set_option maxRecDepth 100000 in
set_option maxHeartbeats 400000 in
theorem b_cp2 {K : Option am_V → am_M → Prop} {X : Nat → am_L → List am_V → am_M → Prop} (hX : am_cl eX7_copies lX7_copies none K X) {σ : am_M} (f t k : Nat) (h : (((68 : Int32) ≤ (nI k)) → K none σ) ∧ (¬ ((68 : Int32) ≤ (nI k)) → (vp_in ((nI f) + (nI k)) 340) ∧ ((vp_in ((nI t) + (nI k)) 340) ∧ (X 2 [some (.inr (.inr (20, 0))), some (.inl (nI f)), some (.inl (nI t)), some (.inl ((nI k) + (1 : Int32)))] [] (am_u σ 21 0 ((nI t) + (nI k)).toNatClampNeg (σ 21 0 ((nI f) + (nI k)).toNatClampNeg)))))) : X 2 [some (.inr (.inr (20, 0))), some (.inl (nI f)), some (.inl (nI t)), some (.inl (nI k))] [] σ := am_run_ok emX7_copies hX [2] 400 (show (((68 : Int32) ≤ (nI k)) → K none σ) ∧ (¬ ((68 : Int32) ≤ (nI k)) → (vp_in ((nI f) + (nI k)) 340) ∧ ((vp_in ((nI t) + (nI k)) 340) ∧ (X 2 [some (.inr (.inr (20, 0))), some (.inl (nI f)), some (.inl (nI t)), some (.inl ((nI k) + (1 : Int32)))] [] (am_u σ 21 0 ((nI t) + (nI k)).toNatClampNeg (σ 21 0 ((nI f) + (nI k)).toNatClampNeg))))) from ⟨fun q0 => (h.1 q0), fun q0 => ⟨(h.2 q0).1, ⟨(h.2 q0).2.1, (h.2 q0).2.2⟩⟩⟩)
theorem tX7_copies {σ : am_M} {f t : Nat} {K : am_K} (hf : f ≤ 272) (ht : t ≤ 272) (hd : f + 68 ≤ t ∨ t + 68 ≤ f) (h : K none (m_cp σ f t 68)) : sX7_copies [.inr (.inr (20, 0)), .inl (nI f), .inl (nI t)] σ K := by
  refine ⟨am_le rfl, fun X hX => b_cp0 hX f t ?_⟩
  have key := q_dn (W := fun i => X 2 [some (.inr (.inr (20, 0))), some (.inl (nI f)), some (.inl (nI t)), some (.inl (nI i))] [] (m_cp σ f t i)) (n := 68) (fun i hi ih => ?_) ?_ 0 (Nat.zero_le _)
  · rw [m_cp_0] at key
    exact key
  · refine b_cp2 hX f t i ?_
    rw [nI_add, nI_add, nI_clamp (by omega), nI_clamp (by omega), show nI i + (1 : Int32) = nI (i + 1) from nI_1 i, show m_cp σ f t i 21 0 (f + i) = σ 21 0 (f + i) from by rw [m_cp_i, if_neg (by omega)], m_cp_s]
    exact ⟨fun q => absurd q (nI_ge (b := 68) hi (by decide)), fun _ => ⟨q_in (by omega) (by decide), q_in (by omega) (by decide), ih⟩⟩
  · exact b_cp2 hX f t 68 ⟨fun _ => h, fun q => absurd (by decide) q⟩
/-- a crew copied: all that a crew is, its rows so far as there are ones -/
def c_cp (σ : am_M) (c d n : Nat) : am_M := fun k i j => if k = 3 then (if i = c then (if 1 ≤ j ∧ j ≤ 6 then σ 3 d j else σ k i j) else σ k i j) else if k = 5 then (if 9 * c ≤ i ∧ i < 9 * c + n ∧ j < 7 then σ 5 (9 * d + (i - 9 * c)) j else σ k i j) else σ k i j
theorem c_cp_k {σ : am_M} {c d n k : Nat} (h3 : k ≠ 3) (h5 : k ≠ 5) : c_cp σ c d n k = σ k := by
  funext i j
  unfold c_cp
  rw [if_neg h3, if_neg h5]
theorem c_cp_3 {σ : am_M} {c d n j : Nat} (h : 1 ≤ j ∧ j ≤ 6) : c_cp σ c d n 3 c j = σ 3 d j := by
  unfold c_cp
  rw [if_pos rfl, if_pos rfl, if_pos h]
theorem c_cp_o {σ : am_M} {c d n i : Nat} (h : i ≠ c) : c_cp σ c d n 3 i = σ 3 i := by
  funext j
  unfold c_cp
  rw [if_pos rfl, if_neg h]
theorem c_cp_r {σ : am_M} {c d n p j : Nat} (hp : p < n) (hj : j < 7) : c_cp σ c d n 5 (9 * c + p) j = σ 5 (9 * d + p) j := by
  unfold c_cp
  rw [if_neg (by decide), if_pos rfl, if_pos ⟨by omega, by omega, hj⟩, show 9 * c + p - 9 * c = p by omega]
theorem c_cp_q {σ : am_M} {c d n i j : Nat} (h : i < 9 * c ∨ 9 * c + n ≤ i ∨ 7 ≤ j) : c_cp σ c d n 5 i j = σ 5 i j := by
  unfold c_cp
  rw [if_neg (by decide), if_pos rfl, if_neg (by omega)]
theorem c_cp_s {σ : am_M} {c d n : Nat} (hc : c ≠ d) (hn : n < 9) : am_cp (c_cp σ c d n) (9 * d + n) (9 * c + n) = c_cp σ c d (n + 1) := by
  funext k i j
  unfold am_cp
  by_cases a : k = 5 ∧ i = 9 * c + n ∧ j < 7
  · rw [if_pos a, a.1, a.2.1, c_cp_r (by omega) a.2.2, c_cp_q (by omega)]
  · rw [if_neg a]
    unfold c_cp
    by_cases b : k = 3
    · rw [if_pos b, if_pos b]
    · rw [if_neg b, if_neg b]
      by_cases e : k = 5
      · rw [if_pos e, if_pos e]
        by_cases f : 9 * c ≤ i ∧ i < 9 * c + n ∧ j < 7
        · rw [if_pos f, if_pos ⟨f.1, by omega, f.2.2⟩]
        · rw [if_neg f, if_neg (fun q => a ⟨e, by omega, q.2.2⟩)]
      · rw [if_neg e, if_neg e]
theorem am_acp {σ : am_M} {a b : Nat} {K : am_K} (h : True ∧ K none (am_cp σ a b)) : s_acp [.inr (.inr (5, a)), .inl (0 : Int32), .inr (.inr (5, b)), .inl (0 : Int32), .inl (7 : Int32)] σ K := ⟨rfl, rfl, rfl, h.2⟩
set_option maxRecDepth 100000 in
set_option maxHeartbeats 400000 in
theorem b_cf0 {K : Option am_V → am_M → Prop} {X : Nat → am_L → List am_V → am_M → Prop} (hX : am_cl eX0_copyFrom lX0_copyFrom none K X) {σ : am_M} (c d : Nat) (h : X 50 [some (.inr (.inr (3, c))), some (.inr (.inr (3, d))), some (.inl (0 : Int32))] [] (am_u (am_u (am_u (am_u (am_u (am_u σ 3 c 1 (σ 3 d 1)) 3 c 2 (σ 3 d 2)) 3 c 3 (σ 3 d 3)) 3 c 4 (σ 3 d 4)) 3 c 5 (σ 3 d 5)) 3 c 6 (σ 3 d 6))) : X 0 [some (.inr (.inr (3, c))), some (.inr (.inr (3, d))), none] [] σ := am_run_ok emX0_copyFrom hX [50] 400 (show X 50 [some (.inr (.inr (3, c))), some (.inr (.inr (3, d))), some (.inl (0 : Int32))] [] (am_u (am_u (am_u (am_u (am_u (am_u σ 3 c 1 (σ 3 d 1)) 3 c 2 (σ 3 d 2)) 3 c 3 (σ 3 d 3)) 3 c 4 (σ 3 d 4)) 3 c 5 (σ 3 d 5)) 3 c 6 (σ 3 d 6)) from h)
set_option maxRecDepth 100000 in
set_option maxHeartbeats 400000 in
theorem b_cf50 {K : Option am_V → am_M → Prop} {X : Nat → am_L → List am_V → am_M → Prop} (hX : am_cl eX0_copyFrom lX0_copyFrom none K X) {σ : am_M} (c d p : Nat) (h : (((σ 3 c 1) ≤ (nI p)) → K none σ) ∧ (¬ ((σ 3 c 1) ≤ (nI p)) → (vp_in (nI p) 9) ∧ ((vp_in (nI p) 9) ∧ (X 50 [some (.inr (.inr (3, c))), some (.inr (.inr (3, d))), some (.inl ((nI p) + (1 : Int32)))] [] (am_cp σ (9 * d + (nI p).toNatClampNeg) (9 * c + (nI p).toNatClampNeg)))))) : X 50 [some (.inr (.inr (3, c))), some (.inr (.inr (3, d))), some (.inl (nI p))] [] σ := am_run_ok emX0_copyFrom hX [50] 400 (show (((σ 3 c 1) ≤ (nI p)) → K none σ) ∧ (¬ ((σ 3 c 1) ≤ (nI p)) → (vp_in (nI p) 9) ∧ ((vp_in (nI p) 9) ∧ (5 ≤ 5 ∧ 0 ≤ 8 ∧ s_acp [.inr (.inr (5, (9 * d + (nI p).toNatClampNeg))), .inl (0 : Int32), .inr (.inr (5, (9 * c + (nI p).toNatClampNeg))), .inl (0 : Int32), .inl (7 : Int32)] σ (fun vv tt => am_run eX0_copyFrom lX0_copyFrom none K X [50] 384 77 [some (.inr (.inr (3, c))), some (.inr (.inr (3, d))), some (.inl (nI p))] (vv.toList ++ []) tt)))) from ⟨fun q0 => (h.1 q0), fun q0 => ⟨(h.2 q0).1, ⟨(h.2 q0).2.1, ⟨am_le rfl, am_le rfl, am_acp (⟨trivial, (show X 50 [some (.inr (.inr (3, c))), some (.inr (.inr (3, d))), some (.inl ((nI p) + (1 : Int32)))] [] (am_cp σ (9 * d + (nI p).toNatClampNeg) (9 * c + (nI p).toNatClampNeg)) from (h.2 q0).2.2)⟩)⟩⟩⟩⟩)
theorem tX0_copyFrom {σ : am_M} {c d : Nat} {K : am_K} (hc : c ≠ d) (ho : c_ok σ d) (h : K none (c_cp σ c d (c_n σ d))) : sX0_copyFrom [.inr (.inr (3, c)), .inr (.inr (3, d))] σ K := by
  obtain ⟨hn, h9⟩ := c_ok_e ho
  generalize c_n σ d = n at hn h9 h
  refine ⟨am_le rfl, fun X hX => b_cf0 hX c d ?_⟩
  have e : (am_u (am_u (am_u (am_u (am_u (am_u σ 3 c 1 (σ 3 d 1)) 3 c 2 (σ 3 d 2)) 3 c 3 (σ 3 d 3)) 3 c 4 (σ 3 d 4)) 3 c 5 (σ 3 d 5)) 3 c 6 (σ 3 d 6)) = c_cp σ c d 0 := by
    funext k i j
    by_cases a : k = 3
    · subst a
      by_cases b : i = c
      · subst b
        unfold c_cp
        rw [if_pos rfl, if_pos rfl]
        by_cases f : 1 ≤ j ∧ j ≤ 6
        · rw [if_pos f]
          rcases (show j = 1 ∨ j = 2 ∨ j = 3 ∨ j = 4 ∨ j = 5 ∨ j = 6 by omega) with rfl | rfl | rfl | rfl | rfl | rfl <;> simp [am_u]
        · rw [if_neg f, am_u_j (by omega), am_u_j (by omega), am_u_j (by omega), am_u_j (by omega), am_u_j (by omega), am_u_j (by omega)]
      · rw [am_u_i b, am_u_i b, am_u_i b, am_u_i b, am_u_i b, am_u_i b, c_cp_o b]
    · rw [am_u_k a, am_u_k a, am_u_k a, am_u_k a, am_u_k a, am_u_k a]
      unfold c_cp
      rw [if_neg a]
      by_cases e5 : k = 5
      · rw [if_pos e5, if_neg (by omega)]
      · rw [if_neg e5]
  have key := q_dn (W := fun i => X 50 [some (.inr (.inr (3, c))), some (.inr (.inr (3, d))), some (.inl (nI i))] [] (c_cp σ c d i)) (n := n) (fun i hi ih => ?_) ?_ 0 (Nat.zero_le _)
  · rw [← e] at key
    exact key
  · refine b_cf50 hX c d i ?_
    rw [c_cp_3 ⟨by decide, by decide⟩, hn, nI_clamp (by omega), c_cp_s hc (by omega), show nI i + (1 : Int32) = nI (i + 1) from nI_1 i]
    have vi : vp_in (nI i) 9 := q_in (by omega) (by decide)
    exact ⟨fun q => absurd q (nI_ge hi (by omega)), fun _ => ⟨vi, vi, ih⟩⟩
  · refine b_cf50 hX c d n ⟨fun _ => h, fun q => absurd ?_ q⟩
    rw [c_cp_3 ⟨by decide, by decide⟩, hn]
    exact nI_le (Nat.le_refl _) (by omega)
