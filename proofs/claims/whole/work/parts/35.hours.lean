/-! hours, walked; a crew copied -/
set_option maxRecDepth 100000 in
set_option maxHeartbeats 400000 in
theorem b_ph0 {K : Option am_V → am_M → Prop} {X : Nat → am_L → List am_V → am_M → Prop} (hX : am_cl eX0_passHour lX0_passHour none K X) {σ : am_M} (c : Nat) (h : X 2 [some (.inr (.inr (3, c))), some (.inl (0 : Int32))] [] σ) : X 0 [some (.inr (.inr (3, c))), none] [] σ := am_run_ok emX0_passHour hX [2] 400 (show X 2 [some (.inr (.inr (3, c))), some (.inl (0 : Int32))] [] σ from h)
set_option maxRecDepth 100000 in
set_option maxHeartbeats 400000 in
theorem b_ph2 {K : Option am_V → am_M → Prop} {X : Nat → am_L → List am_V → am_M → Prop} (hX : am_cl eX0_passHour lX0_passHour none K X) {σ : am_M} (c : Nat) (p : Int32) (h : (((σ 3 c 1) ≤ p) → X 55 [some (.inr (.inr (3, c))), some (.inl (0 : Int32))] [] σ) ∧ (¬ ((σ 3 c 1) ≤ p) → (vp_in p 9) ∧ ((((σ 5 (9 * c + p.toNatClampNeg) 6) = (0 : Int32)) → (vp_in p 9) ∧ ((((σ 5 (9 * c + p.toNatClampNeg) 5) = (σ 3 c 5)) → (vp_in p 9) ∧ (X 2 [some (.inr (.inr (3, c))), some (.inl (p + (1 : Int32)))] [] (am_u σ 5 (9 * c + p.toNatClampNeg) 6 (1 : Int32)))) ∧ (¬ ((σ 5 (9 * c + p.toNatClampNeg) 5) = (σ 3 c 5)) → X 2 [some (.inr (.inr (3, c))), some (.inl (p + (1 : Int32)))] [] σ))) ∧ (¬ ((σ 5 (9 * c + p.toNatClampNeg) 6) = (0 : Int32)) → X 2 [some (.inr (.inr (3, c))), some (.inl (p + (1 : Int32)))] [] σ)))) : X 2 [some (.inr (.inr (3, c))), some (.inl p)] [] σ := am_run_ok emX0_passHour hX [2, 55] 400 (show (((σ 3 c 1) ≤ p) → X 55 [some (.inr (.inr (3, c))), some (.inl (0 : Int32))] [] σ) ∧ (¬ ((σ 3 c 1) ≤ p) → (vp_in p 9) ∧ ((vp_in (6 : Int32) 7) ∧ ((((σ 5 (9 * c + p.toNatClampNeg) 6) = (0 : Int32)) → (vp_in p 9) ∧ ((vp_in (5 : Int32) 7) ∧ ((((σ 5 (9 * c + p.toNatClampNeg) 5) = (σ 3 c 5)) → (vp_in p 9) ∧ ((vp_in (6 : Int32) 7) ∧ (X 2 [some (.inr (.inr (3, c))), some (.inl (p + (1 : Int32)))] [] (am_u σ 5 (9 * c + p.toNatClampNeg) 6 (1 : Int32))))) ∧ (¬ ((σ 5 (9 * c + p.toNatClampNeg) 5) = (σ 3 c 5)) → X 2 [some (.inr (.inr (3, c))), some (.inl (p + (1 : Int32)))] [] σ)))) ∧ (¬ ((σ 5 (9 * c + p.toNatClampNeg) 6) = (0 : Int32)) → X 2 [some (.inr (.inr (3, c))), some (.inl (p + (1 : Int32)))] [] σ)))) from ⟨fun q0 => (h.1 q0), fun q0 => ⟨(h.2 q0).1, ⟨am_ci (by decide), ⟨fun q1 => ⟨((h.2 q0).2.1 q1).1, ⟨am_ci (by decide), ⟨fun q2 => ⟨(((h.2 q0).2.1 q1).2.1 q2).1, ⟨am_ci (by decide), (((h.2 q0).2.1 q1).2.1 q2).2⟩⟩, fun q2 => (((h.2 q0).2.1 q1).2.2 q2)⟩⟩⟩, fun q1 => ((h.2 q0).2.2 q1)⟩⟩⟩⟩)
set_option maxRecDepth 100000 in
set_option maxHeartbeats 400000 in
theorem b_ph55 {K : Option am_V → am_M → Prop} {X : Nat → am_L → List am_V → am_M → Prop} (hX : am_cl eX0_passHour lX0_passHour none K X) {σ : am_M} (c : Nat) (p : Int32) (h : (((σ 3 c 1) ≤ p) → X 77 [some (.inr (.inr (3, c))), some (.inl (0 : Int32))] [] σ) ∧ (¬ ((σ 3 c 1) ≤ p) → sX0_takeAboard [.inr (.inr (3, c)), .inl p] σ (fun vv tt => X 68 [some (.inr (.inr (3, c))), some (.inl p)] (vv.toList ++ []) tt))) : X 55 [some (.inr (.inr (3, c))), some (.inl p)] [] σ := am_run_ok emX0_passHour hX [68, 77] 400 (show (((σ 3 c 1) ≤ p) → X 77 [some (.inr (.inr (3, c))), some (.inl (0 : Int32))] [] σ) ∧ (¬ ((σ 3 c 1) ≤ p) → 2 ≤ 2 ∧ 0 ≤ 8 ∧ True ∧ sX0_takeAboard [.inr (.inr (3, c)), .inl p] σ (fun vv tt => X 68 [some (.inr (.inr (3, c))), some (.inl p)] (vv.toList ++ []) tt)) from ⟨fun q0 => (h.1 q0), fun q0 => ⟨am_le rfl, am_le rfl, trivial, (h.2 q0)⟩⟩)
set_option maxRecDepth 100000 in
set_option maxHeartbeats 400000 in
theorem b_ph68 {K : Option am_V → am_M → Prop} {X : Nat → am_L → List am_V → am_M → Prop} (hX : am_cl eX0_passHour lX0_passHour none K X) {σ : am_M} (c : Nat) (p v : Int32) (h : X 55 [some (.inr (.inr (3, c))), some (.inl (p + (1 : Int32)))] [] σ) : X 68 [some (.inr (.inr (3, c))), some (.inl p)] [.inl v] σ := am_run_ok emX0_passHour hX [55] 400 (show X 55 [some (.inr (.inr (3, c))), some (.inl (p + (1 : Int32)))] [] σ from h)
set_option maxRecDepth 100000 in
set_option maxHeartbeats 400000 in
theorem b_ph77 {K : Option am_V → am_M → Prop} {X : Nat → am_L → List am_V → am_M → Prop} (hX : am_cl eX0_passHour lX0_passHour none K X) {σ : am_M} (c : Nat) (p : Int32) (h : (((σ 3 c 1) ≤ p) → K none (am_u σ 3 c 5 ((σ 3 c 5) + (1 : Int32)))) ∧ (¬ ((σ 3 c 1) ≤ p) → (vp_in p 9) ∧ ((((σ 5 (9 * c + p.toNatClampNeg) 6) = (1 : Int32)) → (vp_in p 9) ∧ ((((σ 5 (9 * c + p.toNatClampNeg) 4) ≤ (0 : Int32)) → X 77 [some (.inr (.inr (3, c))), some (.inl (p + (1 : Int32)))] [] (am_u σ 5 (9 * c + p.toNatClampNeg) 6 (4 : Int32))) ∧ (¬ ((σ 5 (9 * c + p.toNatClampNeg) 4) ≤ (0 : Int32)) → X 77 [some (.inr (.inr (3, c))), some (.inl (p + (1 : Int32)))] [] (am_u σ 5 (9 * c + p.toNatClampNeg) 4 ((σ 5 (9 * c + p.toNatClampNeg) 4) - (1 : Int32)))))) ∧ (¬ ((σ 5 (9 * c + p.toNatClampNeg) 6) = (1 : Int32)) → X 77 [some (.inr (.inr (3, c))), some (.inl (p + (1 : Int32)))] [] σ)))) : X 77 [some (.inr (.inr (3, c))), some (.inl p)] [] σ := am_run_ok emX0_passHour hX [77] 400 (show (((σ 3 c 1) ≤ p) → K none (am_u σ 3 c 5 ((σ 3 c 5) + (1 : Int32)))) ∧ (¬ ((σ 3 c 1) ≤ p) → (vp_in p 9) ∧ ((vp_in (6 : Int32) 7) ∧ ((((σ 5 (9 * c + p.toNatClampNeg) 6) = (1 : Int32)) → (vp_in p 9) ∧ (1 ≤ 1 ∧ 0 ≤ 8 ∧ sX0_losePatience [.inr (.inr (5, (9 * c + p.toNatClampNeg)))] σ (fun vv tt => am_run eX0_passHour lX0_passHour none K X [77] 383 107 [some (.inr (.inr (3, c))), some (.inl p)] (vv.toList ++ []) tt))) ∧ (¬ ((σ 5 (9 * c + p.toNatClampNeg) 6) = (1 : Int32)) → X 77 [some (.inr (.inr (3, c))), some (.inl (p + (1 : Int32)))] [] σ)))) from ⟨fun q0 => (h.1 q0), fun q0 => ⟨(h.2 q0).1, ⟨am_ci (by decide), ⟨fun q1 => ⟨((h.2 q0).2.1 q1).1, ⟨am_le rfl, am_le rfl, tX0_losePatience (⟨fun q2 => (show X 77 [some (.inr (.inr (3, c))), some (.inl (p + (1 : Int32)))] [] (am_u σ 5 (9 * c + p.toNatClampNeg) 6 (4 : Int32)) from (((h.2 q0).2.1 q1).2.1 q2)), fun q2 => (show X 77 [some (.inr (.inr (3, c))), some (.inl (p + (1 : Int32)))] [] (am_u σ 5 (9 * c + p.toNatClampNeg) 4 ((σ 5 (9 * c + p.toNatClampNeg) 4) - (1 : Int32))) from (((h.2 q0).2.1 q1).2.2 q2))⟩)⟩⟩, fun q1 => ((h.2 q0).2.2 q1)⟩⟩⟩⟩)
/-- the first k rows by g, the others as they were -/
def p_k (g r : Rw) (k : Nat) : Rw := fun q => if q < k then g q else r q
theorem p_k_0 {σ : am_M} {c n : Nat} {g r : Rw} {hr bt : Int32} : c_set σ c n (p_k g r 0) hr bt = c_set σ c n r hr bt := c_set_cg fun p _ => if_neg (Nat.not_lt_zero p)
theorem p_k_n {σ : am_M} {c n : Nat} {g r : Rw} {hr bt : Int32} : c_set σ c n (p_k g r n) hr bt = c_set σ c n g hr bt := c_set_cg fun p hp => if_pos hp
theorem p_k_i {g r : Rw} {i : Nat} : p_k g r i i = r i := if_neg (Nat.lt_irrefl i)
/-- one row on: what was laid there is g's -/
theorem p_k_s {σ : am_M} {c n : Nat} {g r r' : Rw} {hr bt : Int32} {i : Nat} (h : r' i = g i) (ho : ∀ q, q ≠ i → r' q = p_k g r i q) : c_set σ c n (p_k g r (i + 1)) hr bt = c_set σ c n r' hr bt := c_set_cg fun p _ => by
  by_cases e : p = i
  · subst e
    rw [h]
    exact if_pos (by omega)
  · rw [ho p e]
    unfold p_k
    by_cases b : p < i
    · rw [if_pos b, if_pos (by omega)]
    · rw [if_neg b, if_neg (by omega)]
theorem r_set_o {r : Rw} {p j q : Nat} {v : Int32} (h : q ≠ p) : r_set r p j v q = r q := by
  funext k
  exact if_neg (fun e => h e.1)
set_option maxHeartbeats 1000000 in
theorem tX0_passHour {σ : am_M} {c pl : Nat} {r : Rw} {hr bt : Int32} {K : am_K} (ho : c_ok σ c) (hp : σ 3 c 2 = nI pl) (hpl : pl ≤ 5) (hv : p_inv r (c_n σ c) pl) (h : K none (c_set σ c (c_n σ c) (p_hr (c_n σ c) pl r hr bt).1 (hr + 1) (p_hr (c_n σ c) pl r hr bt).2)) : sX0_passHour [.inr (.inr (3, c))] (c_set σ c (c_n σ c) r hr bt) K := by
  obtain ⟨hn, h9⟩ := c_ok_e ho
  generalize hN : c_n σ c = n at hn h9 h hv
  have e1 : ∀ r' hr' bt', c_set σ c n r' hr' bt' 3 c 1 = nI n := fun r' hr' bt' => by rw [c_set_j (by decide) (by decide), hn]
  refine ⟨am_le rfl, fun X hX => b_ph0 hX c ?_⟩
  -- the third loop
  have l3 : ∀ (r2 : Rw) (bt2 : Int32), K none (c_set σ c n (p_pat r2) (hr + 1) bt2) → X 77 [some (.inr (.inr (3, c))), some (.inl (nI 0))] [] (c_set σ c n r2 hr bt2) := by
    intro r2 bt2 hk
    rw [← p_k_0 (g := p_pat r2) (r := r2)]
    refine q_dn (W := fun i => X 77 [some (.inr (.inr (3, c))), some (.inl (nI i))] [] (c_set σ c n (p_k (p_pat r2) r2 i) hr bt2)) (n := n) (fun i hi ih => ?_) ?_ 0 (Nat.zero_le _)
    · refine b_ph77 hX c (nI i) ?_
      rw [e1, nI_clamp (by omega), c_set_r hi, c_set_u hi, c_set_u hi, p_k_i, show nI i + (1 : Int32) = nI (i + 1) from nI_1 i]
      have vi : vp_in (nI i) 9 := q_in (by omega) (by decide)
      refine ⟨fun q => absurd q (nI_ge hi (by omega)), fun _ => ⟨vi, fun a => ⟨vi, fun b => ?_, fun b => ?_⟩, fun a => ?_⟩⟩
      · rw [p_k_s (r' := r_set (p_k (p_pat r2) r2 i) i 6 4) ?_ (fun q hq => r_set_o hq)] at ih
        · exact ih
        · funext j
          unfold r_set p_pat
          rw [if_pos a, if_pos b]
          by_cases d : j = 6
          · rw [if_pos ⟨rfl, d⟩, if_pos d]
          · rw [if_neg (fun q => d q.2), if_neg d, p_k_i]
      · rw [p_k_s (r' := r_set (p_k (p_pat r2) r2 i) i 4 (r2 i 4 - 1)) ?_ (fun q hq => r_set_o hq)] at ih
        · exact ih
        · funext j
          unfold r_set p_pat
          rw [if_pos a, if_neg b]
          by_cases d : j = 4
          · rw [if_pos ⟨rfl, d⟩, if_pos d]
          · rw [if_neg (fun q => d q.2), if_neg d, p_k_i]
      · rw [p_k_s (r' := p_k (p_pat r2) r2 i) ?_ (fun q _ => rfl)] at ih
        · exact ih
        · funext j
          unfold p_pat
          rw [if_neg a, p_k_i]
    · refine b_ph77 hX c (nI n) ⟨fun _ => ?_, fun q => absurd ?_ q⟩
      · rw [p_k_n, c_set_h, c_set_uh]
        exact hk
      · rw [e1]
        exact nI_le (Nat.le_refl _) (by omega)
  -- the second
  have l2 : ∀ r1 : Rw, p_inv r1 n pl → K none (c_set σ c n (p_pat (p_brds n pl r1 bt n).1) (hr + 1) (p_brds n pl r1 bt n).2) → X 55 [some (.inr (.inr (3, c))), some (.inl (nI 0))] [] (c_set σ c n r1 hr bt) := by
    intro r1 hv1 hk
    refine q_dn (W := fun i => X 55 [some (.inr (.inr (3, c))), some (.inl (nI i))] [] (c_set σ c n (p_brds n pl r1 bt i).1 hr (p_brds n pl r1 bt i).2)) (n := n) (fun i hi ih => ?_) ?_ 0 (Nat.zero_le _)
    · refine b_ph55 hX c (nI i) ⟨fun q => absurd q ?_, fun _ => ?_⟩
      · rw [e1]
        exact nI_ge hi (by omega)
      · have hvi := p_inv_brds (bt := bt) h9 hv1 i (by omega)
        subst hN
        refine tX0_takeAboard ho hp hpl hi hvi ?_
        refine b_ph68 hX c (nI i) _ ?_
        rw [show nI i + (1 : Int32) = nI (i + 1) from nI_1 i]
        exact ih
    · refine b_ph55 hX c (nI n) ⟨fun _ => l3 _ _ hk, fun q => absurd ?_ q⟩
      rw [e1]
      exact nI_le (Nat.le_refl _) (by omega)
  rw [← p_k_0 (g := p_come r hr) (r := r)]
  refine q_dn (W := fun i => X 2 [some (.inr (.inr (3, c))), some (.inl (nI i))] [] (c_set σ c n (p_k (p_come r hr) r i) hr bt)) (n := n) (fun i hi ih => ?_) ?_ 0 (Nat.zero_le _)
  · refine b_ph2 hX c (nI i) ?_
    rw [e1, nI_clamp (by omega), c_set_r hi, c_set_u hi, p_k_i, c_set_h, show nI i + (1 : Int32) = nI (i + 1) from nI_1 i]
    have vi : vp_in (nI i) 9 := q_in (by omega) (by decide)
    refine ⟨fun q => absurd q (nI_ge hi (by omega)), fun _ => ⟨vi, fun a => ⟨vi, fun b => ⟨vi, ?_⟩, fun b => ?_⟩, fun a => ?_⟩⟩
    · rw [p_k_s (r' := r_set (p_k (p_come r hr) r i) i 6 1) ?_ (fun q hq => r_set_o hq)] at ih
      · exact ih
      · funext j
        unfold r_set p_come
        by_cases d : j = 6
        · rw [if_pos ⟨rfl, d⟩, if_pos ⟨d, a, b⟩]
        · rw [if_neg (fun q => d q.2), if_neg (fun q => d q.1), p_k_i]
    · rw [p_k_s (r' := p_k (p_come r hr) r i) ?_ (fun q _ => rfl)] at ih
      · exact ih
      · funext j
        unfold p_come
        rw [if_neg (fun q => b q.2.2), p_k_i]
    · rw [p_k_s (r' := p_k (p_come r hr) r i) ?_ (fun q _ => rfl)] at ih
      · exact ih
      · funext j
        unfold p_come
        rw [if_neg (fun q => a q.2.1), p_k_i]
  · refine b_ph2 hX c (nI n) ⟨fun _ => ?_, fun q => absurd ?_ q⟩
    · rw [p_k_n]
      exact l2 _ (p_inv_come hv) h
    · rw [e1]
      exact nI_le (Nat.le_refl _) (by omega)
set_option maxRecDepth 100000 in
set_option maxHeartbeats 400000 in
theorem b_phs0 {K : Option am_V → am_M → Prop} {X : Nat → am_L → List am_V → am_M → Prop} (hX : am_cl eX0_passHours lX0_passHours (some .int) K X) {σ : am_M} (c : Nat) (m : Int32) (h : X 7 [some (.inr (.inr (3, c))), some (.inl m), some (.inl (σ 3 c 6)), some (.inl (0 : Int32))] [] σ) : X 0 [some (.inr (.inr (3, c))), some (.inl m), none, none] [] σ := am_run_ok emX0_passHours hX [7] 400 (show X 7 [some (.inr (.inr (3, c))), some (.inl m), some (.inl (σ 3 c 6)), some (.inl (0 : Int32))] [] σ from h)
set_option maxRecDepth 100000 in
set_option maxHeartbeats 400000 in
theorem b_phs7 {K : Option am_V → am_M → Prop} {X : Nat → am_L → List am_V → am_M → Prop} (hX : am_cl eX0_passHours lX0_passHours (some .int) K X) {σ : am_M} (c : Nat) (m b t : Int32) (h : ((m ≤ t) → K (some (.inl ((σ 3 c 6) - b))) σ) ∧ (¬ (m ≤ t) → sX0_passHour [.inr (.inr (3, c))] σ (fun vv tt => X 16 [some (.inr (.inr (3, c))), some (.inl m), some (.inl b), some (.inl t)] (vv.toList ++ []) tt))) : X 7 [some (.inr (.inr (3, c))), some (.inl m), some (.inl b), some (.inl t)] [] σ := am_run_ok emX0_passHours hX [16] 400 (show ((m ≤ t) → K (some (.inl ((σ 3 c 6) - b))) σ) ∧ (¬ (m ≤ t) → 1 ≤ 1 ∧ 0 ≤ 8 ∧ True ∧ sX0_passHour [.inr (.inr (3, c))] σ (fun vv tt => X 16 [some (.inr (.inr (3, c))), some (.inl m), some (.inl b), some (.inl t)] (vv.toList ++ []) tt)) from ⟨fun q0 => (h.1 q0), fun q0 => ⟨am_le rfl, am_le rfl, trivial, (h.2 q0)⟩⟩)
set_option maxRecDepth 100000 in
set_option maxHeartbeats 400000 in
theorem b_phs16 {K : Option am_V → am_M → Prop} {X : Nat → am_L → List am_V → am_M → Prop} (hX : am_cl eX0_passHours lX0_passHours (some .int) K X) {σ : am_M} (c : Nat) (m b t : Int32) (h : X 7 [some (.inr (.inr (3, c))), some (.inl m), some (.inl b), some (.inl (t + (1 : Int32)))] [] σ) : X 16 [some (.inr (.inr (3, c))), some (.inl m), some (.inl b), some (.inl t)] [] σ := am_run_ok emX0_passHours hX [7] 400 (show X 7 [some (.inr (.inr (3, c))), some (.inl m), some (.inl b), some (.inl (t + (1 : Int32)))] [] σ from h)
theorem tX0_passHours {σ : am_M} {c pl m : Nat} {r : Rw} {hr bt : Int32} {K : am_K} (ho : c_ok σ c) (hp : σ 3 c 2 = nI pl) (hpl : pl ≤ 5) (hm : m < 2 ^ 31) (hv : p_inv r (c_n σ c) pl) (h : K (some (.inl ((p_hrs (c_n σ c) pl r hr bt m).2 - bt))) (c_set σ c (c_n σ c) (p_hrs (c_n σ c) pl r hr bt m).1 (hr + nI m) (p_hrs (c_n σ c) pl r hr bt m).2)) : sX0_passHours [.inr (.inr (3, c)), .inl (nI m)] (c_set σ c (c_n σ c) r hr bt) K := by
  refine ⟨am_le rfl, fun X hX => b_phs0 hX c (nI m) ?_⟩
  rw [c_set_b]
  have e0 : hr + nI 0 = hr := by show hr + (0 : Int32) = hr; simp
  have key := q_dn (W := fun i => X 7 [some (.inr (.inr (3, c))), some (.inl (nI m)), some (.inl bt), some (.inl (nI i))] [] (c_set σ c (c_n σ c) (p_hrs (c_n σ c) pl r hr bt i).1 (hr + nI i) (p_hrs (c_n σ c) pl r hr bt i).2)) (n := m) (fun i hi ih => ?_) ?_ 0 (Nat.zero_le _)
  · rw [e0] at key
    exact key
  · refine b_phs7 hX c (nI m) bt (nI i) ⟨fun q => absurd q (nI_ge hi (by omega)), fun _ => ?_⟩
    refine tX0_passHour ho hp hpl (p_inv_hrs (c_ok_e ho).2 hv i) ?_
    refine b_phs16 hX c (nI m) bt (nI i) ?_
    rw [show nI i + (1 : Int32) = nI (i + 1) from nI_1 i]
    have e2 : hr + nI i + 1 = hr + nI (i + 1) := by rw [← nI_1, Int32.add_assoc]
    rw [e2]
    exact ih
  · refine b_phs7 hX c (nI m) bt (nI m) ⟨fun _ => ?_, fun q => absurd (nI_le (Nat.le_refl _) hm) q⟩
    rw [c_set_b]
    exact h
