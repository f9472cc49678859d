/-! boarding and hours, walked -/
theorem q_pop_cg {S T : Nat} : ∀ {m : Nat}, (∀ i, i < m → S.testBit i = T.testBit i) → q_pop S m = q_pop T m
  | 0, _ => rfl
  | m + 1, h => by
    unfold q_pop
    rw [q_pop_cg (fun i hi => h i (by omega)), h m (by omega)]
theorem q_pop_ins {S T p : Nat} (hS : S.testBit p = false) (hT : ∀ i, T.testBit i = (S.testBit i || decide (i = p))) : ∀ {m : Nat}, p < m → q_pop T m = q_pop S m + 1
  | 0, h => absurd h (Nat.not_lt_zero p)
  | m + 1, h => by
    unfold q_pop
    by_cases e : p = m
    · subst e
      rw [q_pop_cg (S := T) (T := S) (fun i hi => by rw [hT i]; simp [show ¬ i = p by omega]), hT p, hS]
      simp
    · have := q_pop_ins hS hT (m := m) (by omega)
      rw [this, hT m]
      simp [show ¬ m = p by omega]
      omega
theorem q_pop_0 : ∀ m, q_pop 0 m = 0
  | 0 => rfl
  | m + 1 => by
    unfold q_pop
    rw [q_pop_0 m]
    simp
theorem p_who_bit (r : Rw) (n : Nat) (s : Int32) (i : Nat) : (p_who r n s).testBit i = (decide (i < n) && decide (r i 6 = s)) := q_set_bit _ n i
theorem p_who_lt {r : Rw} {n : Nat} {s : Int32} (h : n ≤ 9) : p_who r n s < 512 := q_set_le _ (m := 9) h
theorem p_riv_lt {r : Rw} {n : Nat} {a : Nat → Int32} {s : Int32} (h : n ≤ 9) : p_riv r n a s < 512 := q_set_le _ (m := 9) h
/-- the boat isn't overfull -/
def p_inv (r : Rw) (n pl : Nat) : Prop := q_pop (p_who r n 2) 9 < pl
theorem p_inv_cg {r r' : Rw} {n pl : Nat} (h : ∀ p, p < n → (r p 6 = 2 ↔ r' p 6 = 2)) (hi : p_inv r n pl) : p_inv r' n pl := by
  have e : p_who r' n 2 = p_who r n 2 := q_set_cg fun i hi => by
    have := h i hi
    by_cases c : r i 6 = 2
    · simp [c, this.mp c]
    · have c' : ¬ r' i 6 = 2 := fun q => c (this.mpr q)
      simp [c, c']
  unfold p_inv
  rw [e]
  exact hi
theorem p_inv_brd {r : Rw} {n pl p : Nat} {bt : Int32} (h9 : n ≤ 9) (hp : p < n) (hi : p_inv r n pl) : p_inv (p_brd n pl r bt p).1 n pl := by
  unfold p_brd
  by_cases ok : p_ok r n p = true
  · rw [if_pos ok]
    have h1 : r p 6 = 1 := by
      unfold p_ok at ok
      simp at ok
      exact ok.1
    by_cases fl : p_full r n pl = true
    · rw [if_pos fl]
      show p_inv (p_mv (r_set r p 6 2) 2 3) n pl
      have e : p_who (p_mv (r_set r p 6 2) 2 3) n 2 = 0 := by
        apply Nat.eq_of_testBit_eq
        intro i
        rw [p_who_bit, Nat.zero_testBit]
        unfold p_mv
        by_cases c : r_set r p 6 2 i 6 = 2
        · simp [c]
        · simp [c]
      unfold p_inv at hi ⊢
      rw [e, q_pop_0]
      omega
    · rw [if_neg fl]
      show p_inv (r_set r p 6 2) n pl
      have e := q_pop_ins (S := p_who r n 2) (T := p_who (r_set r p 6 2) n 2) (p := p) (by rw [p_who_bit, h1]; simp) (fun i => by
        rw [p_who_bit, p_who_bit]
        unfold r_set
        by_cases c : i = p
        · subst c
          simp [hp]
        · simp [c]) (m := 9) (by omega)
      unfold p_inv p_full at *
      simp at fl
      rw [e]
      omega
  · rw [if_neg ok]
    exact hi
theorem p_inv_brds {r : Rw} {n pl : Nat} {bt : Int32} (h9 : n ≤ 9) (hi : p_inv r n pl) : ∀ k, k ≤ n → p_inv (p_brds n pl r bt k).1 n pl
  | 0, _ => hi
  | k + 1, h => p_inv_brd h9 (by omega) (p_inv_brds h9 hi k (by omega))
theorem p_inv_come {r : Rw} {n pl : Nat} {hr : Int32} (hi : p_inv r n pl) : p_inv (p_come r hr) n pl := p_inv_cg (fun p _ => by
  unfold p_come
  by_cases c : r p 6 = 0 ∧ r p 5 = hr
  · rw [if_pos ⟨rfl, c⟩, c.1]
    decide
  · rw [if_neg (fun q => c q.2)]) hi
theorem p_inv_pat {r : Rw} {n pl : Nat} (hi : p_inv r n pl) : p_inv (p_pat r) n pl := p_inv_cg (fun p _ => by
  unfold p_pat
  by_cases c : r p 6 = 1
  · rw [if_pos c]
    by_cases d : r p 4 ≤ 0
    · rw [if_pos d, if_pos rfl, c]
      decide
    · rw [if_neg d, if_neg (by decide)]
  · rw [if_neg c]) hi
theorem p_inv_hr {r : Rw} {n pl : Nat} {hr bt : Int32} (h9 : n ≤ 9) (hi : p_inv r n pl) : p_inv (p_hr n pl r hr bt).1 n pl := p_inv_pat (p_inv_brds h9 (p_inv_come hi) n (Nat.le_refl _))
theorem p_inv_hrs {r : Rw} {n pl : Nat} {hr bt : Int32} (h9 : n ≤ 9) (hi : p_inv r n pl) : ∀ k, p_inv (p_hrs n pl r hr bt k).1 n pl
  | 0 => hi
  | k + 1 => p_inv_hr h9 (p_inv_hrs h9 hi k)
/-- what a boarding answers -/
def t_res (r : Rw) (n pl p : Nat) : Int32 := if r p 6 = 1 then (if p_ok r n p = true then (if p_full r n pl = true then 0 else nI (q_pop (p_who r n 2) 9 + 1)) else -4) else -2
theorem c_mv_eq {σ : am_M} {c : Nat} {r : Rw} {hr bt f t : Int32} : c_set (c_set σ c (c_n σ c) r hr bt) c (c_n (c_set σ c (c_n σ c) r hr bt) c) (p_mv (c_r (c_set σ c (c_n σ c) r hr bt) c) f t) (c_set σ c (c_n σ c) r hr bt 3 c 5) (c_set σ c (c_n σ c) r hr bt 3 c 6) = c_set σ c (c_n σ c) (p_mv r f t) hr bt := by
  rw [c_n_set, c_set_h, c_set_b, c_set_2]
  exact c_set_cg fun p hp => by
    funext j
    unfold p_mv c_r
    rw [c_set_r hp]
set_option maxRecDepth 100000 in
set_option maxHeartbeats 400000 in
theorem b_take {K : Option am_V → am_M → Prop} {X : Nat → am_L → List am_V → am_M → Prop} (hX : am_cl eX0_takeAboard lX0_takeAboard (some .int) K X) {σ : am_M} (c : Nat) (p : Int32) (h : ((p < (0 : Int32)) → K (some (.inl (-1 : Int32))) σ) ∧ (¬ (p < (0 : Int32)) → (((σ 3 c 1) ≤ p) → K (some (.inl (-1 : Int32))) σ) ∧ (¬ ((σ 3 c 1) ≤ p) → (vp_in p 9) ∧ ((((σ 5 (9 * c + p.toNatClampNeg) 6) = (1 : Int32)) → (c_ok σ c) ∧ ((vp_in p 9) ∧ ((c_ok σ c) ∧ (((((nI (c_riv σ c (σ 5 (9 * c + p.toNatClampNeg)) p)) &&& (nI (c_who σ c (2 : Int32)))) = (0 : Int32)) → (vp_in p 9) ∧ ((q_lim (nI (c_who σ c (2 : Int32))) 511) ∧ ((((σ 3 c 2) ≤ ((nI (q_pop (nI (c_who σ c (2 : Int32))).toNatClampNeg 9)) + (1 : Int32))) → (c_ok (am_u σ 5 (9 * c + p.toNatClampNeg) 6 (2 : Int32)) c) ∧ (K (some (.inl (0 : Int32))) (am_u (c_set (am_u σ 5 (9 * c + p.toNatClampNeg) 6 (2 : Int32)) c (c_n (am_u σ 5 (9 * c + p.toNatClampNeg) 6 (2 : Int32)) c) (p_mv (c_r (am_u σ 5 (9 * c + p.toNatClampNeg) 6 (2 : Int32)) c) (2 : Int32) (3 : Int32)) ((am_u σ 5 (9 * c + p.toNatClampNeg) 6 (2 : Int32)) 3 c 5) ((am_u σ 5 (9 * c + p.toNatClampNeg) 6 (2 : Int32)) 3 c 6)) 3 c 6 (((c_set (am_u σ 5 (9 * c + p.toNatClampNeg) 6 (2 : Int32)) c (c_n (am_u σ 5 (9 * c + p.toNatClampNeg) 6 (2 : Int32)) c) (p_mv (c_r (am_u σ 5 (9 * c + p.toNatClampNeg) 6 (2 : Int32)) c) (2 : Int32) (3 : Int32)) ((am_u σ 5 (9 * c + p.toNatClampNeg) 6 (2 : Int32)) 3 c 5) ((am_u σ 5 (9 * c + p.toNatClampNeg) 6 (2 : Int32)) 3 c 6)) 3 c 6) + (1 : Int32))))) ∧ (¬ ((σ 3 c 2) ≤ ((nI (q_pop (nI (c_who σ c (2 : Int32))).toNatClampNeg 9)) + (1 : Int32))) → K (some (.inl ((nI (q_pop (nI (c_who σ c (2 : Int32))).toNatClampNeg 9)) + (1 : Int32)))) (am_u σ 5 (9 * c + p.toNatClampNeg) 6 (2 : Int32)))))) ∧ (¬ (((nI (c_riv σ c (σ 5 (9 * c + p.toNatClampNeg)) p)) &&& (nI (c_who σ c (2 : Int32)))) = (0 : Int32)) → K (some (.inl (-4 : Int32))) σ))))) ∧ (¬ ((σ 5 (9 * c + p.toNatClampNeg) 6) = (1 : Int32)) → K (some (.inl (-2 : Int32))) σ))))) : X 0 [some (.inr (.inr (3, c))), some (.inl p), none, none] [] σ := am_run_ok emX0_takeAboard hX [] 400 (show 2 ≤ 2 ∧ 0 ≤ 8 ∧ True ∧ sX0_has [.inr (.inr (3, c)), .inl p] σ (fun vv tt => am_run eX0_takeAboard lX0_takeAboard (some .int) K X [] 397 5 [some (.inr (.inr (3, c))), some (.inl p), none, none] (vv.toList ++ []) tt) from ⟨am_le rfl, am_le rfl, trivial, tX0_has (⟨fun q0 => (show (((0 : Int32) = (0 : Int32)) → K (some (.inl (-1 : Int32))) σ) ∧ (¬ ((0 : Int32) = (0 : Int32)) → _) from ⟨fun _ => (h.1 q0), fun q => absurd (by decide) q⟩), fun q0 => ⟨fun q1 => (show (((0 : Int32) = (0 : Int32)) → K (some (.inl (-1 : Int32))) σ) ∧ (¬ ((0 : Int32) = (0 : Int32)) → _) from ⟨fun _ => ((h.2 q0).1 q1), fun q => absurd (by decide) q⟩), fun q1 => (show (((1 : Int32) = (0 : Int32)) → _) ∧ (¬ ((1 : Int32) = (0 : Int32)) → (vp_in p 9) ∧ ((vp_in (6 : Int32) 7) ∧ ((((σ 5 (9 * c + p.toNatClampNeg) 6) = (1 : Int32)) → 2 ≤ 2 ∧ 0 ≤ 8 ∧ True ∧ sX0_those [.inr (.inr (3, c)), .inl (2 : Int32)] σ (fun vv tt => am_run eX0_takeAboard lX0_takeAboard (some .int) K X [] 385 31 [some (.inr (.inr (3, c))), some (.inl p), none, none] (vv.toList ++ []) tt)) ∧ (¬ ((σ 5 (9 * c + p.toNatClampNeg) 6) = (1 : Int32)) → K (some (.inl (-2 : Int32))) σ)))) from ⟨fun q => absurd q (by decide), fun _ => ⟨((h.2 q0).2 q1).1, ⟨am_ci (by decide), ⟨fun q2 => ⟨am_le rfl, am_le rfl, trivial, tX0_those (⟨(((h.2 q0).2 q1).2.1 q2).1, (show (vp_in p 9) ∧ (3 ≤ 3 ∧ 0 ≤ 8 ∧ True ∧ sX0_rivalsOf [.inr (.inr (3, c)), .inr (.inr (5, (9 * c + p.toNatClampNeg))), .inl p] σ (fun vv tt => am_run eX0_takeAboard lX0_takeAboard (some .int) K X [] 377 43 [some (.inr (.inr (3, c))), some (.inl p), some (.inl (nI (c_who σ c (2 : Int32)))), none] (vv.toList ++ []) tt)) from ⟨(((h.2 q0).2 q1).2.1 q2).2.1, ⟨am_le rfl, am_le rfl, trivial, tX0_rivalsOf (⟨(((h.2 q0).2 q1).2.1 q2).2.2.1, (show ((((nI (c_riv σ c (σ 5 (9 * c + p.toNatClampNeg)) p)) &&& (nI (c_who σ c (2 : Int32)))) = (0 : Int32)) → (vp_in p 9) ∧ ((vp_in (6 : Int32) 7) ∧ (1 ≤ 1 ∧ 0 ≤ 8 ∧ sJ6_bitCount [.inl (nI (c_who σ c (2 : Int32)))] (am_u σ 5 (9 * c + p.toNatClampNeg) 6 (2 : Int32)) (fun vv tt => am_run eX0_takeAboard lX0_takeAboard (some .int) K X [] 365 65 [some (.inr (.inr (3, c))), some (.inl p), some (.inl (nI (c_who σ c (2 : Int32)))), none] (vv.toList ++ []) tt)))) ∧ (¬ (((nI (c_riv σ c (σ 5 (9 * c + p.toNatClampNeg)) p)) &&& (nI (c_who σ c (2 : Int32)))) = (0 : Int32)) → K (some (.inl (-4 : Int32))) σ) from ⟨fun q3 => ⟨((((h.2 q0).2 q1).2.1 q2).2.2.2.1 q3).1, ⟨am_ci (by decide), ⟨am_le rfl, am_le rfl, vJ6_bitCount (⟨((((h.2 q0).2 q1).2.1 q2).2.2.2.1 q3).2.1, (show (((σ 3 c 2) ≤ ((nI (q_pop (nI (c_who σ c (2 : Int32))).toNatClampNeg 9)) + (1 : Int32))) → 3 ≤ 3 ∧ 0 ≤ 8 ∧ True ∧ sX0_moveAll [.inr (.inr (3, c)), .inl (2 : Int32), .inl (3 : Int32)] (am_u σ 5 (9 * c + p.toNatClampNeg) 6 (2 : Int32)) (fun vv tt => am_run eX0_takeAboard lX0_takeAboard (some .int) K X [] 354 84 [some (.inr (.inr (3, c))), some (.inl p), some (.inl (nI (c_who σ c (2 : Int32)))), some (.inl ((nI (q_pop (nI (c_who σ c (2 : Int32))).toNatClampNeg 9)) + (1 : Int32)))] (vv.toList ++ []) tt)) ∧ (¬ ((σ 3 c 2) ≤ ((nI (q_pop (nI (c_who σ c (2 : Int32))).toNatClampNeg 9)) + (1 : Int32))) → K (some (.inl ((nI (q_pop (nI (c_who σ c (2 : Int32))).toNatClampNeg 9)) + (1 : Int32)))) (am_u σ 5 (9 * c + p.toNatClampNeg) 6 (2 : Int32))) from ⟨fun q4 => ⟨am_le rfl, am_le rfl, trivial, uX0_moveAll (⟨(((((h.2 q0).2 q1).2.1 q2).2.2.2.1 q3).2.2.1 q4).1, (show K (some (.inl (0 : Int32))) (am_u (c_set (am_u σ 5 (9 * c + p.toNatClampNeg) 6 (2 : Int32)) c (c_n (am_u σ 5 (9 * c + p.toNatClampNeg) 6 (2 : Int32)) c) (p_mv (c_r (am_u σ 5 (9 * c + p.toNatClampNeg) 6 (2 : Int32)) c) (2 : Int32) (3 : Int32)) ((am_u σ 5 (9 * c + p.toNatClampNeg) 6 (2 : Int32)) 3 c 5) ((am_u σ 5 (9 * c + p.toNatClampNeg) 6 (2 : Int32)) 3 c 6)) 3 c 6 (((c_set (am_u σ 5 (9 * c + p.toNatClampNeg) 6 (2 : Int32)) c (c_n (am_u σ 5 (9 * c + p.toNatClampNeg) 6 (2 : Int32)) c) (p_mv (c_r (am_u σ 5 (9 * c + p.toNatClampNeg) 6 (2 : Int32)) c) (2 : Int32) (3 : Int32)) ((am_u σ 5 (9 * c + p.toNatClampNeg) 6 (2 : Int32)) 3 c 5) ((am_u σ 5 (9 * c + p.toNatClampNeg) 6 (2 : Int32)) 3 c 6)) 3 c 6) + (1 : Int32))) from (((((h.2 q0).2 q1).2.1 q2).2.2.2.1 q3).2.2.1 q4).2)⟩)⟩, fun q4 => (((((h.2 q0).2 q1).2.1 q2).2.2.2.1 q3).2.2.2 q4)⟩)⟩)⟩⟩⟩, fun q3 => ((((h.2 q0).2 q1).2.1 q2).2.2.2.2 q3)⟩)⟩)⟩⟩)⟩)⟩, fun q2 => (((h.2 q0).2 q1).2.2 q2)⟩⟩⟩⟩)⟩⟩)⟩)
set_option maxHeartbeats 1000000 in
theorem tX0_takeAboard {σ : am_M} {c pl i : Nat} {r : Rw} {hr bt : Int32} {K : am_K} (ho : c_ok σ c) (hp : σ 3 c 2 = nI pl) (hpl : pl ≤ 5) (hi : i < c_n σ c) (hv : p_inv r (c_n σ c) pl) (h : K (some (.inl (t_res r (c_n σ c) pl i))) (c_set σ c (c_n σ c) (p_brd (c_n σ c) pl r bt i).1 hr (p_brd (c_n σ c) pl r bt i).2)) : sX0_takeAboard [.inr (.inr (3, c)), .inl (nI i)] (c_set σ c (c_n σ c) r hr bt) K := by
  obtain ⟨hn, h9⟩ := c_ok_e ho
  have hw := p_who_lt (r := r) (s := 2) h9
  have hrv := p_riv_lt (r := r) (a := r i) (s := nI i) h9
  have e1 : c_set σ c (c_n σ c) r hr bt 3 c 1 = nI (c_n σ c) := by rw [c_set_j (by decide) (by decide), ← hn]
  have e2 : c_set σ c (c_n σ c) r hr bt 3 c 2 = nI pl := by rw [c_set_j (by decide) (by decide), hp]
  have ok1 := c_ok_set (n := c_n σ c) (r := r) (hr := hr) (bt := bt) ho
  have ok2 := c_ok_set (n := c_n σ c) (r := r_set r i 6 2) (hr := hr) (bt := bt) ho
  refine ⟨am_le rfl, fun X hX => b_take hX c (nI i) ?_⟩
  rw [nI_clamp (by omega), c_set_r hi, c_set_u hi, e1, e2, c_who_set, c_riv_set, c_mv_eq, c_set_b, c_set_ub, nI_clamp (by omega), q_and, show nI (q_pop (p_who r (c_n σ c) 2) 9) + (1 : Int32) = nI (q_pop (p_who r (c_n σ c) 2) 9 + 1) from nI_1 _]
  have vi : vp_in (nI i) 9 := q_in (by omega) (by decide)
  have hq := q_pop_le (p_who r (c_n σ c) 2) 9
  refine ⟨fun q => absurd q (nI_pos (by omega)), fun _ => ⟨fun q => absurd q (nI_ge hi (by omega)), fun _ => ⟨vi, fun a => ⟨ok1, vi, ok1, fun b => ⟨vi, tX0_howMany_ hw, fun d => ⟨ok2, ?_⟩, fun d => ?_⟩, fun b => ?_⟩, fun a => ?_⟩⟩⟩
  · have hk : p_ok r (c_n σ c) i = true := by
      unfold p_ok
      rw [← nI_0, nI_eq (by have := Nat.and_le_left (n := p_riv r (c_n σ c) (r i) (nI i)) (m := p_who r (c_n σ c) 2); omega) (by decide)] at b
      simp [a, b]
    have hf : p_full r (c_n σ c) pl = true := by
      unfold p_full p_inv at *
      rw [nI_leI (by omega) (by omega)] at d
      simp
      omega
    unfold t_res p_brd at h
    rw [if_pos a, if_pos hk, if_pos hf, if_pos hk, if_pos hf] at h
    exact h
  · have hk : p_ok r (c_n σ c) i = true := by
      unfold p_ok
      rw [← nI_0, nI_eq (by have := Nat.and_le_left (n := p_riv r (c_n σ c) (r i) (nI i)) (m := p_who r (c_n σ c) 2); omega) (by decide)] at b
      simp [a, b]
    have hf : ¬ p_full r (c_n σ c) pl = true := by
      unfold p_full p_inv at *
      rw [nI_leI (by omega) (by omega)] at d
      simp
      omega
    unfold t_res p_brd at h
    rw [if_pos a, if_pos hk, if_neg hf, if_pos hk, if_neg hf] at h
    exact h
  · have hk : ¬ p_ok r (c_n σ c) i = true := by
      unfold p_ok
      rw [← nI_0, nI_eq (by have := Nat.and_le_left (n := p_riv r (c_n σ c) (r i) (nI i)) (m := p_who r (c_n σ c) 2); omega) (by decide)] at b
      simp [b]
    unfold t_res p_brd at h
    rw [if_pos a, if_neg hk, if_neg hk] at h
    exact h
  · have hk : ¬ p_ok r (c_n σ c) i = true := by
      unfold p_ok
      simp [a]
    unfold t_res p_brd at h
    rw [if_neg a, if_neg hk] at h
    exact h
/-- one whom there is not -/
theorem tX0_takeNone {σ : am_M} {c : Nat} {p : Int32} {K : am_K} (hp : p < 0 ∨ σ 3 c 1 ≤ p) (h : K (some (.inl (-1 : Int32))) σ) : sX0_takeAboard [.inr (.inr (3, c)), .inl p] σ K := by
  refine ⟨am_le rfl, fun X hX => b_take hX c p ⟨fun _ => h, fun a => ⟨fun _ => h, fun b => ?_⟩⟩⟩
  rcases hp with q | q
  · exact absurd q a
  · exact absurd q b
