/-! the crew on its way: boarding, hours -/
abbrev Rw : Type := Nat → Nat → Int32
def r_set (r : Rw) (p j : Nat) (v : Int32) : Rw := fun q k => if q = p ∧ k = j then v else r q k
def p_who (r : Rw) (n : Nat) (s : Int32) : Nat := q_set (fun p => decide (r p 6 = s)) n
def p_riv (r : Rw) (n : Nat) (a : Nat → Int32) (self : Int32) : Nat := q_set (fun q => !(decide (nI q = self)) && al a (r q)) n
/-- can he board -/
def p_ok (r : Rw) (n p : Nat) : Bool := decide (r p 6 = 1) && decide (p_riv r n (r p) (nI p) &&& p_who r n 2 = 0)
def p_full (r : Rw) (n pl : Nat) : Bool := decide (q_pop (p_who r n 2) 9 + 1 = pl)
def p_mv (r : Rw) (f t : Int32) : Rw := fun q j => if j = 6 ∧ r q 6 = f then t else r q j
/-- one tries to board -/
def p_brd (n pl : Nat) (r : Rw) (bt : Int32) (p : Nat) : Rw × Int32 := if p_ok r n p = true then (if p_full r n pl = true then (p_mv (r_set r p 6 2) 2 3, bt + 1) else (r_set r p 6 2, bt)) else (r, bt)
def p_brds (n pl : Nat) (r : Rw) (bt : Int32) : Nat → Rw × Int32
  | 0 => (r, bt)
  | k + 1 => p_brd n pl (p_brds n pl r bt k).1 (p_brds n pl r bt k).2 k
def p_come (r : Rw) (hr : Int32) : Rw := fun q j => if j = 6 ∧ (r q 6 = 0 ∧ r q 5 = hr) then 1 else r q j
def p_pat (r : Rw) : Rw := fun q j => if r q 6 = 1 then (if r q 4 ≤ 0 then (if j = 6 then 4 else r q j) else (if j = 4 then r q 4 - 1 else r q j)) else r q j
/-- an hour -/
def p_hr (n pl : Nat) (r : Rw) (hr bt : Int32) : Rw × Int32 := (p_pat (p_brds n pl (p_come r hr) bt n).1, (p_brds n pl (p_come r hr) bt n).2)
def p_hrs (n pl : Nat) (r : Rw) (hr bt : Int32) : Nat → Rw × Int32
  | 0 => (r, bt)
  | k + 1 => p_hr n pl (p_hrs n pl r hr bt k).1 (hr + nI k) (p_hrs n pl r hr bt k).2
/-- the rows, the hour and the boats of a crew, laid into the memory -/
def c_set (σ : am_M) (c n : Nat) (r : Rw) (hr bt : Int32) : am_M := fun k i j => if k = 5 then (if 9 * c ≤ i ∧ i < 9 * c + n then r (i - 9 * c) j else σ k i j) else if k = 3 then (if i = c then (if j = 5 then hr else if j = 6 then bt else σ k i j) else σ k i j) else σ k i j
def c_r (σ : am_M) (c : Nat) : Rw := fun p j => σ 5 (9 * c + p) j
theorem c_set_k {σ : am_M} {c n : Nat} {r : Rw} {hr bt : Int32} {k : Nat} (h5 : k ≠ 5) (h3 : k ≠ 3) : c_set σ c n r hr bt k = σ k := by
  funext i j
  unfold c_set
  rw [if_neg h5, if_neg h3]
theorem c_set_o {σ : am_M} {c n : Nat} {r : Rw} {hr bt : Int32} {i : Nat} (h : i ≠ c) : c_set σ c n r hr bt 3 i = σ 3 i := by
  funext j
  unfold c_set
  rw [if_neg (by decide), if_pos rfl, if_neg h]
theorem c_set_j {σ : am_M} {c n : Nat} {r : Rw} {hr bt : Int32} {j : Nat} (h5 : j ≠ 5) (h6 : j ≠ 6) : c_set σ c n r hr bt 3 c j = σ 3 c j := by
  unfold c_set
  rw [if_neg (by decide), if_pos rfl, if_pos rfl, if_neg h5, if_neg h6]
theorem c_set_h {σ : am_M} {c n : Nat} {r : Rw} {hr bt : Int32} : c_set σ c n r hr bt 3 c 5 = hr := by
  unfold c_set
  rw [if_neg (by decide), if_pos rfl, if_pos rfl, if_pos rfl]
theorem c_set_b {σ : am_M} {c n : Nat} {r : Rw} {hr bt : Int32} : c_set σ c n r hr bt 3 c 6 = bt := by
  unfold c_set
  rw [if_neg (by decide), if_pos rfl, if_pos rfl, if_neg (by decide), if_pos rfl]
theorem c_set_r {σ : am_M} {c n : Nat} {r : Rw} {hr bt : Int32} {p : Nat} (h : p < n) : c_set σ c n r hr bt 5 (9 * c + p) = r p := by
  funext j
  unfold c_set
  rw [if_pos rfl, if_pos ⟨by omega, by omega⟩, show 9 * c + p - 9 * c = p by omega]
theorem c_set_q {σ : am_M} {c n : Nat} {r : Rw} {hr bt : Int32} {i : Nat} (h : i < 9 * c ∨ 9 * c + n ≤ i) : c_set σ c n r hr bt 5 i = σ 5 i := by
  funext j
  unfold c_set
  rw [if_pos rfl, if_neg (by omega)]
theorem c_set_id {σ : am_M} {c n : Nat} : c_set σ c n (c_r σ c) (σ 3 c 5) (σ 3 c 6) = σ := by
  funext k i j
  unfold c_set c_r
  by_cases h5 : k = 5
  · subst h5
    rw [if_pos rfl]
    by_cases h : 9 * c ≤ i ∧ i < 9 * c + n
    · rw [if_pos h, show 9 * c + (i - 9 * c) = i by omega]
    · rw [if_neg h]
  · rw [if_neg h5]
    by_cases h3 : k = 3
    · subst h3
      rw [if_pos rfl]
      by_cases hi : i = c
      · subst hi
        rw [if_pos rfl]
        by_cases h : j = 5
        · subst h
          rw [if_pos rfl]
        · rw [if_neg h]
          by_cases h' : j = 6
          · subst h'
            rw [if_pos rfl]
          · rw [if_neg h']
      · rw [if_neg hi]
    · rw [if_neg h3]
theorem c_set_cg {σ : am_M} {c n : Nat} {r r' : Rw} {hr bt : Int32} (h : ∀ p, p < n → r p = r' p) : c_set σ c n r hr bt = c_set σ c n r' hr bt := by
  funext k i j
  unfold c_set
  by_cases h5 : k = 5
  · rw [if_pos h5, if_pos h5]
    by_cases hi : 9 * c ≤ i ∧ i < 9 * c + n
    · rw [if_pos hi, if_pos hi, h _ (by omega)]
    · rw [if_neg hi, if_neg hi]
  · rw [if_neg h5, if_neg h5]
theorem c_set_u {σ : am_M} {c n : Nat} {r : Rw} {hr bt : Int32} {p j : Nat} {v : Int32} (h : p < n) : am_u (c_set σ c n r hr bt) 5 (9 * c + p) j v = c_set σ c n (r_set r p j v) hr bt := by
  funext k i j'
  by_cases h5 : k = 5
  · subst h5
    unfold am_u
    rw [if_pos rfl]
    by_cases hi : i = 9 * c + p
    · subst hi
      rw [c_set_r h, c_set_r h]
      unfold r_set
      by_cases hj : j' = j
      · rw [if_pos hj, if_pos rfl, if_pos ⟨rfl, hj⟩]
      · rw [if_neg hj, if_neg (fun q => hj q.2)]
    · rw [if_neg hi, ite_self]
      unfold c_set r_set
      rw [if_pos rfl, if_pos rfl]
      by_cases hh : 9 * c ≤ i ∧ i < 9 * c + n
      · rw [if_pos hh, if_pos hh, if_neg (fun q => hi (by omega))]
      · rw [if_neg hh, if_neg hh]
  · unfold am_u c_set
    rw [if_neg h5, if_neg h5, if_neg h5]
theorem c_set_ub {σ : am_M} {c n : Nat} {r : Rw} {hr bt v : Int32} : am_u (c_set σ c n r hr bt) 3 c 6 v = c_set σ c n r hr v := by
  funext k i j
  by_cases h3 : k = 3 <;> by_cases hi : i = c <;> by_cases h6 : j = 6 <;> simp [am_u, c_set, h3, hi, h6]
theorem c_set_uh {σ : am_M} {c n : Nat} {r : Rw} {hr bt v : Int32} : am_u (c_set σ c n r hr bt) 3 c 5 v = c_set σ c n r v bt := by
  funext k i j
  by_cases h3 : k = 3 <;> by_cases hi : i = c <;> by_cases h5 : j = 5 <;> simp [am_u, c_set, h3, hi, h5]
theorem c_set_2 {σ : am_M} {c n : Nat} {r r' : Rw} {hr bt hr' bt' : Int32} : c_set (c_set σ c n r hr bt) c n r' hr' bt' = c_set σ c n r' hr' bt' := by
  funext k i j
  by_cases h5 : k = 5
  · subst h5
    by_cases hh : 9 * c ≤ i ∧ i < 9 * c + n
    · rw [show i = 9 * c + (i - 9 * c) by omega, c_set_r (by omega), c_set_r (by omega)]
    · rw [c_set_q (by omega), c_set_q (by omega), c_set_q (by omega)]
  · by_cases h3 : k = 3
    · subst h3
      by_cases hi : i = c
      · subst hi
        by_cases a : j = 5
        · subst a
          rw [c_set_h, c_set_h]
        · by_cases b : j = 6
          · subst b
            rw [c_set_b, c_set_b]
          · rw [c_set_j a b, c_set_j a b, c_set_j a b]
      · rw [c_set_o hi, c_set_o hi, c_set_o hi]
    · rw [c_set_k h5 h3, c_set_k h5 h3, c_set_k h5 h3]
theorem c_n_set {σ : am_M} {c n : Nat} {r : Rw} {hr bt : Int32} : c_n (c_set σ c n r hr bt) c = c_n σ c := by
  unfold c_n
  rw [c_set_j (by decide) (by decide)]
theorem c_ok_set {σ : am_M} {c n : Nat} {r : Rw} {hr bt : Int32} (h : c_ok σ c) : c_ok (c_set σ c n r hr bt) c := by
  unfold c_ok
  rw [c_set_j (by decide) (by decide)]
  exact h
theorem c_who_set {σ : am_M} {c : Nat} {r : Rw} {hr bt s : Int32} : c_who (c_set σ c (c_n σ c) r hr bt) c s = p_who r (c_n σ c) s := by
  unfold c_who p_who
  rw [c_n_set]
  exact q_set_cg fun i hi => by rw [c_set_r hi]
theorem c_riv_set {σ : am_M} {c : Nat} {r : Rw} {hr bt s : Int32} {a : Nat → Int32} : c_riv (c_set σ c (c_n σ c) r hr bt) c a s = p_riv r (c_n σ c) a s := by
  unfold c_riv p_riv
  rw [c_n_set]
  exact q_set_cg fun i hi => by rw [c_set_r hi]
set_option maxRecDepth 100000 in
set_option maxHeartbeats 400000 in
theorem b_mv0 {K : Option am_V → am_M → Prop} {X : Nat → am_L → List am_V → am_M → Prop} (hX : am_cl eX0_moveAll lX0_moveAll none K X) {σ : am_M} (c : Nat) (f t : Int32) (h : X 2 [some (.inr (.inr (3, c))), some (.inl f), some (.inl t), some (.inl (0 : Int32))] [] σ) : X 0 [some (.inr (.inr (3, c))), some (.inl f), some (.inl t), none] [] σ := am_run_ok emX0_moveAll hX [2] 400 (show X 2 [some (.inr (.inr (3, c))), some (.inl f), some (.inl t), some (.inl (0 : Int32))] [] σ from h)
set_option maxRecDepth 100000 in
set_option maxHeartbeats 400000 in
theorem b_mv2 {K : Option am_V → am_M → Prop} {X : Nat → am_L → List am_V → am_M → Prop} (hX : am_cl eX0_moveAll lX0_moveAll none K X) {σ : am_M} (c : Nat) (f t p : Int32) (h : (((σ 3 c 1) ≤ p) → K none σ) ∧ (¬ ((σ 3 c 1) ≤ p) → (vp_in p 9) ∧ ((((σ 5 (9 * c + p.toNatClampNeg) 6) = f) → (vp_in p 9) ∧ (X 2 [some (.inr (.inr (3, c))), some (.inl f), some (.inl t), some (.inl (p + (1 : Int32)))] [] (am_u σ 5 (9 * c + p.toNatClampNeg) 6 t))) ∧ (¬ ((σ 5 (9 * c + p.toNatClampNeg) 6) = f) → X 2 [some (.inr (.inr (3, c))), some (.inl f), some (.inl t), some (.inl (p + (1 : Int32)))] [] σ)))) : X 2 [some (.inr (.inr (3, c))), some (.inl f), some (.inl t), some (.inl p)] [] σ := am_run_ok emX0_moveAll hX [2] 400 (show (((σ 3 c 1) ≤ p) → K none σ) ∧ (¬ ((σ 3 c 1) ≤ p) → (vp_in p 9) ∧ ((vp_in (6 : Int32) 7) ∧ ((((σ 5 (9 * c + p.toNatClampNeg) 6) = f) → (vp_in p 9) ∧ ((vp_in (6 : Int32) 7) ∧ (X 2 [some (.inr (.inr (3, c))), some (.inl f), some (.inl t), some (.inl (p + (1 : Int32)))] [] (am_u σ 5 (9 * c + p.toNatClampNeg) 6 t)))) ∧ (¬ ((σ 5 (9 * c + p.toNatClampNeg) 6) = f) → X 2 [some (.inr (.inr (3, c))), some (.inl f), some (.inl t), some (.inl (p + (1 : Int32)))] [] σ)))) from ⟨fun q0 => (h.1 q0), fun q0 => ⟨(h.2 q0).1, ⟨am_ci (by decide), ⟨fun q1 => ⟨((h.2 q0).2.1 q1).1, ⟨am_ci (by decide), ((h.2 q0).2.1 q1).2⟩⟩, fun q1 => ((h.2 q0).2.2 q1)⟩⟩⟩⟩)
/-- the first k moved -/
def p_mvk (r : Rw) (f t : Int32) (k : Nat) : Rw := fun q => if q < k then p_mv r f t q else r q
theorem tX0_moveAll {σ : am_M} {c : Nat} {r : Rw} {hr bt f t : Int32} {K : am_K} (h : (c_ok σ c) ∧ (K none (c_set σ c (c_n σ c) (p_mv r f t) hr bt))) : sX0_moveAll [.inr (.inr (3, c)), .inl f, .inl t] (c_set σ c (c_n σ c) r hr bt) K := by
  obtain ⟨ho, h⟩ := h
  obtain ⟨hn, h9⟩ := c_ok_e ho
  generalize hN : c_n σ c = n at hn h9 h
  have e1 : ∀ r', c_set σ c n r' hr bt 3 c 1 = nI n := fun r' => by rw [c_set_j (by decide) (by decide), hn]
  refine ⟨am_le rfl, fun X hX => b_mv0 hX c f t ?_⟩
  rw [show c_set σ c n r hr bt = c_set σ c n (p_mvk r f t 0) hr bt from c_set_cg fun p _ => (if_neg (Nat.not_lt_zero p)).symm]
  refine q_dn (W := fun i => X 2 [some (.inr (.inr (3, c))), some (.inl f), some (.inl t), some (.inl (nI i))] [] (c_set σ c n (p_mvk r f t i) hr bt)) (n := n) (fun i hi ih => ?_) ?_ 0 (Nat.zero_le _)
  · refine b_mv2 hX c f t (nI i) ?_
    rw [e1, nI_clamp (by omega), c_set_r hi, c_set_u hi, show nI i + (1 : Int32) = nI (i + 1) from nI_1 i]
    have e2 : p_mvk r f t i i = r i := if_neg (Nat.lt_irrefl i)
    rw [e2]
    refine ⟨fun q => absurd q (nI_ge hi (by omega)), fun _ => ⟨q_in (by omega) (by decide), fun q => ⟨q_in (by omega) (by decide), ?_⟩, fun q => ?_⟩⟩
    · rw [show c_set σ c n (p_mvk r f t (i + 1)) hr bt = c_set σ c n (r_set (p_mvk r f t i) i 6 t) hr bt from c_set_cg fun p _ => ?_] at ih
      · exact ih
      · funext j
        unfold p_mvk p_mv r_set
        by_cases a : p = i
        · subst a
          by_cases b : j = 6
          · simp [b, q]
          · simp [b]
        · by_cases b : p < i
          · simp [a, b, show p < i + 1 by omega]
          · simp [a, b, show ¬ p < i + 1 by omega]
    · rw [show c_set σ c n (p_mvk r f t (i + 1)) hr bt = c_set σ c n (p_mvk r f t i) hr bt from c_set_cg fun p _ => ?_] at ih
      · exact ih
      · funext j
        unfold p_mvk p_mv
        by_cases a : p = i
        · subst a
          simp [q]
        · by_cases b : p < i
          · simp [b, show p < i + 1 by omega]
          · simp [b, show ¬ p < i + 1 by omega]
  · refine b_mv2 hX c f t (nI n) ⟨fun _ => ?_, fun q => absurd ?_ q⟩
    · rw [show c_set σ c n (p_mvk r f t n) hr bt = c_set σ c n (p_mv r f t) hr bt from c_set_cg fun p hp => if_pos hp]
      exact h
    · rw [e1]
      exact nI_le (Nat.le_refl _) (by omega)
theorem uX0_moveAll {σ : am_M} {c : Nat} {f t : Int32} {K : am_K} (h : (c_ok σ c) ∧ (K none (c_set σ c (c_n σ c) (p_mv (c_r σ c) f t) (σ 3 c 5) (σ 3 c 6)))) : sX0_moveAll [.inr (.inr (3, c)), .inl f, .inl t] σ K := by
  have := tX0_moveAll (σ := σ) (c := c) (r := c_r σ c) (hr := σ 3 c 5) (bt := σ 3 c 6) (f := f) (t := t) (K := K) h
  rw [c_set_id] at this
  exact this
