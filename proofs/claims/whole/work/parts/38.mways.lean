/-! the reference: boarding and hours -/
theorem wX7_alikeWith {σ : am_M} {p S : Nat} {K : am_K} (h : (m_ok σ) ∧ ((p < 9) ∧ ((S < 512) ∧ (K (some (.inl (nI (p_aw (m_r σ 0) (m_n σ) p S)))) σ)))) : sX7_alikeWith [.inr (.inr (20, 0)), .inl (nI p), .inl (nI S)] σ K := tX7_alikeWith h.1 h.2.1 h.2.2.1 h.2.2.2
theorem wX7_isUnlike {σ : am_M} {S : Nat} {K : am_K} (h : (m_ok σ) ∧ ((S < 512) ∧ (((p_un (m_r σ 0) (m_n σ) S = true) → K (some (.inl (1 : Int32))) σ) ∧ (¬ (p_un (m_r σ 0) (m_n σ) S = true) → K (some (.inl (0 : Int32))) σ)))) : sX7_isUnlike [.inr (.inr (20, 0)), .inl (nI S)] σ K := tX7_isUnlike h.1 h.2.1 h.2.2
/-- the rows, the hour and the boats of a page, laid into the memory -/
def m_set (σ : am_M) (g n : Nat) (r : Rw) (hr bt : Int32) : am_M := fun k i j => if k = 21 then (if i = 0 then (if g ≤ j ∧ j < g + 7 * n then r ((j - g) / 7) ((j - g) % 7) else if j = g + 66 then hr else if j = g + 67 then bt else σ k i j) else σ k i j) else σ k i j
theorem m_set_k {σ : am_M} {g n : Nat} {r : Rw} {hr bt : Int32} {k : Nat} (h : k ≠ 21) : m_set σ g n r hr bt k = σ k := by
  funext i j
  exact if_neg h
theorem m_set_i {σ : am_M} {g n : Nat} {r : Rw} {hr bt : Int32} {j : Nat} : m_set σ g n r hr bt 21 0 j = if g ≤ j ∧ j < g + 7 * n then r ((j - g) / 7) ((j - g) % 7) else if j = g + 66 then hr else if j = g + 67 then bt else σ 21 0 j := rfl
theorem m_set_r {σ : am_M} {g n : Nat} {r : Rw} {hr bt : Int32} {p j : Nat} (hp : p < n) (hj : j < 7) : m_set σ g n r hr bt 21 0 (g + 7 * p + j) = r p j := by
  rw [m_set_i, if_pos ⟨by omega, by omega⟩, show (g + 7 * p + j - g) / 7 = p by omega, show (g + 7 * p + j - g) % 7 = j by omega]
theorem m_set_h {σ : am_M} {g n : Nat} {r : Rw} {hr bt : Int32} (h9 : n ≤ 9) : m_set σ g n r hr bt 21 0 (g + 66) = hr := by
  rw [m_set_i, if_neg (by omega), if_pos rfl]
theorem m_set_b {σ : am_M} {g n : Nat} {r : Rw} {hr bt : Int32} (h9 : n ≤ 9) : m_set σ g n r hr bt 21 0 (g + 67) = bt := by
  rw [m_set_i, if_neg (by omega), if_neg (by omega), if_pos rfl]
theorem m_set_o {σ : am_M} {g n : Nat} {r : Rw} {hr bt : Int32} {j : Nat} (h : j < g ∨ g + 7 * n ≤ j) (h66 : j ≠ g + 66) (h67 : j ≠ g + 67) : m_set σ g n r hr bt 21 0 j = σ 21 0 j := by
  rw [m_set_i, if_neg (by omega), if_neg h66, if_neg h67]
theorem m_set_ext {τ : am_M} {σ : am_M} {g n : Nat} {r : Rw} {hr bt : Int32} (hk : ∀ k, k ≠ 21 → τ k = σ k) (hi : ∀ i j, i ≠ 0 → τ 21 i j = σ 21 i j) (hr' : ∀ p j, p < n → j < 7 → τ 21 0 (g + 7 * p + j) = r p j) (h6 : n ≤ 9) (ha : τ 21 0 (g + 66) = hr) (hb : τ 21 0 (g + 67) = bt) (ho : ∀ j, (j < g ∨ g + 7 * n ≤ j) → j ≠ g + 66 → j ≠ g + 67 → τ 21 0 j = σ 21 0 j) : τ = m_set σ g n r hr bt := by
  funext k i j
  by_cases h1 : k = 21
  · subst h1
    by_cases h2 : i = 0
    · subst h2
      by_cases h3 : g ≤ j ∧ j < g + 7 * n
      · have e : j = g + 7 * ((j - g) / 7) + (j - g) % 7 := by omega
        rw [e, hr' _ _ (by omega) (by omega), m_set_r (by omega) (by omega)]
      · by_cases h4 : j = g + 66
        · rw [h4, ha, m_set_h h6]
        · by_cases h5 : j = g + 67
          · rw [h5, hb, m_set_b h6]
          · rw [ho j (by omega) h4 h5, m_set_o (by omega) h4 h5]
    · rw [hi i j h2]
      unfold m_set
      rw [if_pos rfl, if_neg h2]
  · rw [hk k h1, m_set_k h1]
theorem m_set_id {σ : am_M} {g n : Nat} (h9 : n ≤ 9) : m_set σ g n (m_r σ g) (σ 21 0 (g + 66)) (σ 21 0 (g + 67)) = σ := (m_set_ext (fun _ _ => rfl) (fun _ _ _ => rfl) (fun _ _ _ _ => rfl) h9 rfl rfl (fun _ _ _ _ => rfl)).symm
theorem m_set_cg {σ : am_M} {g n : Nat} {r r' : Rw} {hr bt : Int32} (h9 : n ≤ 9) (h : ∀ p j, p < n → j < 7 → r p j = r' p j) : m_set σ g n r hr bt = m_set σ g n r' hr bt := m_set_ext (fun k hk => m_set_k hk) (fun i j hi => by unfold m_set; rw [if_pos rfl, if_neg hi]) (fun p j hp hj => by rw [m_set_r hp hj, h p j hp hj]) h9 (m_set_h h9) (m_set_b h9) (fun j a b d => m_set_o a b d)
theorem am_u_k {σ : am_M} {k i j k' : Nat} {v : Int32} (h : k' ≠ k) : am_u σ k i j v k' = σ k' := by
  funext i' j'
  exact if_neg h
theorem am_u_j {σ : am_M} {k i j j' : Nat} {v : Int32} (h : j' ≠ j) : am_u σ k i j v k i j' = σ k i j' := by
  unfold am_u
  rw [if_pos rfl, if_neg h]
theorem am_u_s {σ : am_M} {k i j : Nat} {v : Int32} : am_u σ k i j v k i j = v := by
  unfold am_u
  rw [if_pos rfl, if_pos rfl, if_pos rfl]
theorem am_u_i {σ : am_M} {k i j i' j' : Nat} {v : Int32} (h : i' ≠ i) : am_u σ k i j v k i' j' = σ k i' j' := by
  unfold am_u
  rw [if_pos rfl, if_neg h, ite_self]
theorem m_set_x {σ : am_M} {g n : Nat} {r : Rw} {hr bt : Int32} {i j : Nat} (h : i ≠ 0) : m_set σ g n r hr bt 21 i j = σ 21 i j := by
  unfold m_set
  rw [if_pos rfl, if_neg h]
theorem m_set_u {σ : am_M} {g n : Nat} {r : Rw} {hr bt : Int32} {p j : Nat} {v : Int32} (h9 : n ≤ 9) (hp : p < n) (hj : j < 7) : am_u (m_set σ g n r hr bt) 21 0 (g + 7 * p + j) v = m_set σ g n (r_set r p j v) hr bt := by
  refine m_set_ext (fun k hk => by rw [am_u_k hk, m_set_k hk]) (fun i j' hi => by rw [am_u_i hi, m_set_x hi]) (fun q j' hq hj' => ?_) h9 (by rw [am_u_j (by omega), m_set_h h9]) (by rw [am_u_j (by omega), m_set_b h9]) (fun j' a b d => by rw [am_u_j (by omega), m_set_o a b d])
  unfold r_set
  by_cases e : q = p ∧ j' = j
  · rw [e.1, e.2, am_u_s, if_pos ⟨rfl, rfl⟩]
  · rw [am_u_j (by omega), m_set_r hq hj', if_neg e]
theorem m_set_ub {σ : am_M} {g n : Nat} {r : Rw} {hr bt v : Int32} (h9 : n ≤ 9) : am_u (m_set σ g n r hr bt) 21 0 (g + 67) v = m_set σ g n r hr v := m_set_ext (fun k hk => by rw [am_u_k hk, m_set_k hk]) (fun i j' hi => by rw [am_u_i hi, m_set_x hi]) (fun q j' hq hj' => by rw [am_u_j (by omega), m_set_r hq hj']) h9 (by rw [am_u_j (by omega), m_set_h h9]) am_u_s (fun j' a b d => by rw [am_u_j d, m_set_o a b d])
theorem m_set_uh {σ : am_M} {g n : Nat} {r : Rw} {hr bt v : Int32} (h9 : n ≤ 9) : am_u (m_set σ g n r hr bt) 21 0 (g + 66) v = m_set σ g n r v bt := m_set_ext (fun k hk => by rw [am_u_k hk, m_set_k hk]) (fun i j' hi => by rw [am_u_i hi, m_set_x hi]) (fun q j' hq hj' => by rw [am_u_j (by omega), m_set_r hq hj']) h9 am_u_s (by rw [am_u_j (by omega), m_set_b h9]) (fun j' a b d => by rw [am_u_j b, m_set_o a b d])
theorem m_n_set {σ : am_M} {g n : Nat} {r : Rw} {hr bt : Int32} : m_n (m_set σ g n r hr bt) = m_n σ := rfl
theorem m_ok_set {σ : am_M} {g n : Nat} {r : Rw} {hr bt : Int32} (h : m_ok σ) : m_ok (m_set σ g n r hr bt) := h
theorem m_who_set {σ : am_M} {g n : Nat} {r : Rw} {hr bt s : Int32} : p_who (m_r (m_set σ g n r hr bt) g) n s = p_who r n s := q_set_cg fun i hi => by
  show decide (m_set σ g n r hr bt 21 0 (g + 7 * i + 6) = s) = _
  rw [m_set_r hi (by decide)]
/-- what is alike doesn't change on the way: the kinds, trades, towns and tales of a page are those of the first -/
def m_at (σ : am_M) (g n : Nat) (r : Rw) : Prop := g = 0 ∨ (68 ≤ g ∧ ∀ q j, q < n → j < 4 → m_r σ 0 q j = r q j)
theorem al_cg {a a' b b' : Nat → Int32} (h1 : ∀ j, j < 4 → a j = a' j) (h2 : ∀ j, j < 4 → b j = b' j) : al a b = al a' b' := by
  unfold al alw
  rw [h1 0 (by decide), h1 1 (by decide), h1 2 (by decide), h1 3 (by decide), h2 0 (by decide), h2 1 (by decide), h2 2 (by decide), h2 3 (by decide)]
theorem m_at_set {σ : am_M} {g n : Nat} {r : Rw} {hr bt : Int32} (h9 : n ≤ 9) (h : m_at σ g n r) : ∀ q j, q < n → j < 4 → m_r (m_set σ g n r hr bt) 0 q j = r q j := by
  intro q j hq hj
  rcases h with rfl | ⟨h1, h2⟩
  · show m_set σ 0 n r hr bt 21 0 (0 + 7 * q + j) = _
    exact m_set_r hq (by omega)
  · show m_set σ g n r hr bt 21 0 (0 + 7 * q + j) = _
    rw [m_set_o (by omega) (by omega) (by omega)]
    exact h2 q j hq hj
theorem m_at_cg {σ : am_M} {g n : Nat} {r r' : Rw} (h : m_at σ g n r) (e : ∀ q j, q < n → j < 4 → r' q j = r q j) : m_at σ g n r' := by
  rcases h with h | ⟨h1, h2⟩
  · exact Or.inl h
  · exact Or.inr ⟨h1, fun q j hq hj => by rw [h2 q j hq hj, e q j hq hj]⟩
theorem p_aw_riv {r0 r : Rw} {n p S : Nat} (h9 : n ≤ 9) (hp : p < n) (h : ∀ q j, q < n → j < 4 → r0 q j = r q j) : p_aw r0 n p S = p_riv r n (r p) (nI p) &&& S := by
  apply Nat.eq_of_testBit_eq
  intro i
  rw [p_aw_bit, Nat.testBit_and]
  show _ = ((q_set _ n).testBit i && _)
  rw [q_set_bit]
  by_cases hi : i < n
  · have e1 : al (r0 p) (r0 i) = al (r p) (r i) := al_cg (fun j hj => h p j hp hj) (fun j hj => h i j hi hj)
    have e2 : decide (nI i = nI p) = decide (i = p) := by
      by_cases e : i = p
      · simp [e]
      · have : ¬ nI i = nI p := fun q => e ((nI_eq (by omega) (by omega)).mp q)
        simp [e, this]
    rw [e1, e2]
    cases S.testBit i <;> cases al (r p) (r i) <;> cases decide (i = p) <;> simp [hi]
  · simp [hi]
/-- what no way changes -/
theorem p_brd_at {n pl : Nat} {r : Rw} {bt : Int32} {p q j : Nat} (h : j ≠ 6) : (p_brd n pl r bt p).1 q j = r q j := by
  unfold p_brd
  split
  · split
    · show p_mv (r_set r p 6 2) 2 3 q j = _
      unfold p_mv r_set
      rw [if_neg (fun e => h e.1), if_neg (fun e => h e.2)]
    · show r_set r p 6 2 q j = _
      unfold r_set
      rw [if_neg (fun e => h e.2)]
  · rfl
theorem p_brds_at {n pl : Nat} {r : Rw} {bt : Int32} {q j : Nat} (h : j ≠ 6) : ∀ k, (p_brds n pl r bt k).1 q j = r q j
  | 0 => rfl
  | k + 1 => by
    show (p_brd n pl (p_brds n pl r bt k).1 (p_brds n pl r bt k).2 k).1 q j = _
    rw [p_brd_at h, p_brds_at h k]
theorem p_come_at {r : Rw} {hr : Int32} {q j : Nat} (h : j ≠ 6) : p_come r hr q j = r q j := if_neg (fun e => h e.1)
theorem p_pat_at {r : Rw} {q j : Nat} (h : j ≠ 6) (h4 : j ≠ 4) : p_pat r q j = r q j := by
  unfold p_pat
  by_cases a : r q 6 = 1
  · by_cases b : r q 4 ≤ 0
    · simp [a, b, h]
    · simp [a, b, h4]
  · simp [a]
set_option maxRecDepth 100000 in
set_option maxHeartbeats 400000 in
theorem b_bd0 {K : Option am_V → am_M → Prop} {X : Nat → am_L → List am_V → am_M → Prop} (hX : am_cl eX7_boards lX7_boards (some .boolean) K X) {σ : am_M} (g p : Nat) (h : (g ≤ 272) ∧ ((m_ok σ) ∧ ((vp_in (((nI g) + ((7 : Int32) * (nI p))) + (6 : Int32)) 340) ∧ ((((σ 21 0 (((nI g) + ((7 : Int32) * (nI p))) + (6 : Int32)).toNatClampNeg) = (1 : Int32)) → (m_ok σ) ∧ ((p < 9) ∧ (((p_who (m_r σ g) (m_n σ) (2 : Int32)) < 512) ∧ ((((nI (p_aw (m_r σ 0) (m_n σ) p (p_who (m_r σ g) (m_n σ) (2 : Int32)))) = (0 : Int32)) → (vp_in (((nI g) + ((7 : Int32) * (nI p))) + (6 : Int32)) 340) ∧ (((p_who (m_r σ g) (m_n σ) (2 : Int32)) < 512) ∧ ((vp_in ((nI g) + (63 : Int32)) 340) ∧ (((((nI (q_pop (p_who (m_r σ g) (m_n σ) (2 : Int32)) 9)) + (1 : Int32)) = (((am_u σ 21 0 (((nI g) + ((7 : Int32) * (nI p))) + (6 : Int32)).toNatClampNeg (2 : Int32)) 21 0 ((nI g) + (63 : Int32)).toNatClampNeg) + (3 : Int32))) → X 60 [some (.inr (.inr (20, 0))), some (.inl (nI g)), some (.inl (nI p)), some (.inl (nI (p_who (m_r σ g) (m_n σ) (2 : Int32)))), some (.inl (0 : Int32))] [] (am_u σ 21 0 (((nI g) + ((7 : Int32) * (nI p))) + (6 : Int32)).toNatClampNeg (2 : Int32))) ∧ (¬ (((nI (q_pop (p_who (m_r σ g) (m_n σ) (2 : Int32)) 9)) + (1 : Int32)) = (((am_u σ 21 0 (((nI g) + ((7 : Int32) * (nI p))) + (6 : Int32)).toNatClampNeg (2 : Int32)) 21 0 ((nI g) + (63 : Int32)).toNatClampNeg) + (3 : Int32))) → K (some (.inl (1 : Int32))) (am_u σ 21 0 (((nI g) + ((7 : Int32) * (nI p))) + (6 : Int32)).toNatClampNeg (2 : Int32))))))) ∧ (¬ ((nI (p_aw (m_r σ 0) (m_n σ) p (p_who (m_r σ g) (m_n σ) (2 : Int32)))) = (0 : Int32)) → K (some (.inl (0 : Int32))) σ))))) ∧ (¬ ((σ 21 0 (((nI g) + ((7 : Int32) * (nI p))) + (6 : Int32)).toNatClampNeg) = (1 : Int32)) → K (some (.inl (0 : Int32))) σ))))) : X 0 [some (.inr (.inr (20, 0))), some (.inl (nI g)), some (.inl (nI p)), none, none] [] σ := am_run_ok emX7_boards hX [60] 400 (show 3 ≤ 3 ∧ 0 ≤ 8 ∧ True ∧ sX7_whoOn [.inr (.inr (20, 0)), .inl (nI g), .inl (2 : Int32)] σ (fun vv tt => am_run eX7_boards lX7_boards (some .boolean) K X [60] 396 6 [some (.inr (.inr (20, 0))), some (.inl (nI g)), some (.inl (nI p)), none, none] (vv.toList ++ []) tt) from ⟨am_le rfl, am_le rfl, trivial, wX7_whoOn (g := g) (⟨h.1, ⟨h.2.1, (show 4 ≤ 4 ∧ 0 ≤ 8 ∧ True ∧ sX7_is [.inr (.inr (20, 0)), .inl (nI g), .inl (nI p), .inl (1 : Int32)] σ (fun vv tt => am_run eX7_boards lX7_boards (some .boolean) K X [60] 390 14 [some (.inr (.inr (20, 0))), some (.inl (nI g)), some (.inl (nI p)), some (.inl (nI (p_who (m_r σ g) (m_n σ) (2 : Int32)))), none] (vv.toList ++ []) tt) from ⟨am_le rfl, am_le rfl, trivial, tX7_is (⟨h.2.2.1, ⟨fun q0 => (show (((1 : Int32) = (0 : Int32)) → _) ∧ (¬ ((1 : Int32) = (0 : Int32)) → 3 ≤ 3 ∧ 0 ≤ 8 ∧ True ∧ sX7_alikeWith [.inr (.inr (20, 0)), .inl (nI p), .inl (nI (p_who (m_r σ g) (m_n σ) (2 : Int32)))] σ (fun vv tt => am_run eX7_boards lX7_boards (some .boolean) K X [60] 385 23 [some (.inr (.inr (20, 0))), some (.inl (nI g)), some (.inl (nI p)), some (.inl (nI (p_who (m_r σ g) (m_n σ) (2 : Int32)))), none] (vv.toList ++ []) tt)) from ⟨fun q => absurd q (by decide), fun _ => ⟨am_le rfl, am_le rfl, trivial, wX7_alikeWith (p := p) (S := (p_who (m_r σ g) (m_n σ) (2 : Int32))) (⟨(h.2.2.2.1 q0).1, ⟨(h.2.2.2.1 q0).2.1, ⟨(h.2.2.2.1 q0).2.2.1, (show (((nI (p_aw (m_r σ 0) (m_n σ) p (p_who (m_r σ g) (m_n σ) (2 : Int32)))) = (0 : Int32)) → (vp_in (((nI g) + ((7 : Int32) * (nI p))) + (6 : Int32)) 340) ∧ (1 ≤ 1 ∧ 0 ≤ 8 ∧ sX7_bitsOf [.inl (nI (p_who (m_r σ g) (m_n σ) (2 : Int32)))] (am_u σ 21 0 (((nI g) + ((7 : Int32) * (nI p))) + (6 : Int32)).toNatClampNeg (2 : Int32)) (fun vv tt => am_run eX7_boards lX7_boards (some .boolean) K X [60] 371 47 [some (.inr (.inr (20, 0))), some (.inl (nI g)), some (.inl (nI p)), some (.inl (nI (p_who (m_r σ g) (m_n σ) (2 : Int32)))), none] (vv.toList ++ []) tt))) ∧ (¬ ((nI (p_aw (m_r σ 0) (m_n σ) p (p_who (m_r σ g) (m_n σ) (2 : Int32)))) = (0 : Int32)) → (narrow .boolean (.int (0 : Int32)) = .int (0 : Int32)) ∧ (K (some (.inl (0 : Int32))) σ)) from ⟨fun q1 => ⟨((h.2.2.2.1 q0).2.2.2.1 q1).1, ⟨am_le rfl, am_le rfl, uX7_bitsOf (⟨((h.2.2.2.1 q0).2.2.2.1 q1).2.1, (show 2 ≤ 3 ∧ 1 ≤ 8 ∧ True ∧ sX7_seatsOn [.inr (.inr (20, 0)), .inl (nI g)] (am_u σ 21 0 (((nI g) + ((7 : Int32) * (nI p))) + (6 : Int32)).toNatClampNeg (2 : Int32)) (fun vv tt => am_run eX7_boards lX7_boards (some .boolean) K X [60] 366 54 [some (.inr (.inr (20, 0))), some (.inl (nI g)), some (.inl (nI p)), some (.inl (nI (p_who (m_r σ g) (m_n σ) (2 : Int32)))), none] (vv.toList ++ [.inl ((nI (q_pop (p_who (m_r σ g) (m_n σ) (2 : Int32)) 9)) + (1 : Int32))]) tt) from ⟨am_le rfl, am_le rfl, trivial, tX7_seatsOn (⟨((h.2.2.2.1 q0).2.2.2.1 q1).2.2.1, (show ((((nI (q_pop (p_who (m_r σ g) (m_n σ) (2 : Int32)) 9)) + (1 : Int32)) = (((am_u σ 21 0 (((nI g) + ((7 : Int32) * (nI p))) + (6 : Int32)).toNatClampNeg (2 : Int32)) 21 0 ((nI g) + (63 : Int32)).toNatClampNeg) + (3 : Int32))) → X 60 [some (.inr (.inr (20, 0))), some (.inl (nI g)), some (.inl (nI p)), some (.inl (nI (p_who (m_r σ g) (m_n σ) (2 : Int32)))), some (.inl (0 : Int32))] [] (am_u σ 21 0 (((nI g) + ((7 : Int32) * (nI p))) + (6 : Int32)).toNatClampNeg (2 : Int32))) ∧ (¬ (((nI (q_pop (p_who (m_r σ g) (m_n σ) (2 : Int32)) 9)) + (1 : Int32)) = (((am_u σ 21 0 (((nI g) + ((7 : Int32) * (nI p))) + (6 : Int32)).toNatClampNeg (2 : Int32)) 21 0 ((nI g) + (63 : Int32)).toNatClampNeg) + (3 : Int32))) → (narrow .boolean (.int (1 : Int32)) = .int (1 : Int32)) ∧ (K (some (.inl (1 : Int32))) (am_u σ 21 0 (((nI g) + ((7 : Int32) * (nI p))) + (6 : Int32)).toNatClampNeg (2 : Int32)))) from ⟨fun q2 => (((h.2.2.2.1 q0).2.2.2.1 q1).2.2.2.1 q2), fun q2 => ⟨rfl, (((h.2.2.2.1 q0).2.2.2.1 q1).2.2.2.2 q2)⟩⟩)⟩)⟩)⟩)⟩⟩, fun q1 => ⟨rfl, ((h.2.2.2.1 q0).2.2.2.2 q1)⟩⟩)⟩⟩⟩)⟩⟩), fun q0 => (show (((0 : Int32) = (0 : Int32)) → (narrow .boolean (.int (0 : Int32)) = .int (0 : Int32)) ∧ (K (some (.inl (0 : Int32))) σ)) ∧ (¬ ((0 : Int32) = (0 : Int32)) → _) from ⟨fun _ => ⟨rfl, (h.2.2.2.2 q0)⟩, fun q => absurd (by decide) q⟩)⟩⟩)⟩)⟩⟩)⟩)
set_option maxRecDepth 100000 in
set_option maxHeartbeats 400000 in
theorem b_bd60 {K : Option am_V → am_M → Prop} {X : Nat → am_L → List am_V → am_M → Prop} (hX : am_cl eX7_boards lX7_boards (some .boolean) K X) {σ : am_M} (g p q : Nat) (a : Int32) (h : (((σ 20 0 1) ≤ (nI q)) → (vp_in ((nI g) + (67 : Int32)) 340) ∧ ((vp_in ((nI g) + (67 : Int32)) 340) ∧ (K (some (.inl (1 : Int32))) (am_u σ 21 0 ((nI g) + (67 : Int32)).toNatClampNeg ((σ 21 0 ((nI g) + (67 : Int32)).toNatClampNeg) + (1 : Int32)))))) ∧ (¬ ((σ 20 0 1) ≤ (nI q)) → (vp_in (((nI g) + ((7 : Int32) * (nI q))) + (6 : Int32)) 340) ∧ ((((σ 21 0 (((nI g) + ((7 : Int32) * (nI q))) + (6 : Int32)).toNatClampNeg) = (2 : Int32)) → (vp_in (((nI g) + ((7 : Int32) * (nI q))) + (6 : Int32)) 340) ∧ (X 60 [some (.inr (.inr (20, 0))), some (.inl (nI g)), some (.inl (nI p)), some (.inl a), some (.inl ((nI q) + (1 : Int32)))] [] (am_u σ 21 0 (((nI g) + ((7 : Int32) * (nI q))) + (6 : Int32)).toNatClampNeg (3 : Int32)))) ∧ (¬ ((σ 21 0 (((nI g) + ((7 : Int32) * (nI q))) + (6 : Int32)).toNatClampNeg) = (2 : Int32)) → (vp_in (((nI g) + ((7 : Int32) * (nI q))) + (6 : Int32)) 340) ∧ ((vp_in (((nI g) + ((7 : Int32) * (nI q))) + (6 : Int32)) 340) ∧ (X 60 [some (.inr (.inr (20, 0))), some (.inl (nI g)), some (.inl (nI p)), some (.inl a), some (.inl ((nI q) + (1 : Int32)))] [] (am_u σ 21 0 (((nI g) + ((7 : Int32) * (nI q))) + (6 : Int32)).toNatClampNeg (σ 21 0 (((nI g) + ((7 : Int32) * (nI q))) + (6 : Int32)).toNatClampNeg)))))))) : X 60 [some (.inr (.inr (20, 0))), some (.inl (nI g)), some (.inl (nI p)), some (.inl a), some (.inl (nI q))] [] σ := am_run_ok emX7_boards hX [60] 400 (show (((σ 20 0 1) ≤ (nI q)) → (vp_in ((nI g) + (67 : Int32)) 340) ∧ ((vp_in ((nI g) + (67 : Int32)) 340) ∧ ((narrow .boolean (.int (1 : Int32)) = .int (1 : Int32)) ∧ (K (some (.inl (1 : Int32))) (am_u σ 21 0 ((nI g) + (67 : Int32)).toNatClampNeg ((σ 21 0 ((nI g) + (67 : Int32)).toNatClampNeg) + (1 : Int32))))))) ∧ (¬ ((σ 20 0 1) ≤ (nI q)) → 4 ≤ 6 ∧ 2 ≤ 8 ∧ True ∧ sX7_is [.inr (.inr (20, 0)), .inl (nI g), .inl (nI q), .inl (2 : Int32)] σ (fun vv tt => am_run eX7_boards lX7_boards (some .boolean) K X [60] 382 91 [some (.inr (.inr (20, 0))), some (.inl (nI g)), some (.inl (nI p)), some (.inl a), some (.inl (nI q))] (vv.toList ++ [.inl (((nI g) + ((7 : Int32) * (nI q))) + (6 : Int32)), .inr (.inr (21, 0))]) tt)) from ⟨fun q0 => ⟨(h.1 q0).1, ⟨(h.1 q0).2.1, ⟨rfl, (h.1 q0).2.2⟩⟩⟩, fun q0 => ⟨am_le rfl, am_le rfl, trivial, tX7_is (⟨(h.2 q0).1, ⟨fun q1 => (show (((1 : Int32) = (0 : Int32)) → _) ∧ (¬ ((1 : Int32) = (0 : Int32)) → (vp_in (((nI g) + ((7 : Int32) * (nI q))) + (6 : Int32)) 340) ∧ (X 60 [some (.inr (.inr (20, 0))), some (.inl (nI g)), some (.inl (nI p)), some (.inl a), some (.inl ((nI q) + (1 : Int32)))] [] (am_u σ 21 0 (((nI g) + ((7 : Int32) * (nI q))) + (6 : Int32)).toNatClampNeg (3 : Int32)))) from ⟨fun q => absurd q (by decide), fun _ => ⟨((h.2 q0).2.1 q1).1, ((h.2 q0).2.1 q1).2⟩⟩), fun q1 => (show (((0 : Int32) = (0 : Int32)) → (vp_in (((nI g) + ((7 : Int32) * (nI q))) + (6 : Int32)) 340) ∧ ((vp_in (((nI g) + ((7 : Int32) * (nI q))) + (6 : Int32)) 340) ∧ (X 60 [some (.inr (.inr (20, 0))), some (.inl (nI g)), some (.inl (nI p)), some (.inl a), some (.inl ((nI q) + (1 : Int32)))] [] (am_u σ 21 0 (((nI g) + ((7 : Int32) * (nI q))) + (6 : Int32)).toNatClampNeg (σ 21 0 (((nI g) + ((7 : Int32) * (nI q))) + (6 : Int32)).toNatClampNeg))))) ∧ (¬ ((0 : Int32) = (0 : Int32)) → _) from ⟨fun _ => ⟨((h.2 q0).2.2 q1).1, ⟨((h.2 q0).2.2 q1).2.1, ((h.2 q0).2.2 q1).2.2⟩⟩, fun q => absurd (by decide) q⟩)⟩⟩)⟩⟩)
theorem m_k_0 {σ : am_M} {g n : Nat} {f r : Rw} {hr bt : Int32} (h9 : n ≤ 9) : m_set σ g n (p_k f r 0) hr bt = m_set σ g n r hr bt := m_set_cg h9 fun p j _ _ => by rw [show p_k f r 0 p = r p from if_neg (Nat.not_lt_zero p)]
theorem m_k_n {σ : am_M} {g n : Nat} {f r : Rw} {hr bt : Int32} (h9 : n ≤ 9) : m_set σ g n (p_k f r n) hr bt = m_set σ g n f hr bt := m_set_cg h9 fun p j hp _ => by rw [show p_k f r n p = f p from if_pos hp]
theorem m_k_s {σ : am_M} {g n : Nat} {f r r' : Rw} {hr bt : Int32} {i : Nat} (h9 : n ≤ 9) (h : ∀ j, j < 7 → r' i j = f i j) (ho : ∀ q, q ≠ i → r' q = p_k f r i q) : m_set σ g n (p_k f r (i + 1)) hr bt = m_set σ g n r' hr bt := m_set_cg h9 fun p j _ hj => by
  by_cases e : p = i
  · subst e
    rw [h j hj, show p_k f r (p + 1) p = f p from if_pos (by omega)]
  · rw [ho p e]
    unfold p_k
    by_cases b : p < i
    · rw [if_pos b, if_pos (by omega)]
    · rw [if_neg b, if_neg (by omega)]
theorem q_z {S : Nat} (h : S < 512) : nI S = (0 : Int32) ↔ S = 0 := nI_eq (b := 0) (by omega) (by decide)
theorem m_63 (g : Nat) : nI g + (63 : Int32) = nI (g + 63) := nI_add g 63
theorem m_66 (g : Nat) : nI g + (66 : Int32) = nI (g + 66) := nI_add g 66
theorem m_67 (g : Nat) : nI g + (67 : Int32) = nI (g + 67) := nI_add g 67
set_option maxHeartbeats 1000000 in
theorem tX7_boards {σ : am_M} {g pl p : Nat} {r : Rw} {hr bt : Int32} {K : am_K} (hg : g ≤ 272) (ho : m_ok σ) (hpl : σ 21 0 (g + 63) + 3 = nI pl) (h5 : pl ≤ 5) (hp : p < m_n σ) (ha : m_at σ g (m_n σ) r) (h : K (some (.inl (if p_ok r (m_n σ) p then 1 else 0))) (m_set σ g (m_n σ) (p_brd (m_n σ) pl r bt p).1 hr (p_brd (m_n σ) pl r bt p).2)) : sX7_boards [.inr (.inr (20, 0)), .inl (nI g), .inl (nI p)] (m_set σ g (m_n σ) r hr bt) K := by
  obtain ⟨hn, h9⟩ := m_ok_e ho
  have hw := p_who_lt (r := r) (s := 2) h9
  have hawl := p_aw_lt (r := m_r (m_set σ g (m_n σ) r hr bt) 0) (p := p) (S := p_who r (m_n σ) 2) h9
  have hrv := p_aw_riv (S := p_who r (m_n σ) 2) h9 hp (m_at_set (hr := hr) (bt := bt) h9 ha)
  have hq := q_pop_le (p_who r (m_n σ) 2) 9
  refine ⟨am_le rfl, fun X hX => b_bd0 hX g p ?_⟩
  rw [m_n_set, m_who_set, m_ix6, m_63, nI_clamp (by omega), nI_clamp (by omega), m_set_r hp (by decide), m_set_u h9 hp (by decide), show nI (q_pop (p_who r (m_n σ) 2) 9) + (1 : Int32) = nI (q_pop (p_who r (m_n σ) 2) 9 + 1) from nI_1 _, m_set_o (r := r_set r p 6 2) (by omega) (by omega) (by omega), hpl, nI_eq (by omega) (by omega), q_z hawl]
  have v6 : vp_in (nI (g + 7 * p + 6)) 340 := q_in (by omega) (by decide)
  have v3 : vp_in (nI (g + 63)) 340 := q_in (by omega) (by decide)
  have v7 : vp_in (nI (g + 67)) 340 := q_in (by omega) (by decide)
  have ho' := m_ok_set (g := g) (n := m_n σ) (r := r) (hr := hr) (bt := bt) ho
  refine ⟨hg, ho', v6, fun a => ⟨ho', by omega, hw, fun b => ⟨v6, hw, v3, fun d => ?_, fun d => ?_⟩, fun b => ?_⟩, fun a => ?_⟩
  · have hk : p_ok r (m_n σ) p = true := by
      unfold p_ok
      rw [← hrv]
      simp [a, b]
    have hf : p_full r (m_n σ) pl = true := by
      unfold p_full
      simp [d]
    unfold p_brd at h
    rw [if_pos hk, if_pos hf, hk] at h
    generalize hN : m_n σ = n at *
    show X 60 [some (.inr (.inr (20, 0))), some (.inl (nI g)), some (.inl (nI p)), some (.inl (nI (p_who r n 2))), some (.inl (nI 0))] [] _
    rw [← m_k_0 (f := p_mv (r_set r p 6 2) 2 3) h9]
    refine q_dn (W := fun i => X 60 [some (.inr (.inr (20, 0))), some (.inl (nI g)), some (.inl (nI p)), some (.inl (nI (p_who r n 2))), some (.inl (nI i))] [] (m_set σ g n (p_k (p_mv (r_set r p 6 2) 2 3) (r_set r p 6 2) i) hr bt)) (n := n) (fun i hi ih => ?_) ?_ 0 (Nat.zero_le _)
    · refine b_bd60 hX g p i _ ?_
      rw [m_ix6, m_67, nI_clamp (by omega), nI_clamp (by omega), m_set_r hi (by decide), p_k_i, m_set_u h9 hi (by decide), m_set_u h9 hi (by decide), show nI i + (1 : Int32) = nI (i + 1) from nI_1 i]
      have vi : vp_in (nI (g + 7 * i + 6)) 340 := q_in (by omega) (by decide)
      refine ⟨fun q => absurd q ?_, fun _ => ⟨vi, fun e => ⟨vi, ?_⟩, fun e => ⟨vi, vi, ?_⟩⟩⟩
      · rw [show m_set σ g n (p_k (p_mv (r_set r p 6 2) 2 3) (r_set r p 6 2) i) hr bt 20 0 1 = σ 20 0 1 from rfl, hn]
        exact nI_ge hi (by omega)
      · rw [m_k_s (r' := r_set (p_k (p_mv (r_set r p 6 2) 2 3) (r_set r p 6 2) i) i 6 3) h9 ?_ (fun q hq => r_set_o hq)] at ih
        · exact ih
        · intro j hj
          unfold r_set p_mv
          by_cases c : j = 6
          · rw [if_pos ⟨rfl, c⟩, if_pos ⟨c, e⟩]
          · rw [if_neg (fun z => c z.2), if_neg (fun z => c z.1), p_k_i]
      · rw [m_k_s (r' := r_set (p_k (p_mv (r_set r p 6 2) 2 3) (r_set r p 6 2) i) i 6 (r_set r p 6 2 i 6)) h9 ?_ (fun q hq => r_set_o hq)] at ih
        · exact ih
        · intro j hj
          unfold p_mv
          rw [if_neg (fun z => e z.2)]
          by_cases c : j = 6
          · subst c
            exact if_pos ⟨rfl, rfl⟩
          · show (if i = i ∧ j = 6 then _ else p_k _ _ i i j) = _
            rw [if_neg (fun z => c z.2), p_k_i]
    · refine b_bd60 hX g p n _ ?_
      rw [m_67, nI_clamp (by omega), m_k_n h9, m_set_b h9, m_set_ub h9]
      refine ⟨fun _ => ⟨v7, v7, h⟩, fun q => absurd ?_ q⟩
      rw [show m_set σ g n (p_mv (r_set r p 6 2) 2 3) hr bt 20 0 1 = σ 20 0 1 from rfl, hn]
      exact nI_le (Nat.le_refl _) (by omega)
  · have hk : p_ok r (m_n σ) p = true := by
      unfold p_ok
      rw [← hrv]
      simp [a, b]
    have hf : ¬ p_full r (m_n σ) pl = true := by
      unfold p_full
      simp [d]
    unfold p_brd at h
    rw [if_pos hk, if_neg hf, hk] at h
    exact h
  · have hk : ¬ p_ok r (m_n σ) p = true := by
      unfold p_ok
      rw [← hrv]
      simp [b]
    unfold p_brd at h
    rw [if_neg hk] at h
    simpa [hk] using h
  · have hk : ¬ p_ok r (m_n σ) p = true := by
      unfold p_ok
      simp [a]
    unfold p_brd at h
    rw [if_neg hk] at h
    simpa [hk] using h
