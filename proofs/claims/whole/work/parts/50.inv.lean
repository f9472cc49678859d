/-! what holds between the class and the reference -/
/-- the rows are in their bounds -/
def r_lim (j : Nat) : Nat := match j with
  | 0 => 4 | 1 => 5 | 2 => 5 | 3 => 5 | 4 => 9 | 5 => 9 | _ => 4
def r_ok (r : Rw) (n : Nat) : Prop := ∀ p j, p < n → j < 7 → q_lim (r p j) (r_lim j)
/-- a crew is a page -/
def cm (σ : am_M) (c g n pl : Nat) : Prop := σ 3 c 1 = nI n ∧ (∀ p j, p < n → j < 7 → c_r σ c p j = m_r σ g p j) ∧ σ 3 c 2 = nI pl ∧ σ 21 0 (g + 63) + 3 = nI pl ∧ (2 ≤ pl ∧ pl ≤ 5) ∧ (σ 3 c 3 = σ 21 0 (g + 64) + 1 ∧ q_lim (σ 3 c 3) 9) ∧ (σ 3 c 4 = σ 21 0 (g + 65) + 1 ∧ q_lim (σ 3 c 4) 9) ∧ (σ 3 c 5 = σ 21 0 (g + 66) ∧ q_lim (σ 3 c 5) 999) ∧ σ 3 c 6 = σ 21 0 (g + 67) ∧ r_ok (c_r σ c) n ∧ p_inv (c_r σ c) n pl
def iv_img (σ : am_M) (n : Nat) : Prop := ∀ k, k < 2 → σ 15 0 k = σ 28 0 k ∧ (σ 15 0 k = 0 ∨ (σ 15 0 k = 1 ∧ ∃ pl, cm σ (2 + k) (68 * (k + 1)) n pl))
def iv_seen (σ : am_M) (n : Nat) : Prop := ∃ m, m ≤ 6 ∧ σ 11 0 2 = nI m ∧ σ 20 0 23 = nI m ∧ ∀ k, k < m → (∃ p, p < n ∧ σ 12 0 k = nI p ∧ σ 27 0 (2 * k) = nI p) ∧ σ 13 0 k = σ 27 0 (2 * k + 1) ∧ (σ 13 0 k = 0 ∨ σ 13 0 k = 1)
def iv_tape (σ : am_M) : Prop := ∃ t, t ≤ 160 ∧ σ 1 0 1 = nI t ∧ σ 20 0 7 = nI t ∧ ∀ i, i < t → σ 2 0 i = σ 23 0 i ∧ q_lim (σ 2 0 i) 127
def iv_sheet (σ : am_M) : Prop := ∀ k, k < 4 → (σ 17 k 1 = 0 ∧ σ 29 0 k = -4) ∨ (σ 17 k 1 = 1 ∧ σ 17 k 2 = σ 29 0 k ∧ q_lim (σ 17 k 2) 2 ∧ ∃ z, z ≤ 40 ∧ σ 17 k 3 = nI z ∧ σ 30 0 k = nI z ∧ ∀ i, i < 40 → σ 18 k i = σ 31 0 (40 * k + i))
def k_cuts : List Int32 := [0, 5, 9, 16, 24, 28, 33, 37, 41]
def k_letters : List Int32 := [112, 108, 97, 105, 110, 108, 105, 97, 114, 97, 100, 109, 105, 114, 97, 108, 110, 97, 109, 101, 108, 101, 115, 115, 106, 97, 99, 107, 115, 101, 97, 116, 115, 99, 111, 115, 116, 104, 101, 114, 101]
def iv_word (σ : am_M) : Prop := (∀ i, i < 9 → σ 24 0 i = k_cuts.getD i 0) ∧ ∀ i, i < 41 → σ 25 0 i = k_letters.getD i 0
def iv_flt (σ : am_M) : Prop := σ 0 0 10 = σ 20 0 8 ∧ σ 0 0 11 = σ 20 0 28
/-- all of it, for n ones and pl places -/
def iv (σ : am_M) (n pl : Nat) : Prop := n ≤ 9 ∧ σ 20 0 1 = nI n ∧ cm σ 0 0 n pl ∧ iv_img σ n ∧ iv_seen σ n ∧ iv_tape σ ∧ iv_sheet σ ∧ iv_word σ ∧ iv_flt σ
def Inv (σ : am_M) : Prop := ∃ n pl, iv σ n pl
theorem cm_cg {σ τ : am_M} {c g n pl : Nat} (h3 : τ 3 c = σ 3 c) (h5 : ∀ p, p < n → τ 5 (9 * c + p) = σ 5 (9 * c + p)) (h21 : ∀ j, g ≤ j → j < g + 68 → τ 21 0 j = σ 21 0 j) (h9 : n ≤ 9) (h : cm σ c g n pl) : cm τ c g n pl := by
  obtain ⟨a1, a2, a3, a4, a5, a6, a7, a8, a9, a10, a11⟩ := h
  have er : ∀ p j, p < n → c_r τ c p j = c_r σ c p j := fun p j hp => by
    unfold c_r
    rw [h5 p hp]
  refine ⟨by rw [h3]; exact a1, fun p j hp hj => ?_, by rw [h3]; exact a3, by rw [h21 _ (by omega) (by omega)]; exact a4, a5, by rw [h3, h21 _ (by omega) (by omega)]; exact a6, by rw [h3, h21 _ (by omega) (by omega)]; exact a7, by rw [h3, h21 _ (by omega) (by omega)]; exact a8, by rw [h3, h21 _ (by omega) (by omega)]; exact a9, fun p j hp hj => ?_, ?_⟩
  · rw [er p j hp, a2 p j hp hj]
    unfold m_r
    rw [h21 _ (by omega) (by omega)]
  · rw [er p j hp]
    exact a10 p j hp hj
  · exact p_inv_cg (fun p hp => by rw [er p 6 hp]) a11
theorem iv_img_cg {σ τ : am_M} {n : Nat} (h9 : n ≤ 9) (h15 : τ 15 = σ 15) (h28 : τ 28 = σ 28) (h3 : ∀ c, 2 ≤ c → τ 3 c = σ 3 c) (h5 : ∀ i, 18 ≤ i → τ 5 i = σ 5 i) (h21 : ∀ j, 68 ≤ j → j < 204 → τ 21 0 j = σ 21 0 j) (h : iv_img σ n) : iv_img τ n := by
  intro k hk
  obtain ⟨a, b⟩ := h k hk
  rw [h15, h28]
  refine ⟨a, ?_⟩
  rcases b with b | ⟨b, pl, c⟩
  · exact Or.inl b
  · exact Or.inr ⟨b, pl, cm_cg (h3 _ (by omega)) (fun p hp => h5 _ (by omega)) (fun j j1 j2 => h21 j (by omega) (by omega)) h9 c⟩
theorem iv_img_c2 {σ τ : am_M} {n : Nat} (h9 : n ≤ 9) (h15 : τ 15 = σ 15) (h28 : τ 28 = σ 28) (h3 : ∀ c, 2 ≤ c → c < 4 → τ 3 c = σ 3 c) (h5 : ∀ i, 18 ≤ i → i < 36 → τ 5 i = σ 5 i) (h21 : ∀ j, 68 ≤ j → j < 204 → τ 21 0 j = σ 21 0 j) (h : iv_img σ n) : iv_img τ n := by
  intro k hk
  obtain ⟨a, b⟩ := h k hk
  rw [h15, h28]
  refine ⟨a, ?_⟩
  rcases b with b | ⟨b, pl, c⟩
  · exact Or.inl b
  · exact Or.inr ⟨b, pl, cm_cg (h3 _ (by omega) (by omega)) (fun p hp => h5 _ (by omega) (by omega)) (fun j j1 j2 => h21 j (by omega) (by omega)) h9 c⟩
theorem iv_seen_cg {σ τ : am_M} {n : Nat} (h11 : τ 11 = σ 11) (h12 : τ 12 = σ 12) (h13 : τ 13 = σ 13) (h27 : τ 27 = σ 27) (h20 : τ 20 0 23 = σ 20 0 23) (h : iv_seen σ n) : iv_seen τ n := by
  unfold iv_seen
  rw [h11, h12, h13, h27, h20]
  exact h
theorem iv_tape_cg {σ τ : am_M} (h1 : τ 1 = σ 1) (h2 : τ 2 = σ 2) (h23 : τ 23 = σ 23) (h20 : τ 20 0 7 = σ 20 0 7) (h : iv_tape σ) : iv_tape τ := by
  unfold iv_tape
  rw [h1, h2, h23, h20]
  exact h
theorem iv_sheet_cg {σ τ : am_M} (h17 : τ 17 = σ 17) (h18 : τ 18 = σ 18) (h29 : τ 29 = σ 29) (h30 : τ 30 = σ 30) (h31 : τ 31 = σ 31) (h : iv_sheet σ) : iv_sheet τ := by
  unfold iv_sheet
  rw [h17, h18, h29, h30, h31]
  exact h
theorem iv_word_cg {σ τ : am_M} (h24 : τ 24 = σ 24) (h25 : τ 25 = σ 25) (h : iv_word σ) : iv_word τ := by
  unfold iv_word
  rw [h24, h25]
  exact h
theorem iv_flt_cg {σ τ : am_M} (h0 : τ 0 = σ 0) (h8 : τ 20 0 8 = σ 20 0 8) (h28 : τ 20 0 28 = σ 20 0 28) (h : iv_flt σ) : iv_flt τ := by
  unfold iv_flt
  rw [h0, h8, h28]
  exact h
/-- only scratch was written -/
theorem iv_scr {σ τ : am_M} {n pl : Nat} (hk : ∀ k, k ≠ 3 → k ≠ 5 → k ≠ 6 → k ≠ 7 → k ≠ 8 → k ≠ 9 → k ≠ 10 → k ≠ 19 → k ≠ 20 → k ≠ 21 → k ≠ 22 → k ≠ 26 → τ k = σ k) (h3 : ∀ c, c ≠ 1 → τ 3 c = σ 3 c) (h5 : ∀ i, i < 9 ∨ 18 ≤ i → τ 5 i = σ 5 i) (h20 : ∀ j, j = 1 ∨ j = 7 ∨ j = 8 ∨ j = 23 ∨ j = 28 → τ 20 0 j = σ 20 0 j) (h21 : ∀ j, j < 204 → τ 21 0 j = σ 21 0 j) (h : iv σ n pl) : iv τ n pl := by
  obtain ⟨h9, a1, a2, a3, a4, a5, a6, a7, a8⟩ := h
  refine ⟨h9, by rw [h20 1 (by omega)]; exact a1, cm_cg (h3 0 (by decide)) (fun p hp => h5 _ (by omega)) (fun j _ hj => h21 j (by omega)) h9 a2, iv_img_cg h9 (hk 15 (by decide) (by decide) (by decide) (by decide) (by decide) (by decide) (by decide) (by decide) (by decide) (by decide) (by decide) (by decide)) (hk 28 (by decide) (by decide) (by decide) (by decide) (by decide) (by decide) (by decide) (by decide) (by decide) (by decide) (by decide) (by decide)) (fun c hc => h3 c (by omega)) (fun i hi => h5 i (by omega)) (fun j _ hj => h21 j hj) a3, ?_, ?_, ?_, ?_, ?_⟩
  · exact iv_seen_cg (hk 11 (by decide) (by decide) (by decide) (by decide) (by decide) (by decide) (by decide) (by decide) (by decide) (by decide) (by decide) (by decide)) (hk 12 (by decide) (by decide) (by decide) (by decide) (by decide) (by decide) (by decide) (by decide) (by decide) (by decide) (by decide) (by decide)) (hk 13 (by decide) (by decide) (by decide) (by decide) (by decide) (by decide) (by decide) (by decide) (by decide) (by decide) (by decide) (by decide)) (hk 27 (by decide) (by decide) (by decide) (by decide) (by decide) (by decide) (by decide) (by decide) (by decide) (by decide) (by decide) (by decide)) (h20 23 (by omega)) a4
  · exact iv_tape_cg (hk 1 (by decide) (by decide) (by decide) (by decide) (by decide) (by decide) (by decide) (by decide) (by decide) (by decide) (by decide) (by decide)) (hk 2 (by decide) (by decide) (by decide) (by decide) (by decide) (by decide) (by decide) (by decide) (by decide) (by decide) (by decide) (by decide)) (hk 23 (by decide) (by decide) (by decide) (by decide) (by decide) (by decide) (by decide) (by decide) (by decide) (by decide) (by decide) (by decide)) (h20 7 (by omega)) a5
  · exact iv_sheet_cg (hk 17 (by decide) (by decide) (by decide) (by decide) (by decide) (by decide) (by decide) (by decide) (by decide) (by decide) (by decide) (by decide)) (hk 18 (by decide) (by decide) (by decide) (by decide) (by decide) (by decide) (by decide) (by decide) (by decide) (by decide) (by decide) (by decide)) (hk 29 (by decide) (by decide) (by decide) (by decide) (by decide) (by decide) (by decide) (by decide) (by decide) (by decide) (by decide) (by decide)) (hk 30 (by decide) (by decide) (by decide) (by decide) (by decide) (by decide) (by decide) (by decide) (by decide) (by decide) (by decide) (by decide)) (hk 31 (by decide) (by decide) (by decide) (by decide) (by decide) (by decide) (by decide) (by decide) (by decide) (by decide) (by decide) (by decide)) a6
  · exact iv_word_cg (hk 24 (by decide) (by decide) (by decide) (by decide) (by decide) (by decide) (by decide) (by decide) (by decide) (by decide) (by decide) (by decide)) (hk 25 (by decide) (by decide) (by decide) (by decide) (by decide) (by decide) (by decide) (by decide) (by decide) (by decide) (by decide) (by decide)) a7
  · exact iv_flt_cg (hk 0 (by decide) (by decide) (by decide) (by decide) (by decide) (by decide) (by decide) (by decide) (by decide) (by decide) (by decide) (by decide)) (h20 8 (by omega)) (h20 28 (by omega)) a8
/-- the two answer alike, and what holds between them holds on -/
def pairI (f g : am_Spec) (as : List am_V) (σ : am_M) : Prop := f (am_r 0 0 :: as) σ (fun v τ => ∃ r : Int32, v = some (.inl r) ∧ g (am_r 20 0 :: as) τ (fun w τ2 => w = some (.inl r) ∧ Inv τ2))
def pairL (f g : am_Spec) (as : List am_V) (σ : am_M) : Prop := f (am_r 0 0 :: as) σ (fun v τ => ∃ r : Int64, v = some (.inr (.inl r)) ∧ g (am_r 20 0 :: as) τ (fun w τ2 => w = some (.inr (.inl r)) ∧ Inv τ2))
theorem q_m1 {n : Nat} {x : Int32} (h : n ≤ 1000) : nI n - (1 : Int32) < x ↔ nI n ≤ x := by
  show nI n - nI 1 < x ↔ _
  rw [Int32.lt_iff_toInt_lt, Int32.le_iff_toInt_le, pk_sub_toInt (by omega) (by decide), nI_toInt (by omega)]
  have : ((1 : Nat) : Int) = 1 := rfl
  omega
/-- the number that lies in bounds -/
theorem q_rng {x lo hi : Int32} {a b : Nat} (hlo : lo = nI a) (hhi : hi = nI b) (hb : b < 2 ^ 31) (h1 : ¬ x < lo) (h2 : ¬ hi < x) (ha : a < 2 ^ 31) : ∃ j : Nat, a ≤ j ∧ j ≤ b ∧ x = nI j := by
  subst hlo hhi
  have h0 : ¬ x < 0 := by
    rw [Int32.lt_iff_toInt_lt] at h1 ⊢
    rw [nI_toInt ha] at h1
    show ¬ x.toInt < 0
    omega
  obtain ⟨j, hj, rfl⟩ := nI_of h0
  rw [nI_ltI hj ha] at h1
  rw [nI_ltI hb hj] at h2
  exact ⟨j, by omega, by omega, rfl⟩
theorem q_0b {x hi : Int32} {b : Nat} (hhi : hi = nI b) (hb : b < 2 ^ 31) (h1 : ¬ x < 0) (h2 : ¬ hi < x) : ∃ j : Nat, j ≤ b ∧ x = nI j := by
  obtain ⟨j, -, h, e⟩ := q_rng (a := 0) (lo := 0) rfl hhi hb h1 h2 (by decide)
  exact ⟨j, h, e⟩
theorem q_lim_n {n m : Nat} (h : n ≤ m) (hm : m < 2 ^ 31) : q_lim (nI n) m := q_lim_of rfl h hm
theorem iv_f {σ : am_M} {n pl : Nat} (h : iv σ n pl) : c_ok σ 0 ∧ c_n σ 0 = n ∧ m_ok σ ∧ m_n σ = n ∧ ∀ s, p_who (m_r σ 0) n s = p_who (c_r σ 0) n s := by
  obtain ⟨h9, a1, a2, -⟩ := h
  refine ⟨q_lim_of a2.1 h9 (by decide), ?_, q_lim_of a1 h9 (by decide), ?_, fun s => q_set_cg fun i hi => ?_⟩
  · unfold c_n
    rw [a2.1, nI_clamp (by omega)]
  · unfold m_n
    rw [a1, nI_clamp (by omega)]
  · rw [a2.2.1 i 6 hi (by decide)]
/-- a row's place is changed on both sides -/
theorem iv_row {σ : am_M} {n pl i j : Nat} {v : Int32} (h : iv σ n pl) (hi : i < n) (hj : j < 7) (hv : q_lim v (r_lim j)) (h2 : j = 6 → (c_r σ 0 i 6 = 2 ↔ v = 2)) : iv (am_u (am_u σ 5 (9 * 0 + i) j v) 21 0 (7 * i + j) v) n pl := by
  obtain ⟨h9, a1, a2, a3, a4, a5, a6, a7, a8⟩ := h
  obtain ⟨b1, b2, b3, b4, b5, b6, b7, b8, b9, b10, b11⟩ := a2
  have ec : ∀ p k, c_r (am_u (am_u σ 5 (9 * 0 + i) j v) 21 0 (7 * i + j) v) 0 p k = if p = i ∧ k = j then v else c_r σ 0 p k := fun p k => by
    unfold c_r
    rw [am_u_k (by decide)]
    by_cases c : p = i ∧ k = j
    · rw [c.1, c.2, am_u_s, if_pos ⟨rfl, rfl⟩]
    · rw [if_neg c]
      by_cases d : k = j
      · rw [am_u_i (by omega)]
      · unfold am_u
        rw [if_pos rfl, if_neg d]
  have em : ∀ p k, k < 7 → m_r (am_u (am_u σ 5 (9 * 0 + i) j v) 21 0 (7 * i + j) v) 0 p k = if p = i ∧ k = j then v else m_r σ 0 p k := fun p k hk => by
    unfold m_r
    by_cases c : p = i ∧ k = j
    · rw [c.1, c.2, show 0 + 7 * i + j = 7 * i + j by omega, am_u_s, if_pos ⟨rfl, rfl⟩]
    · rw [if_neg c, am_u_j (by omega), am_u_k (by decide)]
  have e21 : ∀ k, 63 ≤ k → am_u (am_u σ 5 (9 * 0 + i) j v) 21 0 (7 * i + j) v 21 0 k = σ 21 0 k := fun k hk => by rw [am_u_j (by omega), am_u_k (by decide)]
  refine ⟨h9, a1, ⟨b1, fun p k hp hk => ?_, b3, by rw [e21 _ (by omega)]; exact b4, b5, by rw [e21 _ (by omega)]; exact b6, by rw [e21 _ (by omega)]; exact b7, by rw [e21 _ (by omega)]; exact b8, by rw [e21 _ (by omega)]; exact b9, fun p k hp hk => ?_, p_inv_cg (fun p hp => ?_) b11⟩, iv_img_cg (σ := σ) h9 rfl rfl (fun _ _ => rfl) (fun i' hi' => ?_) (fun k k1 k2 => e21 k (by omega)) a3, iv_seen_cg rfl rfl rfl rfl rfl a4, iv_tape_cg rfl rfl rfl rfl a5, iv_sheet_cg rfl rfl rfl rfl rfl a6, iv_word_cg rfl rfl a7, iv_flt_cg rfl rfl rfl a8⟩
  · rw [ec, em p k hk, b2 p k hp hk]
  · rw [ec]
    by_cases c : p = i ∧ k = j
    · rw [if_pos c, c.2]
      exact hv
    · rw [if_neg c]
      exact b10 p k hp hk
  · rw [ec]
    by_cases c : p = i ∧ 6 = j
    · rw [if_pos c, c.1]
      exact h2 c.2.symm
    · rw [if_neg c]
  · funext k
    rw [am_u_k (by decide), am_u_i (by omega)]
