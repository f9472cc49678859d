/-! what is told of the sets: the reference -/
/-- a boat, to the reference -/
def m_pl (σ : am_M) : Int32 := σ 21 0 63 + 3
def m_boat (σ : am_M) (S : Nat) : Bool := decide (nI (q_pop S 9) = m_pl σ) && p_un (m_r σ 0) (m_n σ) S
set_option maxRecDepth 100000 in
set_option maxHeartbeats 400000 in
theorem tX7_isBoat {σ : am_M} {S : Nat} {K : Option am_V → am_M → Prop} (h : (S < 512) ∧ ((((nI (q_pop S 9)) = ((σ 21 0 63) + (3 : Int32))) → (m_ok σ) ∧ ((S < 512) ∧ (((p_un (m_r σ 0) (m_n σ) S = true) → K (some (.inl (1 : Int32))) σ) ∧ (¬ (p_un (m_r σ 0) (m_n σ) S = true) → K (some (.inl (0 : Int32))) σ)))) ∧ (¬ ((nI (q_pop S 9)) = ((σ 21 0 63) + (3 : Int32))) → K (some (.inl (0 : Int32))) σ))) : sX7_isBoat [.inr (.inr (20, 0)), .inl (nI S)] σ K := ⟨am_le rfl, fun X hX => am_run_ok emX7_isBoat hX [] 2000 (show 1 ≤ 1 ∧ 0 ≤ 8 ∧ sX7_bitsOf [.inl (nI S)] σ (fun vv tt => am_run eX7_isBoat lX7_isBoat (some .boolean) K X [] 1998 4 [some (.inr (.inr (20, 0))), some (.inl (nI S))] (vv.toList ++ []) tt) from ⟨am_le rfl, am_le rfl, uX7_bitsOf (⟨h.1, (show 2 ≤ 3 ∧ 1 ≤ 8 ∧ True ∧ sX7_seatsOn [.inr (.inr (20, 0)), .inl (0 : Int32)] σ (fun vv tt => am_run eX7_isBoat lX7_isBoat (some .boolean) K X [] 1995 9 [some (.inr (.inr (20, 0))), some (.inl (nI S))] (vv.toList ++ [.inl (nI (q_pop S 9))]) tt) from ⟨am_le rfl, am_le rfl, trivial, tX7_seatsOn (⟨am_ci (by decide), (show (((nI (q_pop S 9)) = ((σ 21 0 63) + (3 : Int32))) → 2 ≤ 2 ∧ 0 ≤ 8 ∧ True ∧ sX7_isUnlike [.inr (.inr (20, 0)), .inl (nI S)] σ (fun vv tt => am_run eX7_isBoat lX7_isBoat (some .boolean) K X [] 1991 17 [some (.inr (.inr (20, 0))), some (.inl (nI S))] (vv.toList ++ []) tt)) ∧ (¬ ((nI (q_pop S 9)) = ((σ 21 0 63) + (3 : Int32))) → (narrow .boolean (.int (0 : Int32)) = .int (0 : Int32)) ∧ (K (some (.inl (0 : Int32))) σ)) from ⟨fun q0 => ⟨am_le rfl, am_le rfl, trivial, wX7_isUnlike (S := S) (⟨(h.2.1 q0).1, ⟨(h.2.1 q0).2.1, ⟨fun q1 => (show (((1 : Int32) = (0 : Int32)) → _) ∧ (¬ ((1 : Int32) = (0 : Int32)) → (narrow .boolean (.int (1 : Int32)) = .int (1 : Int32)) ∧ (K (some (.inl (1 : Int32))) σ)) from ⟨fun q => absurd q (by decide), fun _ => ⟨rfl, ((h.2.1 q0).2.2.1 q1)⟩⟩), fun q1 => (show (((0 : Int32) = (0 : Int32)) → (narrow .boolean (.int (0 : Int32)) = .int (0 : Int32)) ∧ (K (some (.inl (0 : Int32))) σ)) ∧ (¬ ((0 : Int32) = (0 : Int32)) → _) from ⟨fun _ => ⟨rfl, ((h.2.1 q0).2.2.2 q1)⟩, fun q => absurd (by decide) q⟩)⟩⟩⟩)⟩, fun q0 => ⟨rfl, (h.2.2 q0)⟩⟩)⟩)⟩)⟩)⟩)⟩
theorem uX7_isBoat {σ : am_M} {S : Nat} {K : am_K} (h : (m_ok σ) ∧ ((S < 512) ∧ (((m_boat σ S = true) → K (some (.inl (1 : Int32))) σ) ∧ (¬ (m_boat σ S = true) → K (some (.inl (0 : Int32))) σ)))) : sX7_isBoat [.inr (.inr (20, 0)), .inl (nI S)] σ K := by
  obtain ⟨ho, hS, h1, h0⟩ := h
  unfold m_boat m_pl at h1 h0
  refine tX7_isBoat ⟨hS, fun a => ⟨ho, hS, fun b => h1 (by simp [a, b]), fun b => h0 (by simp [b])⟩, fun a => h0 (by simp [a])⟩
set_option maxRecDepth 100000 in
set_option maxHeartbeats 400000 in
theorem tX7_isFilling {σ : am_M} {S f : Nat} {K : Option am_V → am_M → Prop} (h : ((((nI S) &&& ((nI f) ^^^ (-1 : Int32))) = (0 : Int32)) → (m_ok σ) ∧ (((((nI (p_who (m_r σ 0) (m_n σ) (2 : Int32))) &&& ((nI S) ^^^ (-1 : Int32))) = (0 : Int32)) → (m_ok σ) ∧ ((S < 512) ∧ (((m_boat σ S = true) → K (some (.inl (1 : Int32))) σ) ∧ (¬ (m_boat σ S = true) → K (some (.inl (0 : Int32))) σ)))) ∧ (¬ (((nI (p_who (m_r σ 0) (m_n σ) (2 : Int32))) &&& ((nI S) ^^^ (-1 : Int32))) = (0 : Int32)) → K (some (.inl (0 : Int32))) σ))) ∧ (¬ (((nI S) &&& ((nI f) ^^^ (-1 : Int32))) = (0 : Int32)) → K (some (.inl (0 : Int32))) σ)) : sX7_isFilling [.inr (.inr (20, 0)), .inl (nI S), .inl (nI f)] σ K := ⟨am_le rfl, fun X hX => am_run_ok emX7_isFilling hX [] 2000 (show ((((nI S) &&& ((nI f) ^^^ (-1 : Int32))) = (0 : Int32)) → 3 ≤ 3 ∧ 0 ≤ 8 ∧ True ∧ sX7_whoOn [.inr (.inr (20, 0)), .inl (0 : Int32), .inl (2 : Int32)] σ (fun vv tt => am_run eX7_isFilling lX7_isFilling (some .boolean) K X [] 1990 14 [some (.inr (.inr (20, 0))), some (.inl (nI S)), some (.inl (nI f))] (vv.toList ++ []) tt)) ∧ (¬ (((nI S) &&& ((nI f) ^^^ (-1 : Int32))) = (0 : Int32)) → (narrow .boolean (.int (0 : Int32)) = .int (0 : Int32)) ∧ (K (some (.inl (0 : Int32))) σ)) from ⟨fun q0 => ⟨am_le rfl, am_le rfl, trivial, wX7_whoOn (g := 0) (⟨(by decide), ⟨(h.1 q0).1, (show ((((nI (p_who (m_r σ 0) (m_n σ) (2 : Int32))) &&& ((nI S) ^^^ (-1 : Int32))) = (0 : Int32)) → 2 ≤ 2 ∧ 0 ≤ 8 ∧ True ∧ sX7_isBoat [.inr (.inr (20, 0)), .inl (nI S)] σ (fun vv tt => am_run eX7_isFilling lX7_isFilling (some .boolean) K X [] 1982 26 [some (.inr (.inr (20, 0))), some (.inl (nI S)), some (.inl (nI f))] (vv.toList ++ []) tt)) ∧ (¬ (((nI (p_who (m_r σ 0) (m_n σ) (2 : Int32))) &&& ((nI S) ^^^ (-1 : Int32))) = (0 : Int32)) → (narrow .boolean (.int (0 : Int32)) = .int (0 : Int32)) ∧ (K (some (.inl (0 : Int32))) σ)) from ⟨fun q1 => ⟨am_le rfl, am_le rfl, trivial, uX7_isBoat (S := S) (⟨((h.1 q0).2.1 q1).1, ⟨((h.1 q0).2.1 q1).2.1, ⟨fun q2 => (show (((1 : Int32) = (0 : Int32)) → _) ∧ (¬ ((1 : Int32) = (0 : Int32)) → (narrow .boolean (.int (1 : Int32)) = .int (1 : Int32)) ∧ (K (some (.inl (1 : Int32))) σ)) from ⟨fun q => absurd q (by decide), fun _ => ⟨rfl, (((h.1 q0).2.1 q1).2.2.1 q2)⟩⟩), fun q2 => (show (((0 : Int32) = (0 : Int32)) → (narrow .boolean (.int (0 : Int32)) = .int (0 : Int32)) ∧ (K (some (.inl (0 : Int32))) σ)) ∧ (¬ ((0 : Int32) = (0 : Int32)) → _) from ⟨fun _ => ⟨rfl, (((h.1 q0).2.1 q1).2.2.2 q2)⟩, fun q => absurd (by decide) q⟩)⟩⟩⟩)⟩, fun q1 => ⟨rfl, ((h.1 q0).2.2 q1)⟩⟩)⟩⟩)⟩, fun q0 => ⟨rfl, (h.2 q0)⟩⟩)⟩
def m_fil (σ : am_M) (S f : Nat) : Bool := decide (q_df S f = 0) && (decide (q_df (p_who (m_r σ 0) (m_n σ) 2) S = 0) && m_boat σ S)
theorem uX7_isFilling {σ : am_M} {S f : Nat} {K : am_K} (h : (m_ok σ) ∧ ((S < 512) ∧ ((f < 512) ∧ (((m_fil σ S f = true) → K (some (.inl (1 : Int32))) σ) ∧ (¬ (m_fil σ S f = true) → K (some (.inl (0 : Int32))) σ))))) : sX7_isFilling [.inr (.inr (20, 0)), .inl (nI S), .inl (nI f)] σ K := by
  obtain ⟨ho, hS, hf, h1, h0⟩ := h
  have hw := p_who_lt (r := m_r σ 0) (s := 2) (m_ok_e ho).2
  unfold m_fil at h1 h0
  apply tX7_isFilling
  rw [q_dfz (by omega), q_dfz (by omega)]
  exact ⟨fun a => ⟨ho, fun b => ⟨ho, hS, fun d => h1 (by simp [a, b, d]), fun d => h0 (by simp [d])⟩, fun b => h0 (by simp [b])⟩, fun a => h0 (by simp [a])⟩
set_option maxRecDepth 100000 in
set_option maxHeartbeats 400000 in
theorem tX7_hereNow {σ : am_M}  {K : Option am_V → am_M → Prop} (h : (m_ok σ) ∧ ((m_ok σ) ∧ (K (some (.inl ((nI (p_who (m_r σ 0) (m_n σ) (1 : Int32))) ||| (nI (p_who (m_r σ 0) (m_n σ) (2 : Int32)))))) σ))) : sX7_hereNow [.inr (.inr (20, 0))] σ K := ⟨am_le rfl, fun X hX => am_run_ok emX7_hereNow hX [] 2000 (show 3 ≤ 3 ∧ 0 ≤ 8 ∧ True ∧ sX7_whoOn [.inr (.inr (20, 0)), .inl (0 : Int32), .inl (1 : Int32)] σ (fun vv tt => am_run eX7_hereNow lX7_hereNow (some .int) K X [] 1996 6 [some (.inr (.inr (20, 0)))] (vv.toList ++ []) tt) from ⟨am_le rfl, am_le rfl, trivial, wX7_whoOn (g := 0) (⟨(by decide), ⟨h.1, (show 3 ≤ 4 ∧ 1 ≤ 8 ∧ True ∧ sX7_whoOn [.inr (.inr (20, 0)), .inl (0 : Int32), .inl (2 : Int32)] σ (fun vv tt => am_run eX7_hereNow lX7_hereNow (some .int) K X [] 1992 12 [some (.inr (.inr (20, 0)))] (vv.toList ++ [.inl (nI (p_who (m_r σ 0) (m_n σ) (1 : Int32)))]) tt) from ⟨am_le rfl, am_le rfl, trivial, wX7_whoOn (g := 0) (⟨(by decide), ⟨h.2.1, (show K (some (.inl ((nI (p_who (m_r σ 0) (m_n σ) (1 : Int32))) ||| (nI (p_who (m_r σ 0) (m_n σ) (2 : Int32)))))) σ from h.2.2)⟩⟩)⟩)⟩⟩)⟩)⟩
def m_here (σ : am_M) : Nat := p_who (m_r σ 0) (m_n σ) 1 ||| p_who (m_r σ 0) (m_n σ) 2
theorem m_here_lt {σ : am_M} (h : m_ok σ) : m_here σ < 2 ^ m_n σ := q_lt_of fun i hi => by
  unfold m_here
  rw [Nat.testBit_or, p_who_bit, p_who_bit]
  simp [show ¬ i < m_n σ by omega]
theorem m_here_512 {σ : am_M} (h : m_ok σ) : m_here σ < 512 := Nat.lt_of_lt_of_le (m_here_lt h) (Nat.pow_le_pow_right (n := 2) (by decide) (m_ok_e h).2)
theorem uX7_hereNow {σ : am_M} {K : am_K} (h : (m_ok σ) ∧ (K (some (.inl (nI (m_here σ)))) σ)) : sX7_hereNow [.inr (.inr (20, 0))] σ K := by
  refine tX7_hereNow ⟨h.1, h.1, ?_⟩
  rw [q_or]
  exact h.2
/-- the sets that came -/
def m_col (σ τ : am_M) (L : List Nat) (n : Nat) : Prop := (∀ k, k ≠ 20 → τ k = σ k) ∧ (∀ j, j < 18 ∨ 21 < j → τ 20 0 j = σ 20 0 j) ∧ τ 20 0 18 = nI L.length ∧ (τ 20 0 19 = if L.length = 0 then -4 else nI (L.getD 0 0)) ∧ τ 20 0 20 = nI (L.foldl (fun a b => a &&& b) (2 ^ n - 1)) ∧ τ 20 0 21 = nI (q_any L)
theorem m_col_0 {σ : am_M} {n : Nat} {K : am_K} (hn : σ 20 0 1 = nI n) (h9 : n ≤ 9) (h : ∀ τ, m_col σ τ [] n → K none τ) : sX7_begins [.inr (.inr (20, 0))] σ K := by
  apply tX7_begins
  rw [hn, q_one n (by omega)]
  refine h _ ⟨fun k hk => by rw [am_u_k hk, am_u_k hk, am_u_k hk, am_u_k hk], fun j hj => by rw [am_u_j (by omega), am_u_j (by omega), am_u_j (by omega), am_u_j (by omega)], rfl, rfl, ?_, rfl⟩
  show nI (2 ^ n) - nI 1 = nI (2 ^ n - 1)
  rw [pk_sub (Nat.one_le_two_pow)]
theorem m_col_s {σ τ : am_M} {L : List Nat} {n S : Nat} {K : am_K} (hc : m_col σ τ L n) (hl : L.length < 512) (h : ∀ τ', m_col σ τ' (L ++ [S]) n → K none τ') : sX7_comesSet [.inr (.inr (20, 0)), .inl (nI S)] τ K := by
  obtain ⟨c1, c2, c3, c4, c5, c6⟩ := hc
  have e5 : nI (L.foldl (fun a b => a &&& b) (2 ^ n - 1)) &&& nI S = nI ((L ++ [S]).foldl (fun a b => a &&& b) (2 ^ n - 1)) := by
    rw [q_and, List.foldl_append]
    rfl
  have e6 : nI (q_any L) ||| nI S = nI (q_any (L ++ [S])) := by
    unfold q_any
    rw [q_or, List.foldl_append]
    rfl
  apply tX7_comesSet
  rw [c3, c5, c6, e5, e6, q_z hl, show nI L.length + (1 : Int32) = nI (L.length + 1) from nI_1 _]
  refine ⟨fun a => h _ ⟨fun k hk => by rw [am_u_k hk, am_u_k hk, am_u_k hk, am_u_k hk, c1 k hk], fun j hj => by rw [am_u_j (by omega), am_u_j (by omega), am_u_j (by omega), am_u_j (by omega), c2 j hj], ?_, ?_, rfl, rfl⟩, fun a => h _ ⟨fun k hk => by rw [am_u_k hk, am_u_k hk, am_u_k hk, am_u_k hk, c1 k hk], fun j hj => by rw [am_u_j (by omega), am_u_j (by omega), am_u_j (by omega), am_u_j (by omega), c2 j hj], ?_, ?_, rfl, rfl⟩⟩
  · rw [List.length_append]
    rfl
  · have e : L = [] := List.eq_nil_of_length_eq_zero a
    rw [e]
    rfl
  · rw [List.length_append]
    rfl
  · show τ 20 0 19 = _
    rw [c4, if_neg a, if_neg (by rw [List.length_append]; simp)]
    simp only [List.getD]
    rw [List.getElem?_append_left (by omega)]
theorem m_col_ok {σ τ : am_M} {L : List Nat} {n : Nat} (h : m_col σ τ L n) (ho : m_ok σ) : m_ok τ := by
  unfold m_ok
  rw [h.2.1 1 (by omega)]
  exact ho
theorem m_col_n {σ τ : am_M} {L : List Nat} {n : Nat} (h : m_col σ τ L n) : m_n τ = m_n σ := by
  unfold m_n
  rw [h.2.1 1 (by omega)]
theorem m_col_r {σ τ : am_M} {L : List Nat} {n : Nat} (h : m_col σ τ L n) : m_r τ 0 = m_r σ 0 := by
  unfold m_r
  rw [h.1 21 (by decide)]
theorem m_col_b {σ τ : am_M} {L : List Nat} {n S : Nat} (h : m_col σ τ L n) : m_boat τ S = m_boat σ S := by
  unfold m_boat m_pl
  rw [m_col_n h, m_col_r h, h.1 21 (by decide)]
theorem m_col_f {σ τ : am_M} {L : List Nat} {n S f : Nat} (h : m_col σ τ L n) : m_fil τ S f = m_fil σ S f := by
  unfold m_fil
  rw [m_col_n h, m_col_r h, m_col_b h]
theorem q_all_n {L : List Nat} {n : Nat} (h9 : n ≤ 9) (h : ∀ S, S ∈ L → S < 2 ^ n) (hne : L.length ≠ 0) : L.foldl (fun a b => a &&& b) (2 ^ n - 1) = q_all L := by
  cases L with
  | nil => exact absurd rfl hne
  | cons S L =>
    unfold q_all
    show L.foldl _ ((2 ^ n - 1) &&& S) = L.foldl _ (511 &&& S)
    have hS := h S List.mem_cons_self
    have e1 : (2 ^ n - 1) &&& S = S := by rw [Nat.and_comm, Nat.and_two_pow_sub_one_eq_mod, Nat.mod_eq_of_lt hS]
    have e2 : 511 &&& S = S := by
      rw [Nat.and_comm, show (511 : Nat) = 2 ^ 9 - 1 from rfl, Nat.and_two_pow_sub_one_eq_mod, Nat.mod_eq_of_lt (Nat.lt_of_lt_of_le hS (Nat.pow_le_pow_right (n := 2) (by decide) h9))]
    rw [e1, e2]
theorem uX7_answers {σ τ : am_M} {L : List Nat} {n f : Nat} {w : Int32} {K : am_K} (h9 : n ≤ 9) (hc : m_col σ τ L n) (hl : L.length < 512) (hL : ∀ S, S ∈ L → S < 2 ^ n) (h : K (some (.inl (a_tell L w f))) τ) : sX7_answers [.inr (.inr (20, 0)), .inl w, .inl (nI f)] τ K := by
  obtain ⟨c1, c2, c3, c4, c5, c6⟩ := hc
  unfold a_tell at h
  apply tX7_answers
  rw [c3, c4, c5, c6, q_z hl, q_dfI]
  refine ⟨fun a => ⟨fun _ => ?_, fun b => absurd a b⟩, fun a => ⟨fun b => ⟨fun q => absurd q a, fun _ => ?_⟩, fun b => ⟨fun d => ?_, fun d => ⟨fun e => ?_, fun e => ?_⟩⟩⟩⟩
  · rw [if_pos a] at h
    exact h
  · rw [if_neg a, if_pos b] at h
    exact h
  · rw [if_neg a, if_neg b, if_pos d] at h
    rw [if_neg b]
    exact h
  · rw [if_neg a, if_neg b, if_neg d, if_pos e] at h
    rw [q_all_n h9 hL b]
    exact h
  · rw [if_neg a, if_neg b, if_neg d, if_neg e] at h
    exact h
theorem q_ls_512 {P : Nat → Bool} {n : Nat} (h : n ≤ 511) : (q_ls P n).length < 512 := by
  rw [q_ls_len]
  have : ∀ m, q_ct P m ≤ m := by
    intro m
    induction m with
    | zero => exact Nat.le_refl _
    | succ m ih =>
      show (if P m then q_ct P m + 1 else q_ct P m) ≤ m + 1
      split <;> omega
  have := this n
  omega
theorem q_ls_yes {P : Nat → Bool} {n : Nat} (h : P n = true) : q_ls P (n + 1) = q_ls P n ++ [n] := by
  show (if P n then q_ls P n ++ [n] else q_ls P n) = _
  rw [h]
  rfl
theorem q_ls_no {P : Nat → Bool} {n : Nat} (h : ¬ P n = true) : q_ls P (n + 1) = q_ls P n := by
  show (if P n then q_ls P n ++ [n] else q_ls P n) = _
  rw [if_neg h]
