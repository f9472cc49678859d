/-! numbers, bits, sets -/
theorem q_and (a b : Nat) : nI a &&& nI b = nI (a &&& b) := by
  apply Int32.toBitVec_inj.1
  show BitVec.ofNat 32 a &&& BitVec.ofNat 32 b = BitVec.ofNat 32 (a &&& b)
  apply BitVec.eq_of_getLsbD_eq
  intro i hi
  simp [hi]
theorem q_or (a b : Nat) : nI a ||| nI b = nI (a ||| b) := by
  apply Int32.toBitVec_inj.1
  show BitVec.ofNat 32 a ||| BitVec.ofNat 32 b = BitVec.ofNat 32 (a ||| b)
  apply BitVec.eq_of_getLsbD_eq
  intro i hi
  simp [hi]
theorem q_xor (a b : Nat) : nI a ^^^ nI b = nI (a ^^^ b) := by
  apply Int32.toBitVec_inj.1
  show BitVec.ofNat 32 a ^^^ BitVec.ofNat 32 b = BitVec.ofNat 32 (a ^^^ b)
  apply BitVec.eq_of_getLsbD_eq
  intro i hi
  simp [hi]
theorem q_or0 (x : Int32) : x ||| (0 : Int32) = x := by simp
theorem q_sl : ∀ n, n < 32 → ((nI n &&& 31).toBitVec.smod 32).toNat = n := by decide +kernel
theorem q_su : ∀ n, n < 32 → (((nI n).toUInt32 &&& Int32.toUInt32 31).toBitVec % 32).toNat = n := by decide +kernel
theorem q_one : ∀ p, p < 31 → (1 : Int32) <<< (nI p &&& 31) = nI (2 ^ p) := by decide +kernel
theorem q_shr {S p : Nat} (hS : S < 2 ^ 31) (hp : p < 32) : nI S >>> (nI p &&& 31) = nI (S / 2 ^ p) := pk_shrN hS _ p (q_sl p hp)
theorem q_ush {S p : Nat} (hS : S < 2 ^ 31) (hp : p < 32) : ((nI S).toUInt32 >>> ((nI p).toUInt32 &&& Int32.toUInt32 31)).toInt32 = nI (S / 2 ^ p) := pk_ushrN (by omega) _ p (q_su p hp)
theorem q_and1 (n : Nat) : nI n &&& (1 : Int32) = nI (n % 2) := by
  show nI n &&& nI 1 = _
  rw [q_and, Nat.and_one_is_mod]
theorem q_bit (S p : Nat) : S / 2 ^ p % 2 = if S.testBit p then 1 else 0 := by
  rw [Nat.testBit_eq_decide_div_mod_eq]
  generalize S / 2 ^ p = z
  by_cases h : z % 2 = 1
  · simp [h]
  · simp [h]
    omega
theorem q_bitv {S p : Nat} (hS : S < 2 ^ 31) (hp : p < 32) : nI S >>> (nI p &&& 31) &&& (1 : Int32) = if S.testBit p then 1 else 0 := by
  rw [q_shr hS hp, q_and1, q_bit]
  cases S.testBit p <;> rfl
theorem q_bitu {S p : Nat} (hS : S < 2 ^ 31) (hp : p < 32) : ((nI S).toUInt32 >>> ((nI p).toUInt32 &&& Int32.toUInt32 31)).toInt32 &&& (1 : Int32) = if S.testBit p then 1 else 0 := by
  rw [q_ush hS hp, q_and1, q_bit]
  cases S.testBit p <;> rfl
theorem q_ite1 {b : Bool} : ((if b then (1 : Int32) else 0) = 1) ↔ b = true := by cases b <;> decide
theorem q_ite0 {b : Bool} : ((if b then (1 : Int32) else 0) = 0) ↔ b = false := by cases b <;> decide
theorem q_not (x y : Int32) : x &&& (y ^^^ (-1 : Int32)) = x &&& (x ^^^ y) := by
  apply Int32.toBitVec_inj.1
  have e : (-1 : Int32).toBitVec = BitVec.allOnes 32 := by decide
  rw [Int32.toBitVec_and, Int32.toBitVec_xor, Int32.toBitVec_and, Int32.toBitVec_xor, e]
  apply BitVec.eq_of_getLsbD_eq
  intro i hi
  simp only [BitVec.getLsbD_and, BitVec.getLsbD_xor, BitVec.getLsbD_allOnes, hi]
  cases x.toBitVec.getLsbD i <;> cases y.toBitVec.getLsbD i <;> rfl
/-- S without P -/
def q_df (S P : Nat) : Nat := S &&& (S ^^^ P)
theorem q_dfI (S P : Nat) : nI S &&& (nI P ^^^ (-1 : Int32)) = nI (q_df S P) := by
  rw [q_not, q_xor, q_and]
  rfl
theorem q_df_bit (S P i : Nat) : (q_df S P).testBit i = (S.testBit i && !P.testBit i) := by
  unfold q_df
  rw [Nat.testBit_and, Nat.testBit_xor]
  cases S.testBit i <;> cases P.testBit i <;> rfl
theorem q_df_le (S P : Nat) : q_df S P ≤ S := Nat.and_le_left
theorem q_df_0 {S P : Nat} : q_df S P = 0 ↔ ∀ i, S.testBit i = true → P.testBit i = true := by
  constructor
  · intro h i hi
    have h1 := q_df_bit S P i
    rw [h, hi] at h1
    simp at h1
    exact h1
  · intro h
    apply Nat.eq_of_testBit_eq
    intro i
    rw [q_df_bit, Nat.zero_testBit]
    cases hs : S.testBit i
    · rfl
    · rw [h i hs]
      rfl
theorem q_dfz {S P : Nat} (hS : S < 2 ^ 31) : nI S &&& (nI P ^^^ (-1 : Int32)) = 0 ↔ q_df S P = 0 := by
  rw [q_dfI, ← nI_0]
  exact nI_eq (Nat.lt_of_le_of_lt (q_df_le S P) hS) (by decide)
/-- the set of those below n for whom b holds -/
def q_set (b : Nat → Bool) : Nat → Nat
  | 0 => 0
  | n + 1 => q_set b n ||| if b n then 2 ^ n else 0
theorem q_set_1 {b : Nat → Bool} {n : Nat} (h : b n = true) : q_set b (n + 1) = q_set b n ||| 2 ^ n := by
  show q_set b n ||| (if b n then 2 ^ n else 0) = _
  rw [h]
  rfl
theorem q_set_0 {b : Nat → Bool} {n : Nat} (h : b n = false) : q_set b (n + 1) = q_set b n := by
  show q_set b n ||| (if b n then 2 ^ n else 0) = _
  rw [h]
  simp
theorem q_set_bit (b : Nat → Bool) : ∀ n i, (q_set b n).testBit i = (decide (i < n) && b i)
  | 0, i => by simp [q_set]
  | n + 1, i => by
    show (q_set b n ||| (if b n then 2 ^ n else 0)).testBit i = _
    rw [Nat.testBit_or, q_set_bit b n i]
    by_cases hb : b n = true
    · rw [if_pos hb, Nat.testBit_two_pow]
      by_cases h : n = i
      · subst h
        simp [hb]
      · by_cases h2 : i < n
        · simp [h, h2, show i < n + 1 by omega]
        · simp [h, h2, show ¬ i < n + 1 by omega]
    · have hb' : b n = false := by simpa using hb
      rw [if_neg hb]
      by_cases h : n = i
      · subst h
        simp [hb']
      · by_cases h2 : i < n
        · simp [h2, show i < n + 1 by omega]
        · simp [h2, show ¬ i < n + 1 by omega]
theorem q_lt_of {S n : Nat} (h : ∀ i, n ≤ i → S.testBit i = false) : S < 2 ^ n := Nat.lt_pow_two_of_testBit S h
theorem q_set_lt (b : Nat → Bool) (n : Nat) : q_set b n < 2 ^ n := q_lt_of fun i hi => by
  rw [q_set_bit]
  simp [show ¬ i < n by omega]
theorem q_set_le (b : Nat → Bool) {n m : Nat} (h : n ≤ m) : q_set b n < 2 ^ m := Nat.lt_of_lt_of_le (q_set_lt b n) (Nat.pow_le_pow_right (by decide) h)
theorem q_set_cg {b d : Nat → Bool} {n : Nat} (h : ∀ i, i < n → b i = d i) : q_set b n = q_set d n := by
  apply Nat.eq_of_testBit_eq
  intro i
  rw [q_set_bit, q_set_bit]
  by_cases hi : i < n
  · rw [h i hi]
  · simp [hi]
theorem q_ext {S T n : Nat} (hS : S < 2 ^ n) (hT : T < 2 ^ n) (h : ∀ i, i < n → S.testBit i = T.testBit i) : S = T := by
  apply Nat.eq_of_testBit_eq
  intro i
  by_cases hi : i < n
  · exact h i hi
  · have e : 2 ^ n ≤ 2 ^ i := Nat.pow_le_pow_right (by decide) (by omega)
    rw [Nat.testBit_lt_two_pow (Nat.lt_of_lt_of_le hS e), Nat.testBit_lt_two_pow (Nat.lt_of_lt_of_le hT e)]
theorem q_hi {S n i : Nat} (hS : S < 2 ^ n) (hi : n ≤ i) : S.testBit i = false := Nat.testBit_lt_two_pow (Nat.lt_of_lt_of_le hS (Nat.pow_le_pow_right (by decide) hi))
/-- how many -/
def q_pop (S : Nat) : Nat → Nat
  | 0 => 0
  | n + 1 => q_pop S n + if S.testBit n then 1 else 0
theorem q_pop_le (S : Nat) : ∀ n, q_pop S n ≤ n
  | 0 => Nat.le_refl _
  | n + 1 => by
    have := q_pop_le S n
    unfold q_pop
    split <;> omega
/-- a number that is none too large -/
def q_lim (x : Int32) (m : Nat) : Prop := x = nI x.toNatClampNeg ∧ x.toNatClampNeg ≤ m
theorem q_lim_of {x : Int32} {n m : Nat} (h : x = nI n) (hm : n ≤ m) (hb : m < 2 ^ 31) : q_lim x m := by
  subst h
  unfold q_lim
  rw [nI_clamp (by omega)]
  exact ⟨rfl, hm⟩
/-- a loop, from its end back -/
theorem q_dn {W : Nat → Prop} {n : Nat} (hs : ∀ i, i < n → W (i + 1) → W i) (hn : W n) : ∀ i, i ≤ n → W i := by
  have main : ∀ k i, i + k = n → W i := by
    intro k
    induction k with
    | zero =>
      intro i h
      have e : i = n := by omega
      rw [e]
      exact hn
    | succ k ih =>
      intro i h
      exact hs i (by omega) (ih (i + 1) (by omega))
  intro i hi
  exact main (n - i) i (by omega)
theorem q_0 : nI 0 = (0 : Int32) := rfl
theorem q_in {i n : Nat} (h : i < n) (hn : n < 2 ^ 31) : vp_in (nI i) n := vp_in_nI h hn
