/-! how many sets lie side by side -/
theorem q_sub_bit {S P i : Nat} (h : q_df S P = 0) (hi : S.testBit i = true) : P.testBit i = true := q_df_0.mp h i hi
theorem q_sub_trans {S P Q : Nat} (h1 : q_df S P = 0) (h2 : q_df P Q = 0) : q_df S Q = 0 := q_df_0.mpr fun i hi => q_sub_bit h2 (q_sub_bit h1 hi)
theorem q_sub_refl (S : Nat) : q_df S S = 0 := q_df_0.mpr fun _ h => h
theorem q_df_sub (P S : Nat) : q_df (q_df P S) P = 0 := q_df_0.mpr fun i hi => by
  rw [q_df_bit] at hi
  simp at hi
  exact hi.1
theorem q_sub_le {S P : Nat} (h : q_df S P = 0) : S ≤ P := by
  have e : S &&& P = S := by
    apply Nat.eq_of_testBit_eq
    intro i
    rw [Nat.testBit_and]
    cases hs : S.testBit i
    · rfl
    · rw [q_sub_bit h hs]
      rfl
  rw [← e]
  exact Nat.and_le_right
theorem q_df_lt {P S i : Nat} (hp : P.testBit i = true) (hs : S.testBit i = true) : q_df P S < P := by
  rcases Nat.lt_or_ge (q_df P S) P with h | h
  · exact h
  · have e : q_df P S = P := Nat.le_antisymm (q_df_le P S) h
    have b := q_df_bit P S i
    rw [e, hp, hs] at b
    cases b
theorem q_bit_of {S : Nat} (h : S ≠ 0) : ∃ i, S.testBit i = true := Nat.exists_testBit_of_ne_zero h
/-- k sets of that sort lie side by side in P -/
def fam (good : Nat → Bool) : Nat → Nat → Prop
  | 0, _ => True
  | k + 1, P => ∃ S, good S = true ∧ q_df S P = 0 ∧ fam good k (q_df P S)
theorem fam_mono {good : Nat → Bool} : ∀ {k P Q : Nat}, q_df P Q = 0 → fam good k P → fam good k Q
  | 0, _, _, _, _ => trivial
  | k + 1, P, Q, h, ⟨S, h1, h2, h3⟩ => ⟨S, h1, q_sub_trans h2 h, fam_mono (q_df_0.mpr fun i hi => by
      rw [q_df_bit] at hi ⊢
      simp at hi ⊢
      exact ⟨q_sub_bit h hi.1, hi.2⟩) h3⟩
theorem fam_le {good : Nat → Bool} (h0 : good 0 = false) : ∀ {k P : Nat}, fam good k P → k ≤ P
  | 0, _, _ => Nat.zero_le _
  | k + 1, P, ⟨S, h1, h2, h3⟩ => by
    have ih := fam_le h0 h3
    have hS : S ≠ 0 := fun e => by rw [e, h0] at h1; cases h1
    obtain ⟨i, hi⟩ := q_bit_of hS
    have := q_df_lt (q_sub_bit h2 hi) hi
    omega
theorem q_df_comm {P S T : Nat} : q_df (q_df P S) T = q_df (q_df P T) S := by
  apply Nat.eq_of_testBit_eq
  intro i
  rw [q_df_bit, q_df_bit, q_df_bit, q_df_bit]
  cases P.testBit i <;> cases S.testBit i <;> cases T.testBit i <;> rfl
theorem fam_split {good : Nat → Bool} {e : Nat} : ∀ {k P : Nat}, P.testBit e = true → fam good (k + 1) P → fam good (k + 1) (q_df P (2 ^ e)) ∨ ∃ S, good S = true ∧ q_df S P = 0 ∧ S.testBit e = true ∧ fam good k (q_df P S)
  | k, P, he, ⟨S, h1, h2, h3⟩ => by
    cases hs : S.testBit e
    · have hsub : q_df S (q_df P (2 ^ e)) = 0 := q_df_0.mpr fun i hi => by
        rw [q_df_bit, q_sub_bit h2 hi, Nat.testBit_two_pow]
        by_cases c : e = i
        · rw [← c, hs] at hi
          cases hi
        · simp [c]
      cases k with
      | zero => exact Or.inl ⟨S, h1, hsub, trivial⟩
      | succ k =>
        have he' : (q_df P S).testBit e = true := by
          rw [q_df_bit, he, hs]
          rfl
        rcases fam_split (k := k) he' h3 with q | ⟨T, t1, t2, t3, t4⟩
        · left
          refine ⟨S, h1, hsub, ?_⟩
          rw [q_df_comm]
          exact q
        · right
          refine ⟨T, t1, q_sub_trans t2 (q_df_sub P S), t3, S, h1, ?_, ?_⟩
          · exact q_df_0.mpr fun i hi => by
              rw [q_df_bit, q_sub_bit h2 hi]
              cases ht : T.testBit i
              · rfl
              · have := q_sub_bit t2 ht
                rw [q_df_bit, hi] at this
                simp at this
          · rw [q_df_comm]
            exact t4
    · exact Or.inr ⟨S, h1, h2, hs, h3⟩
/-- the most -/
def mx (good : Nat → Bool) (P v : Nat) : Prop := fam good v P ∧ ∀ k, fam good k P → k ≤ v
theorem mx_one {good : Nat → Bool} {P v w : Nat} (h1 : mx good P v) (h2 : mx good P w) : v = w := Nat.le_antisymm (h2.2 v h1.1) (h1.2 w h2.1)
theorem mx_0 {good : Nat → Bool} (h0 : good 0 = false) : mx good 0 0 := ⟨trivial, fun _ h => fam_le h0 h⟩
theorem mx_le {good : Nat → Bool} (h0 : good 0 = false) {P v : Nat} (h : mx good P v) : v ≤ P := fam_le h0 h.1
/-- one more taken in: out of it, or in a set with it -/
theorem mx_step {good : Nat → Bool} {P e v v0 : Nat} (he : P.testBit e = true) (h0 : mx good (q_df P (2 ^ e)) v0) (hle : v0 ≤ v) (hS : ∀ S, good S = true → q_df S P = 0 → S.testBit e = true → ∃ w, mx good (q_df P S) w ∧ w + 1 ≤ v) (hat : v = v0 ∨ ∃ S w, good S = true ∧ q_df S P = 0 ∧ mx good (q_df P S) w ∧ v = w + 1) : mx good P v := by
  refine ⟨?_, fun k hk => ?_⟩
  · rcases hat with q | ⟨S, w, h1, h2, h3, h4⟩
    · rw [q]
      exact fam_mono (q_df_sub _ _) h0.1
    · rw [h4]
      exact ⟨S, h1, h2, h3.1⟩
  · cases k with
    | zero => exact Nat.zero_le _
    | succ k =>
      rcases fam_split he hk with q | ⟨S, h1, h2, h3, h4⟩
      · exact Nat.le_trans (h0.2 _ q) hle
      · obtain ⟨w, hw, hv⟩ := hS S h1 h2 h3
        have := hw.2 k h4
        omega
theorem fam_cg {good good' : Nat → Bool} {H : Nat} (h : ∀ S, q_df S H = 0 → good S = good' S) : ∀ {k P : Nat}, q_df P H = 0 → fam good k P → fam good' k P
  | 0, _, _, _ => trivial
  | k + 1, P, hP, ⟨S, h1, h2, h3⟩ => ⟨S, by rw [← h S (q_sub_trans h2 hP)]; exact h1, h2, fam_cg h (q_sub_trans (q_df_sub P S) hP) h3⟩
theorem mx_cg {good good' : Nat → Bool} {H P v : Nat} (h : ∀ S, q_df S H = 0 → good S = good' S) (hP : q_df P H = 0) (hm : mx good P v) : mx good' P v := ⟨fam_cg h hP hm.1, fun k hk => hm.2 k (fam_cg (fun S hS => (h S hS).symm) hP hk)⟩
/-- going down through the parts of a set misses none -/
theorem q_part : ∀ (s M T : Nat), q_df s M = 0 → q_df T M = 0 → T < s → T ≤ (s - 1) &&& M := by
  intro s
  induction s using Nat.strongRecOn with
  | ind s ih =>
    intro M T hs hT hlt
    have bit0 : ∀ x : Nat, x.testBit 0 = decide (x % 2 = 1) := fun x => by rw [Nat.testBit_zero]
    have hM : M = 2 * (M / 2) + M % 2 := by omega
    have hTT : T = 2 * (T / 2) + T % 2 := by omega
    have hand : ∀ a b : Nat, a &&& b = 2 * ((a / 2) &&& (b / 2)) + (a % 2) * (b % 2) := by
      intro a b
      apply Nat.eq_of_testBit_eq
      intro i
      cases i with
      | zero =>
        rw [Nat.testBit_and, bit0, bit0, bit0]
        rcases Nat.mod_two_eq_zero_or_one a with p | p <;> rcases Nat.mod_two_eq_zero_or_one b with q | q <;> rw [p, q] <;> simp <;> omega
      | succ i =>
        rw [Nat.testBit_and, Nat.testBit_succ, Nat.testBit_succ, Nat.testBit_succ, ← Nat.testBit_and]
        congr 1
        rcases Nat.mod_two_eq_zero_or_one a with p | p <;> rcases Nat.mod_two_eq_zero_or_one b with q | q <;> rw [p, q] <;> omega
    have half : ∀ x, q_df x M = 0 → q_df (x / 2) (M / 2) = 0 := fun x hx => q_df_0.mpr fun i hi => by
      rw [← Nat.testBit_succ] at hi ⊢
      exact q_sub_bit hx hi
    have low : ∀ x, q_df x M = 0 → x % 2 ≤ M % 2 := fun x hx => by
      rcases Nat.mod_two_eq_zero_or_one x with p | p
      · omega
      · have := q_sub_bit hx (i := 0) (by rw [bit0, p]; rfl)
        rw [bit0] at this
        simp at this
        omega
    have lT := low T hT
    rcases Nat.mod_two_eq_zero_or_one s with p | p
    · -- even
      have h1 : T / 2 < s / 2 := by omega
      have ih1 := ih (s / 2) (by omega) (M / 2) (T / 2) (half s hs) (half T hT) h1
      rw [hand, show (s - 1) / 2 = s / 2 - 1 by omega, show (s - 1) % 2 = 1 by omega]
      omega
    · -- odd
      have hsub := half s hs
      have e : (s / 2) &&& (M / 2) = s / 2 := by
        apply Nat.eq_of_testBit_eq
        intro i
        rw [Nat.testBit_and]
        cases hb : (s / 2).testBit i
        · rfl
        · rw [q_sub_bit hsub hb]
          rfl
      rw [hand, show (s - 1) / 2 = s / 2 by omega, e, show (s - 1) % 2 = 0 by omega]
      omega
