/-! the sets that are gathered -/
/-- those below n for whom P holds, in their order -/
def q_ls (P : Nat → Bool) : Nat → List Nat
  | 0 => []
  | n + 1 => if P n then q_ls P n ++ [n] else q_ls P n
def q_ct (P : Nat → Bool) : Nat → Nat
  | 0 => 0
  | n + 1 => if P n then q_ct P n + 1 else q_ct P n
theorem q_ls_len (P : Nat → Bool) : ∀ n, (q_ls P n).length = q_ct P n
  | 0 => rfl
  | n + 1 => by
    unfold q_ls q_ct
    cases P n
    · exact q_ls_len P n
    · simp [q_ls_len P n]
theorem q_ls_mem {P : Nat → Bool} {x : Nat} : ∀ {n : Nat}, x ∈ q_ls P n ↔ x < n ∧ P x = true
  | 0 => by simp [q_ls]
  | n + 1 => by
    unfold q_ls
    cases h : P n
    · rw [show (if false = true then q_ls P n ++ [n] else q_ls P n) = q_ls P n from rfl, q_ls_mem (n := n)]
      constructor
      · intro q
        exact ⟨by omega, q.2⟩
      · intro q
        refine ⟨?_, q.2⟩
        rcases Nat.lt_or_ge x n with a | a
        · exact a
        · have e : x = n := by omega
          rw [e, h] at q
          cases q.2
    · rw [show (if true = true then q_ls P n ++ [n] else q_ls P n) = q_ls P n ++ [n] from rfl, List.mem_append, q_ls_mem (n := n), List.mem_singleton]
      constructor
      · rintro (q | q)
        · exact ⟨by omega, q.2⟩
        · rw [q]
          exact ⟨by omega, h⟩
      · intro q
        rcases Nat.lt_or_ge x n with a | a
        · exact Or.inl ⟨a, q.2⟩
        · exact Or.inr (by omega)
theorem q_ls_cg {P Q : Nat → Bool} : ∀ {n : Nat}, (∀ x, x < n → P x = Q x) → q_ls P n = q_ls Q n
  | 0, _ => rfl
  | n + 1, h => by
    unfold q_ls
    rw [q_ls_cg (fun x hx => h x (by omega)), h n (by omega)]
theorem q_ct_le {P Q : Nat → Bool} (h : ∀ x, P x = true → Q x = true) : ∀ n, q_ct P n ≤ q_ct Q n
  | 0 => Nat.le_refl _
  | n + 1 => by
    have ih := q_ct_le h n
    unfold q_ct
    cases hp : P n
    · cases Q n
      · exact ih
      · show q_ct P n ≤ q_ct Q n + 1
        omega
    · rw [h n hp]
      show q_ct P n + 1 ≤ q_ct Q n + 1
      omega
theorem q_ct_mono {P : Nat → Bool} {m : Nat} : ∀ {n : Nat}, m ≤ n → q_ct P m ≤ q_ct P n
  | 0, h => by
    rw [show m = 0 by omega]
    exact Nat.le_refl _
  | n + 1, h => by
    by_cases e : m = n + 1
    · rw [e]
      exact Nat.le_refl _
    · have ih := q_ct_mono (P := P) (m := m) (n := n) (by omega)
      show q_ct P m ≤ if P n then q_ct P n + 1 else q_ct P n
      cases P n
      · exact ih
      · show q_ct P m ≤ q_ct P n + 1
        omega
theorem q_126 : ∀ z, z ≤ 9 → q_ct (fun S => decide (q_pop S 9 = z)) 512 ≤ 126 := by decide +kernel
/-- is a set of this size, within the pool, with all of must in it, unlike -/
def p_gd (r : Rw) (n z P M S : Nat) : Bool := decide (q_df S P = 0) && (decide (q_df M S = 0) && (decide (q_pop S 9 = z) && p_un r n S))
set_option maxRecDepth 100000 in
set_option maxHeartbeats 400000 in
theorem b_su0 {K : Option am_V → am_M → Prop} {X : Nat → am_L → List am_V → am_M → Prop} (hX : am_cl eX3_isUnlike lX3_isUnlike (some .boolean) K X) {σ : am_M} (S : Nat) (h : X 2 [some (.inr (.inr (7, 0))), some (.inl (nI S)), some (.inl (0 : Int32))] [] σ) : X 0 [some (.inr (.inr (7, 0))), some (.inl (nI S)), none] [] σ := am_run_ok emX3_isUnlike hX [2] 400 (show X 2 [some (.inr (.inr (7, 0))), some (.inl (nI S)), some (.inl (0 : Int32))] [] σ from h)
set_option maxRecDepth 100000 in
set_option maxHeartbeats 400000 in
theorem b_su2 {K : Option am_V → am_M → Prop} {X : Nat → am_L → List am_V → am_M → Prop} (hX : am_cl eX3_isUnlike lX3_isUnlike (some .boolean) K X) {σ : am_M} (S p : Nat) (h : (((9 : Int32) ≤ (nI p)) → K (some (.inl (1 : Int32))) σ) ∧ (¬ ((9 : Int32) ≤ (nI p)) → ((((((nI S)).toUInt32 >>> (((nI p)).toUInt32 &&& Int32.toUInt32 31)).toInt32 &&& (1 : Int32)) = (0 : Int32)) → X 2 [some (.inr (.inr (7, 0))), some (.inl (nI S)), some (.inl ((nI p) + (1 : Int32)))] [] σ) ∧ (¬ (((((nI S)).toUInt32 >>> (((nI p)).toUInt32 &&& Int32.toUInt32 31)).toInt32 &&& (1 : Int32)) = (0 : Int32)) → (vp_in (nI p) 9) ∧ (((((σ 8 0 (nI p).toNatClampNeg) &&& (nI S)) = (0 : Int32)) → X 2 [some (.inr (.inr (7, 0))), some (.inl (nI S)), some (.inl ((nI p) + (1 : Int32)))] [] σ) ∧ (¬ (((σ 8 0 (nI p).toNatClampNeg) &&& (nI S)) = (0 : Int32)) → K (some (.inl (0 : Int32))) σ))))) : X 2 [some (.inr (.inr (7, 0))), some (.inl (nI S)), some (.inl (nI p))] [] σ := am_run_ok emX3_isUnlike hX [2] 400 (show (((9 : Int32) ≤ (nI p)) → (narrow .boolean (.int (1 : Int32)) = .int (1 : Int32)) ∧ (K (some (.inl (1 : Int32))) σ)) ∧ (¬ ((9 : Int32) ≤ (nI p)) → 2 ≤ 2 ∧ 0 ≤ 8 ∧ sX6_isIn [.inl (nI p), .inl (nI S)] σ (fun vv tt => am_run eX3_isUnlike lX3_isUnlike (some .boolean) K X [2] 394 13 [some (.inr (.inr (7, 0))), some (.inl (nI S)), some (.inl (nI p))] (vv.toList ++ []) tt)) from ⟨fun q0 => ⟨rfl, (h.1 q0)⟩, fun q0 => ⟨am_le rfl, am_le rfl, tX6_isIn (⟨fun q1 => (show (((0 : Int32) = (0 : Int32)) → X 2 [some (.inr (.inr (7, 0))), some (.inl (nI S)), some (.inl ((nI p) + (1 : Int32)))] [] σ) ∧ (¬ ((0 : Int32) = (0 : Int32)) → _) from ⟨fun _ => ((h.2 q0).1 q1), fun q => absurd (by decide) q⟩), fun q1 => (show (((1 : Int32) = (0 : Int32)) → _) ∧ (¬ ((1 : Int32) = (0 : Int32)) → (vp_in (nI p) 9) ∧ (((((σ 8 0 (nI p).toNatClampNeg) &&& (nI S)) = (0 : Int32)) → X 2 [some (.inr (.inr (7, 0))), some (.inl (nI S)), some (.inl ((nI p) + (1 : Int32)))] [] σ) ∧ (¬ (((σ 8 0 (nI p).toNatClampNeg) &&& (nI S)) = (0 : Int32)) → (narrow .boolean (.int (0 : Int32)) = .int (0 : Int32)) ∧ (K (some (.inl (0 : Int32))) σ)))) from ⟨fun q => absurd q (by decide), fun _ => ⟨((h.2 q0).2 q1).1, ⟨fun q2 => (((h.2 q0).2 q1).2.1 q2), fun q2 => ⟨rfl, (((h.2 q0).2 q1).2.2 q2)⟩⟩⟩⟩)⟩)⟩⟩)
theorem tX3_isUnlike {σ : am_M} {n S : Nat} {r : Rw} {K : am_K} (h9 : n ≤ 9) (hS : S < 2 ^ n) (hr : ∀ p, p < n → σ 8 0 p = nI (p_riv r n (r p) (nI p))) (h : ((p_un r n S = true) → K (some (.inl (1 : Int32))) σ) ∧ (¬ (p_un r n S = true) → K (some (.inl (0 : Int32))) σ)) : sX3_isUnlike [.inr (.inr (7, 0)), .inl (nI S)] σ K := by
  have hS9 : S < 512 := Nat.lt_of_lt_of_le hS (Nat.pow_le_pow_right (n := 2) (by decide) h9)
  refine ⟨am_le rfl, fun X hX => b_su0 hX S ?_⟩
  refine q_dn (W := fun i => (∀ p, p < i → p < n → S.testBit p = true → p_aw r n p S = 0) → X 2 [some (.inr (.inr (7, 0))), some (.inl (nI S)), some (.inl (nI i))] [] σ) (n := 9) (fun i hi ih ha => ?_) (fun ha => ?_) 0 (Nat.zero_le _) (fun p hp => absurd hp (Nat.not_lt_zero p))
  · refine b_su2 hX S i ?_
    rw [q_bitu (by omega) (by omega), q_ite0, nI_clamp (by omega), show nI i + (1 : Int32) = nI (i + 1) from nI_1 i]
    refine ⟨fun q => absurd q (nI_ge (b := 9) hi (by decide)), fun _ => ⟨fun b => ih (fun p hp hpn hb => ?_), fun b => ⟨q_in hi (by decide), ?_⟩⟩⟩
    · by_cases e : p = i
      · rw [e, b] at hb
        cases hb
      · exact ha p (by omega) hpn hb
    · have hb : S.testBit i = true := by simpa using b
      have hin : i < n := by
        rcases Nat.lt_or_ge i n with q | q
        · exact q
        · rw [q_hi hS q] at hb
          cases hb
      have e := p_aw_riv (r0 := r) (r := r) (S := S) h9 hin (fun _ _ _ _ => rfl)
      have hl := p_aw_lt (r := r) (p := i) (S := S) h9
      rw [hr i hin, q_and, ← e, q_z hl]
      refine ⟨fun d => ih (fun p hp hpn hb' => ?_), fun d => h.2 (fun q => ?_)⟩
      · by_cases e' : p = i
        · rw [e']
          exact d
        · exact ha p (by omega) hpn hb'
      · have := List.all_eq_true.mp q i (List.mem_range.mpr hin)
        simp [hb, d] at this
  · refine b_su2 hX S 9 ⟨fun _ => h.1 ?_, fun q => absurd (by decide) q⟩
    unfold p_un
    apply List.all_eq_true.mpr
    intro p hp
    have hp := List.mem_range.mp hp
    cases hb : S.testBit p
    · rfl
    · simp [ha p (by omega) hp hb]
theorem wJ6_bitCount {σ : am_M} {S : Nat} {K : am_K} (h : (S < 512) ∧ (K (some (.inl (nI (q_pop S 9)))) σ)) : sJ6_bitCount [.inl (nI S)] σ K := vJ6_bitCount ⟨q_lim_of rfl (by omega) (by decide), by rw [nI_clamp (by omega)]; exact h.2⟩
set_option maxRecDepth 100000 in
set_option maxHeartbeats 400000 in
theorem b_ga0 {K : Option am_V → am_M → Prop} {X : Nat → am_L → List am_V → am_M → Prop} (hX : am_cl eX3_gather lX3_gather none K X) {σ : am_M} (z P M : Int32) (h : X 3 [some (.inr (.inr (7, 0))), some (.inr (.inr (3, 0))), some (.inl z), some (.inl P), some (.inl M), some (.inl (0 : Int32)), none] [] σ) : X 0 [some (.inr (.inr (7, 0))), some (.inr (.inr (3, 0))), some (.inl z), some (.inl P), some (.inl M), none, none] [] σ := am_run_ok emX3_gather hX [3] 400 (show X 3 [some (.inr (.inr (7, 0))), some (.inr (.inr (3, 0))), some (.inl z), some (.inl P), some (.inl M), some (.inl (0 : Int32)), none] [] σ from h)
set_option maxRecDepth 100000 in
set_option maxHeartbeats 400000 in
theorem b_ga3 {K : Option am_V → am_M → Prop} {X : Nat → am_L → List am_V → am_M → Prop} (hX : am_cl eX3_gather lX3_gather none K X) {σ : am_M} (z P M : Int32) (p : Nat) (h : (((σ 3 0 1) ≤ (nI p)) → X 54 [some (.inr (.inr (7, 0))), some (.inr (.inr (3, 0))), some (.inl z), some (.inl P), some (.inl M), some (.inl (0 : Int32)), none] [] (am_u (am_u σ 7 0 4 ((1 : Int32) <<< ((σ 3 0 1) &&& 31))) 7 0 3 (0 : Int32))) ∧ (¬ ((σ 3 0 1) ≤ (nI p)) → (vp_in (nI p) 9) ∧ ((c_ok σ 0) ∧ ((vp_in (nI p) 9) ∧ (X 3 [some (.inr (.inr (7, 0))), some (.inr (.inr (3, 0))), some (.inl z), some (.inl P), some (.inl M), some (.inl ((nI p) + (1 : Int32))), none] [] (am_u σ 8 0 (nI p).toNatClampNeg (nI (c_riv σ 0 (σ 5 (9 * 0 + (nI p).toNatClampNeg)) (nI p))))))))) : X 3 [some (.inr (.inr (7, 0))), some (.inr (.inr (3, 0))), some (.inl z), some (.inl P), some (.inl M), some (.inl (nI p)), none] [] σ := am_run_ok emX3_gather hX [3, 54] 400 (show (((σ 3 0 1) ≤ (nI p)) → 1 ≤ 2 ∧ 1 ≤ 8 ∧ True ∧ sX0_pools [.inr (.inr (3, 0))] σ (fun vv tt => am_run eX3_gather lX3_gather none K X [3, 54] 393 43 [some (.inr (.inr (7, 0))), some (.inr (.inr (3, 0))), some (.inl z), some (.inl P), some (.inl M), some (.inl (nI p)), none] (vv.toList ++ [.inr (.inr (7, 0))]) tt)) ∧ (¬ ((σ 3 0 1) ≤ (nI p)) → (vp_in (nI p) 9) ∧ (3 ≤ 5 ∧ 2 ≤ 8 ∧ True ∧ sX0_rivalsOf [.inr (.inr (3, 0)), .inr (.inr (5, (9 * 0 + (nI p).toNatClampNeg))), .inl (nI p)] σ (fun vv tt => am_run eX3_gather lX3_gather none K X [3, 54] 386 31 [some (.inr (.inr (7, 0))), some (.inr (.inr (3, 0))), some (.inl z), some (.inl P), some (.inl M), some (.inl (nI p)), none] (vv.toList ++ [.inl (nI p), .inr (.inr (8, 0))]) tt))) from ⟨fun q0 => ⟨am_le rfl, am_le rfl, trivial, tX0_pools ((show X 54 [some (.inr (.inr (7, 0))), some (.inr (.inr (3, 0))), some (.inl z), some (.inl P), some (.inl M), some (.inl (0 : Int32)), none] [] (am_u (am_u σ 7 0 4 ((1 : Int32) <<< ((σ 3 0 1) &&& 31))) 7 0 3 (0 : Int32)) from (h.1 q0)))⟩, fun q0 => ⟨(h.2 q0).1, ⟨am_le rfl, am_le rfl, trivial, tX0_rivalsOf (⟨(h.2 q0).2.1, (show (vp_in (nI p) 9) ∧ (X 3 [some (.inr (.inr (7, 0))), some (.inr (.inr (3, 0))), some (.inl z), some (.inl P), some (.inl M), some (.inl ((nI p) + (1 : Int32))), none] [] (am_u σ 8 0 (nI p).toNatClampNeg (nI (c_riv σ 0 (σ 5 (9 * 0 + (nI p).toNatClampNeg)) (nI p))))) from ⟨(h.2 q0).2.2.1, (h.2 q0).2.2.2⟩)⟩)⟩⟩⟩)
set_option maxRecDepth 100000 in
set_option maxHeartbeats 400000 in
theorem b_ga54 {K : Option am_V → am_M → Prop} {X : Nat → am_L → List am_V → am_M → Prop} (hX : am_cl eX3_gather lX3_gather none K X) {σ : am_M} (z P M : Int32) (s : Nat) (h : (((σ 7 0 4) ≤ (nI s)) → K none σ) ∧ (¬ ((σ 7 0 4) ≤ (nI s)) → ((((nI s) &&& (P ^^^ (-1 : Int32))) = (0 : Int32)) → (((M &&& ((nI s) ^^^ (-1 : Int32))) = (0 : Int32)) → X 89 [some (.inr (.inr (7, 0))), some (.inr (.inr (3, 0))), some (.inl z), some (.inl P), some (.inl M), some (.inl (nI s)), some (.inl (1 : Int32))] [] σ) ∧ (¬ ((M &&& ((nI s) ^^^ (-1 : Int32))) = (0 : Int32)) → X 89 [some (.inr (.inr (7, 0))), some (.inr (.inr (3, 0))), some (.inl z), some (.inl P), some (.inl M), some (.inl (nI s)), some (.inl (0 : Int32))] [] σ)) ∧ (¬ (((nI s) &&& (P ^^^ (-1 : Int32))) = (0 : Int32)) → X 89 [some (.inr (.inr (7, 0))), some (.inr (.inr (3, 0))), some (.inl z), some (.inl P), some (.inl M), some (.inl (nI s)), some (.inl (0 : Int32))] [] σ))) : X 54 [some (.inr (.inr (7, 0))), some (.inr (.inr (3, 0))), some (.inl z), some (.inl P), some (.inl M), some (.inl (nI s)), none] [] σ := am_run_ok emX3_gather hX [89] 400 (show (((σ 7 0 4) ≤ (nI s)) → K none σ) ∧ (¬ ((σ 7 0 4) ≤ (nI s)) → ((((nI s) &&& (P ^^^ (-1 : Int32))) = (0 : Int32)) → (((M &&& ((nI s) ^^^ (-1 : Int32))) = (0 : Int32)) → X 89 [some (.inr (.inr (7, 0))), some (.inr (.inr (3, 0))), some (.inl z), some (.inl P), some (.inl M), some (.inl (nI s)), some (.inl (1 : Int32))] [] σ) ∧ (¬ ((M &&& ((nI s) ^^^ (-1 : Int32))) = (0 : Int32)) → X 89 [some (.inr (.inr (7, 0))), some (.inr (.inr (3, 0))), some (.inl z), some (.inl P), some (.inl M), some (.inl (nI s)), some (.inl (0 : Int32))] [] σ)) ∧ (¬ (((nI s) &&& (P ^^^ (-1 : Int32))) = (0 : Int32)) → X 89 [some (.inr (.inr (7, 0))), some (.inr (.inr (3, 0))), some (.inl z), some (.inl P), some (.inl M), some (.inl (nI s)), some (.inl (0 : Int32))] [] σ)) from ⟨fun q0 => (h.1 q0), fun q0 => ⟨fun q1 => ⟨fun q2 => (((h.2 q0).1 q1).1 q2), fun q2 => (((h.2 q0).1 q1).2 q2)⟩, fun q1 => ((h.2 q0).2 q1)⟩⟩)
set_option maxRecDepth 100000 in
set_option maxHeartbeats 400000 in
theorem b_ga89 {K : Option am_V → am_M → Prop} {X : Nat → am_L → List am_V → am_M → Prop} (hX : am_cl eX3_gather lX3_gather none K X) {σ : am_M} (z P M l : Int32) (s : Nat) (h : ((l = (0 : Int32)) → X 142 [some (.inr (.inr (7, 0))), some (.inr (.inr (3, 0))), some (.inl z), some (.inl P), some (.inl M), some (.inl (nI s)), some (.inl l)] [] σ) ∧ (¬ (l = (0 : Int32)) → (s < 512) ∧ ((((nI (q_pop s 9)) = z) → sX3_isUnlike [.inr (.inr (7, 0)), .inl (nI s)] σ (fun vv tt => X 109 [some (.inr (.inr (7, 0))), some (.inr (.inr (3, 0))), some (.inl z), some (.inl P), some (.inl M), some (.inl (nI s)), some (.inl l)] (vv.toList ++ []) tt)) ∧ (¬ ((nI (q_pop s 9)) = z) → X 142 [some (.inr (.inr (7, 0))), some (.inr (.inr (3, 0))), some (.inl z), some (.inl P), some (.inl M), some (.inl (nI s)), some (.inl l)] [] σ)))) : X 89 [some (.inr (.inr (7, 0))), some (.inr (.inr (3, 0))), some (.inl z), some (.inl P), some (.inl M), some (.inl (nI s)), some (.inl l)] [] σ := am_run_ok emX3_gather hX [109, 142] 400 (show ((l = (0 : Int32)) → X 142 [some (.inr (.inr (7, 0))), some (.inr (.inr (3, 0))), some (.inl z), some (.inl P), some (.inl M), some (.inl (nI s)), some (.inl l)] [] σ) ∧ (¬ (l = (0 : Int32)) → 1 ≤ 1 ∧ 0 ≤ 8 ∧ sJ6_bitCount [.inl (nI s)] σ (fun vv tt => am_run eX3_gather lX3_gather none K X [109, 142] 396 99 [some (.inr (.inr (7, 0))), some (.inr (.inr (3, 0))), some (.inl z), some (.inl P), some (.inl M), some (.inl (nI s)), some (.inl l)] (vv.toList ++ []) tt)) from ⟨fun q0 => (h.1 q0), fun q0 => ⟨am_le rfl, am_le rfl, wJ6_bitCount (⟨(h.2 q0).1, (show (((nI (q_pop s 9)) = z) → 2 ≤ 2 ∧ 0 ≤ 8 ∧ True ∧ sX3_isUnlike [.inr (.inr (7, 0)), .inl (nI s)] σ (fun vv tt => X 109 [some (.inr (.inr (7, 0))), some (.inr (.inr (3, 0))), some (.inl z), some (.inl P), some (.inl M), some (.inl (nI s)), some (.inl l)] (vv.toList ++ []) tt)) ∧ (¬ ((nI (q_pop s 9)) = z) → X 142 [some (.inr (.inr (7, 0))), some (.inr (.inr (3, 0))), some (.inl z), some (.inl P), some (.inl M), some (.inl (nI s)), some (.inl l)] [] σ) from ⟨fun q1 => ⟨am_le rfl, am_le rfl, trivial, ((h.2 q0).2.1 q1)⟩, fun q1 => ((h.2 q0).2.2 q1)⟩)⟩)⟩⟩)
set_option maxRecDepth 100000 in
set_option maxHeartbeats 400000 in
theorem b_ga109 {K : Option am_V → am_M → Prop} {X : Nat → am_L → List am_V → am_M → Prop} (hX : am_cl eX3_gather lX3_gather none K X) {σ : am_M} (z P M l v : Int32) (s : Nat) (h : ((v = (0 : Int32)) → X 142 [some (.inr (.inr (7, 0))), some (.inr (.inr (3, 0))), some (.inl z), some (.inl P), some (.inl M), some (.inl (nI s)), some (.inl l)] [] σ) ∧ (¬ (v = (0 : Int32)) → (((126 : Int32) ≤ (σ 7 0 3)) → X 142 [some (.inr (.inr (7, 0))), some (.inr (.inr (3, 0))), some (.inl z), some (.inl P), some (.inl M), some (.inl (nI s)), some (.inl l)] [] σ) ∧ (¬ ((126 : Int32) ≤ (σ 7 0 3)) → (vp_in (σ 7 0 3) 126) ∧ (X 142 [some (.inr (.inr (7, 0))), some (.inr (.inr (3, 0))), some (.inl z), some (.inl P), some (.inl M), some (.inl (nI s)), some (.inl l)] [] (am_u (am_u σ 9 0 (σ 7 0 3).toNatClampNeg (nI s)) 7 0 3 ((σ 7 0 3) + (1 : Int32))))))) : X 109 [some (.inr (.inr (7, 0))), some (.inr (.inr (3, 0))), some (.inl z), some (.inl P), some (.inl M), some (.inl (nI s)), some (.inl l)] [.inl v] σ := am_run_ok emX3_gather hX [142] 400 (show ((v = (0 : Int32)) → X 142 [some (.inr (.inr (7, 0))), some (.inr (.inr (3, 0))), some (.inl z), some (.inl P), some (.inl M), some (.inl (nI s)), some (.inl l)] [] σ) ∧ (¬ (v = (0 : Int32)) → (((126 : Int32) ≤ (σ 7 0 3)) → X 142 [some (.inr (.inr (7, 0))), some (.inr (.inr (3, 0))), some (.inl z), some (.inl P), some (.inl M), some (.inl (nI s)), some (.inl l)] [] σ) ∧ (¬ ((126 : Int32) ≤ (σ 7 0 3)) → (vp_in (σ 7 0 3) 126) ∧ (X 142 [some (.inr (.inr (7, 0))), some (.inr (.inr (3, 0))), some (.inl z), some (.inl P), some (.inl M), some (.inl (nI s)), some (.inl l)] [] (am_u (am_u σ 9 0 (σ 7 0 3).toNatClampNeg (nI s)) 7 0 3 ((σ 7 0 3) + (1 : Int32)))))) from ⟨fun q0 => (h.1 q0), fun q0 => ⟨fun q1 => ((h.2 q0).1 q1), fun q1 => ⟨((h.2 q0).2 q1).1, ((h.2 q0).2 q1).2⟩⟩⟩)
set_option maxRecDepth 100000 in
set_option maxHeartbeats 400000 in
theorem b_ga142 {K : Option am_V → am_M → Prop} {X : Nat → am_L → List am_V → am_M → Prop} (hX : am_cl eX3_gather lX3_gather none K X) {σ : am_M} (z P M : Int32) (s : Nat) (h : X 54 [some (.inr (.inr (7, 0))), some (.inr (.inr (3, 0))), some (.inl z), some (.inl P), some (.inl M), some (.inl ((nI s) + (1 : Int32))), none] [] σ) : X 142 [some (.inr (.inr (7, 0))), some (.inr (.inr (3, 0))), some (.inl z), some (.inl P), some (.inl M), some (.inl (nI s)), none] [] σ := am_run_ok emX3_gather hX [54] 400 (show X 54 [some (.inr (.inr (7, 0))), some (.inr (.inr (3, 0))), some (.inl z), some (.inl P), some (.inl M), some (.inl ((nI s) + (1 : Int32))), none] [] σ from h)
/-- what gather leaves: the list of the sets -/
def s_got (σ τ : am_M) (L : List Nat) (n : Nat) : Prop := (∀ k, k ≠ 7 → k ≠ 8 → k ≠ 9 → τ k = σ k) ∧ τ 7 0 3 = nI L.length ∧ (∀ i, i < L.length → τ 9 0 i = nI (L.getD i 0)) ∧ τ 7 0 4 = nI (2 ^ n)
set_option maxHeartbeats 1000000 in
theorem tX3_gather {σ : am_M} {z P M : Nat} {K : am_K} (ho : c_ok σ 0) (hz : z ≤ 9) (hP : P < 512) (hM : M < 512) (h : ∀ τ, s_got σ τ (q_ls (p_gd (c_r σ 0) (c_n σ 0) z P M) (2 ^ c_n σ 0)) (c_n σ 0) → K none τ) : sX3_gather [.inr (.inr (7, 0)), .inr (.inr (3, 0)), .inl (nI z), .inl (nI P), .inl (nI M)] σ K := by
  obtain ⟨hn, h9⟩ := c_ok_e ho
  have hN0 : c_n σ 0 = c_n σ 0 := rfl
  generalize hN : c_n σ 0 = n at hn h9 h
  have h2 : 2 ^ n ≤ 512 := Nat.pow_le_pow_right (n := 2) (by decide) h9
  refine ⟨am_le rfl, fun X hX => b_ga0 hX (nI z) (nI P) (nI M) ?_⟩
  -- the second loop
  have l2 : ∀ s, s ≤ 2 ^ n → ∀ τ : am_M, (∀ k, k ≠ 7 → k ≠ 8 → k ≠ 9 → τ k = σ k) → (∀ p, p < n → τ 8 0 p = nI (p_riv (c_r σ 0) n (c_r σ 0 p) (nI p))) → τ 7 0 4 = nI (2 ^ n) → τ 7 0 3 = nI (q_ls (p_gd (c_r σ 0) n z P M) s).length → (∀ i, i < (q_ls (p_gd (c_r σ 0) n z P M) s).length → τ 9 0 i = nI ((q_ls (p_gd (c_r σ 0) n z P M) s).getD i 0)) → X 54 [some (.inr (.inr (7, 0))), some (.inr (.inr (3, 0))), some (.inl (nI z)), some (.inl (nI P)), some (.inl (nI M)), some (.inl (nI s)), none] [] τ := by
    refine q_dn (fun s hs ih τ f1 f2 f3 f4 f5 => ?_) (fun τ f1 f2 f3 f4 f5 => ?_)
    · -- behind the turn, the set left out or not
      have skip : p_gd (c_r σ 0) n z P M s = false → ∀ l : Int32, X 142 [some (.inr (.inr (7, 0))), some (.inr (.inr (3, 0))), some (.inl (nI z)), some (.inl (nI P)), some (.inl (nI M)), some (.inl (nI s)), some (.inl l)] [] τ := by
        intro hf l
        refine am_fo hX (ls := [some (.inr (.inr (7, 0))), some (.inr (.inr (3, 0))), some (.inl (nI z)), some (.inl (nI P)), some (.inl (nI M)), some (.inl (nI s)), none]) ⟨rfl, rfl, rfl, rfl, rfl, rfl, trivial⟩ (b_ga142 hX (nI z) (nI P) (nI M) s ?_)
        rw [show nI s + (1 : Int32) = nI (s + 1) from nI_1 s]
        have e : q_ls (p_gd (c_r σ 0) n z P M) (s + 1) = q_ls (p_gd (c_r σ 0) n z P M) s := by
          show (if p_gd (c_r σ 0) n z P M s = true then _ else _) = _
          rw [hf]
          rfl
        exact ih τ f1 f2 f3 (by rw [e]; exact f4) (by rw [e]; exact f5)
      have test : ∀ l : Int32, (l = 0 → (q_df s P = 0 ∧ q_df M s = 0 → False)) → (¬ l = 0 → q_df s P = 0 ∧ q_df M s = 0) → X 89 [some (.inr (.inr (7, 0))), some (.inr (.inr (3, 0))), some (.inl (nI z)), some (.inl (nI P)), some (.inl (nI M)), some (.inl (nI s)), some (.inl l)] [] τ := by
        intro l hl0 hl1
        refine b_ga89 hX (nI z) (nI P) (nI M) l s ?_
        have hp9 := q_pop_le s 9
        rw [nI_eq (by omega) (by omega)]
        refine ⟨fun a => skip ?_ l, fun a => ⟨by omega, fun b => ?_, fun b => skip ?_ l⟩⟩
        · unfold p_gd
          by_cases c1 : q_df s P = 0
          · by_cases c2 : q_df M s = 0
            · exact (hl0 a ⟨c1, c2⟩).elim
            · simp [c2]
          · simp [c1]
        · obtain ⟨c1, c2⟩ := hl1 a
          refine tX3_isUnlike (r := c_r σ 0) h9 hs f2 ⟨fun d => ?_, fun d => ?_⟩
          · have hg : p_gd (c_r σ 0) n z P M s = true := by
              unfold p_gd
              simp [c1, c2, b, d]
            have hlen : (q_ls (p_gd (c_r σ 0) n z P M) s).length < 126 := by
              have g1 : q_ct (p_gd (c_r σ 0) n z P M) (s + 1) ≤ 126 := Nat.le_trans (q_ct_mono (n := 512) (by omega)) (Nat.le_trans (q_ct_le (Q := fun S => decide (q_pop S 9 = z)) (fun x hx => by
                unfold p_gd at hx
                simp at hx
                simp [hx.2.2.1]) 512) (q_126 z hz))
              rw [q_ls_len]
              have g2 : q_ct (p_gd (c_r σ 0) n z P M) (s + 1) = q_ct (p_gd (c_r σ 0) n z P M) s + 1 := by
                show (if p_gd (c_r σ 0) n z P M s = true then _ else _) = _
                rw [hg]
                rfl
              omega
            refine b_ga109 hX (nI z) (nI P) (nI M) l 1 s ?_
            rw [f4, nI_clamp (by omega)]
            refine ⟨fun q => absurd q (by decide), fun _ => ⟨fun q => absurd q (nI_ge (b := 126) hlen (by decide)), fun _ => ⟨q_in hlen (by decide), ?_⟩⟩⟩
            refine am_fo hX (ls := [some (.inr (.inr (7, 0))), some (.inr (.inr (3, 0))), some (.inl (nI z)), some (.inl (nI P)), some (.inl (nI M)), some (.inl (nI s)), none]) ⟨rfl, rfl, rfl, rfl, rfl, rfl, trivial⟩ (b_ga142 hX (nI z) (nI P) (nI M) s ?_)
            rw [show nI s + (1 : Int32) = nI (s + 1) from nI_1 s, show nI (q_ls (p_gd (c_r σ 0) n z P M) s).length + (1 : Int32) = nI ((q_ls (p_gd (c_r σ 0) n z P M) s).length + 1) from nI_1 _]
            have e : q_ls (p_gd (c_r σ 0) n z P M) (s + 1) = q_ls (p_gd (c_r σ 0) n z P M) s ++ [s] := by
              show (if p_gd (c_r σ 0) n z P M s = true then _ else _) = _
              rw [hg]
              rfl
            refine ih _ (fun k k7 k8 k9 => by rw [am_u_k k7, am_u_k k9, f1 k k7 k8 k9]) (fun p hp => f2 p hp) f3 ?_ ?_
            · rw [e, List.length_append]
              exact am_u_s
            · intro i hi
              rw [e, List.length_append] at hi
              have hi : i < (q_ls (p_gd (c_r σ 0) n z P M) s).length + 1 := hi
              rw [e, am_u_k (by decide)]
              by_cases c : i = (q_ls (p_gd (c_r σ 0) n z P M) s).length
              · rw [c, am_u_s]
                simp [List.getD]
              · rw [am_u_j c, f5 i (by omega)]
                simp only [List.getD]
                rw [List.getElem?_append_left (by omega)]
          · refine b_ga109 hX (nI z) (nI P) (nI M) l 0 s ⟨fun _ => skip ?_ l, fun q => absurd rfl q⟩
            unfold p_gd
            simp [d]
        · unfold p_gd
          simp [b]
      refine b_ga54 hX (nI z) (nI P) (nI M) s ?_
      rw [f3, q_dfz (by omega), q_dfz (by omega)]
      exact ⟨fun q => absurd q (nI_ge hs (by omega)), fun _ => ⟨fun a => ⟨fun b => test 1 (fun q => absurd q (by decide)) (fun _ => ⟨a, b⟩), fun b => test 0 (fun _ q => b q.2) (fun q => absurd rfl q)⟩, fun a => test 0 (fun _ q => a q.1) (fun q => absurd rfl q)⟩⟩
    · refine b_ga54 hX (nI z) (nI P) (nI M) (2 ^ n) ⟨fun _ => h τ ⟨f1, f4, f5, f3⟩, fun q => absurd ?_ q⟩
      rw [f3]
      exact nI_le (Nat.le_refl _) (by omega)
  -- the first
  refine q_dn (W := fun i => ∀ τ : am_M, (∀ k, k ≠ 8 → τ k = σ k) → (∀ p, p < i → τ 8 0 p = nI (p_riv (c_r σ 0) n (c_r σ 0 p) (nI p))) → X 3 [some (.inr (.inr (7, 0))), some (.inr (.inr (3, 0))), some (.inl (nI z)), some (.inl (nI P)), some (.inl (nI M)), some (.inl (nI i)), none] [] τ) (n := n) (fun i hi ih τ f1 f2 => ?_) (fun τ f1 f2 => ?_) 0 (Nat.zero_le _) σ (fun _ _ => rfl) (fun p hp => absurd hp (Nat.not_lt_zero p))
  · refine b_ga3 hX (nI z) (nI P) (nI M) i ?_
    have ho' : c_ok τ 0 := by
      unfold c_ok
      rw [f1 3 (by decide)]
      exact ho
    have er : c_riv τ 0 (τ 5 (9 * 0 + i)) (nI i) = p_riv (c_r σ 0) n (c_r σ 0 i) (nI i) := by
      unfold c_riv p_riv c_n
      rw [f1 3 (by decide), f1 5 (by decide), ← hN]
      rfl
    rw [nI_clamp (by omega), er, f1 3 (by decide), hn, show nI i + (1 : Int32) = nI (i + 1) from nI_1 i]
    refine ⟨fun q => absurd q (nI_ge hi (by omega)), fun _ => ⟨q_in (by omega) (by decide), ho', q_in (by omega) (by decide), ih _ (fun k k8 => by rw [am_u_k k8, f1 k k8]) (fun p hp => ?_)⟩⟩
    by_cases c : p = i
    · rw [c, am_u_s]
    · rw [am_u_j c, f2 p (by omega)]
  · refine b_ga3 hX (nI z) (nI P) (nI M) n ?_
    rw [f1 3 (by decide), hn, q_one n (by omega)]
    refine ⟨fun _ => l2 0 (Nat.zero_le _) _ (fun k k7 k8 k9 => by rw [am_u_k k7, am_u_k k7, f1 k k8]) (fun p hp => f2 p hp) rfl rfl (fun i hi => absurd hi (Nat.not_lt_zero i)), fun q => absurd (nI_le (Nat.le_refl _) (by omega)) q⟩
