/-! packing, walked: the class -/
theorem us_max {σ : am_M} {x y : Int32} {K : am_K} (h : K (some (.inl (if x < y then y else x))) σ) : s_max [.inl x, .inl y] σ K := h
theorem q_ls_get {P : Nat → Bool} {n S : Nat} (hS : S < n) (h : P S = true) : ∃ i, i < (q_ls P n).length ∧ (q_ls P n).getD i 0 = S := by
  obtain ⟨i, hi, e⟩ := List.getElem_of_mem (q_ls_mem.mpr ⟨hS, h⟩)
  exact ⟨i, hi, by rw [List.getD, List.getElem?_eq_getElem hi, Option.getD_some, e]⟩
theorem q_ls_at {P : Nat → Bool} {n i : Nat} (hi : i < (q_ls P n).length) : (q_ls P n).getD i 0 < n ∧ P ((q_ls P n).getD i 0) = true := by
  have h : (q_ls P n).getD i 0 ∈ q_ls P n := by
    rw [List.getD, List.getElem?_eq_getElem hi]
    exact List.getElem_mem hi
  exact q_ls_mem.mp h
theorem q_ls_lt {P : Nat → Bool} : ∀ {n i j : Nat}, i < j → j < (q_ls P n).length → (q_ls P n).getD i 0 < (q_ls P n).getD j 0
  | 0, i, j, _, hj => absurd hj (Nat.not_lt_zero j)
  | n + 1, i, j, hij, hj => by
    by_cases h : P n = true
    · rw [q_ls_yes h] at hj ⊢
      rw [List.length_append] at hj
      have hj' : j < (q_ls P n).length + 1 := hj
      have ei : (q_ls P n ++ [n]).getD i 0 = (q_ls P n).getD i 0 := by
        simp only [List.getD]
        rw [List.getElem?_append_left (by omega)]
      rw [ei]
      by_cases c : j = (q_ls P n).length
      · have ej : (q_ls P n ++ [n]).getD j 0 = n := by
          rw [c]
          simp [List.getD]
        rw [ej]
        exact (q_ls_at (by omega)).1
      · have ej : (q_ls P n ++ [n]).getD j 0 = (q_ls P n).getD j 0 := by
          simp only [List.getD]
          rw [List.getElem?_append_left (by omega)]
        rw [ej]
        exact q_ls_lt hij (by omega)
    · rw [q_ls_no h] at hj ⊢
      exact q_ls_lt hij hj
theorem q_top_bit : ∀ S, S < 512 → 0 < S → S.testBit (q_top S) = true ∧ S < 2 ^ (q_top S + 1) ∧ q_top S < 9 := by decide +kernel
theorem q_top_mono : ∀ S, S < 511 → q_top S ≤ q_top (S + 1) := by decide +kernel
theorem q_bit_le {S i : Nat} (h : S.testBit i = true) : 2 ^ i ≤ S := Nat.ge_two_pow_of_testBit h
theorem q_bit_top {S i : Nat} (h1 : 2 ^ i ≤ S) (h2 : S < 2 ^ (i + 1)) : S.testBit i = true := by
  rw [Nat.testBit_eq_decide_div_mod_eq]
  have e : S / 2 ^ i = 1 := by
    rw [Nat.pow_succ] at h2
    exact Nat.div_eq_of_lt_le (by omega) (by omega)
  rw [e]
  rfl
theorem q_max (v w : Nat) (hv : v < 2 ^ 31) (hw : w < 2 ^ 31) : (if nI v < nI w then nI w else nI v) = nI (if v < w then w else v) := by
  by_cases h : v < w
  · rw [if_pos h, if_pos ((nI_ltI hv hw).mpr h)]
  · rw [if_neg h, if_neg (fun q => h ((nI_ltI hv hw).mp q))]
set_option maxRecDepth 100000 in
set_option maxHeartbeats 400000 in
theorem b_pk0 {K : Option am_V → am_M → Prop} {X : Nat → am_L → List am_V → am_M → Prop} (hX : am_cl eX3_pack lX3_pack none K X) {σ : am_M}  (h : X 11 [some (.inr (.inr (7, 0))), some (.inl (0 : Int32)), some (.inl (1 : Int32)), none, none, none] [] (am_u σ 10 0 0 (0 : Int32))) : X 0 [some (.inr (.inr (7, 0))), none, none, none, none, none] [] σ := am_run_ok emX3_pack hX [11] 400 (show (vp_in (0 : Int32) 512) ∧ (X 11 [some (.inr (.inr (7, 0))), some (.inl (0 : Int32)), some (.inl (1 : Int32)), none, none, none] [] (am_u σ 10 0 0 (0 : Int32))) from ⟨am_ci (by decide), h⟩)
set_option maxRecDepth 100000 in
set_option maxHeartbeats 400000 in
theorem b_pk11 {K : Option am_V → am_M → Prop} {X : Nat → am_L → List am_V → am_M → Prop} (hX : am_cl eX3_pack lX3_pack none K X) {σ : am_M} (fr p : Nat) (h : (((σ 7 0 4) ≤ (nI p)) → K none σ) ∧ (¬ ((σ 7 0 4) ≤ (nI p)) → X 24 [some (.inr (.inr (7, 0))), some (.inl (nI fr)), some (.inl (nI p)), some (.inl (f_hb (nI p))), none, none] [] σ)) : X 11 [some (.inr (.inr (7, 0))), some (.inl (nI fr)), some (.inl (nI p)), none, none, none] [] σ := am_run_ok emX3_pack hX [24] 400 (show (((σ 7 0 4) ≤ (nI p)) → K none σ) ∧ (¬ ((σ 7 0 4) ≤ (nI p)) → 1 ≤ 1 ∧ 0 ≤ 8 ∧ sJ6_highestOneBit [.inl (nI p)] σ (fun vv tt => am_run eX3_pack lX3_pack none K X [24] 394 23 [some (.inr (.inr (7, 0))), some (.inl (nI fr)), some (.inl (nI p)), none, none, none] (vv.toList ++ []) tt)) from ⟨fun q0 => (h.1 q0), fun q0 => ⟨am_le rfl, am_le rfl, uJ6_highestOneBit ((show X 24 [some (.inr (.inr (7, 0))), some (.inl (nI fr)), some (.inl (nI p)), some (.inl (f_hb (nI p))), none, none] [] σ from (h.2 q0)))⟩⟩)
set_option maxRecDepth 100000 in
set_option maxHeartbeats 400000 in
theorem b_pk24 {K : Option am_V → am_M → Prop} {X : Nat → am_L → List am_V → am_M → Prop} (hX : am_cl eX3_pack lX3_pack none K X) {σ : am_M} (fr p t : Nat) (h : (((σ 7 0 3) ≤ (nI fr)) → X 48 [some (.inr (.inr (7, 0))), some (.inl (nI fr)), some (.inl (nI p)), some (.inl (nI t)), none, none] [] σ) ∧ (¬ ((σ 7 0 3) ≤ (nI fr)) → (vp_in (nI fr) 126) ∧ ((((nI t) ≤ (σ 9 0 (nI fr).toNatClampNeg)) → X 48 [some (.inr (.inr (7, 0))), some (.inl (nI fr)), some (.inl (nI p)), some (.inl (nI t)), none, none] [] σ) ∧ (¬ ((nI t) ≤ (σ 9 0 (nI fr).toNatClampNeg)) → X 24 [some (.inr (.inr (7, 0))), some (.inl ((nI fr) + (1 : Int32))), some (.inl (nI p)), some (.inl (nI t)), none, none] [] σ)))) : X 24 [some (.inr (.inr (7, 0))), some (.inl (nI fr)), some (.inl (nI p)), some (.inl (nI t)), none, none] [] σ := am_run_ok emX3_pack hX [24, 48] 400 (show (((σ 7 0 3) ≤ (nI fr)) → X 48 [some (.inr (.inr (7, 0))), some (.inl (nI fr)), some (.inl (nI p)), some (.inl (nI t)), none, none] [] σ) ∧ (¬ ((σ 7 0 3) ≤ (nI fr)) → (vp_in (nI fr) 126) ∧ ((((nI t) ≤ (σ 9 0 (nI fr).toNatClampNeg)) → X 48 [some (.inr (.inr (7, 0))), some (.inl (nI fr)), some (.inl (nI p)), some (.inl (nI t)), none, none] [] σ) ∧ (¬ ((nI t) ≤ (σ 9 0 (nI fr).toNatClampNeg)) → X 24 [some (.inr (.inr (7, 0))), some (.inl ((nI fr) + (1 : Int32))), some (.inl (nI p)), some (.inl (nI t)), none, none] [] σ))) from ⟨fun q0 => (h.1 q0), fun q0 => ⟨(h.2 q0).1, ⟨fun q1 => ((h.2 q0).2.1 q1), fun q1 => ((h.2 q0).2.2 q1)⟩⟩⟩)
set_option maxRecDepth 100000 in
set_option maxHeartbeats 400000 in
theorem b_pk48 {K : Option am_V → am_M → Prop} {X : Nat → am_L → List am_V → am_M → Prop} (hX : am_cl eX3_pack lX3_pack none K X) {σ : am_M} (fr p t : Nat) (h : (vp_in ((nI p) &&& ((nI t) ^^^ (-1 : Int32))) 512) ∧ (X 63 [some (.inr (.inr (7, 0))), some (.inl (nI fr)), some (.inl (nI p)), some (.inl (nI t)), some (.inl (σ 10 0 ((nI p) &&& ((nI t) ^^^ (-1 : Int32))).toNatClampNeg)), some (.inl (nI fr))] [] σ)) : X 48 [some (.inr (.inr (7, 0))), some (.inl (nI fr)), some (.inl (nI p)), some (.inl (nI t)), none, none] [] σ := am_run_ok emX3_pack hX [63] 400 (show (vp_in ((nI p) &&& ((nI t) ^^^ (-1 : Int32))) 512) ∧ (X 63 [some (.inr (.inr (7, 0))), some (.inl (nI fr)), some (.inl (nI p)), some (.inl (nI t)), some (.inl (σ 10 0 ((nI p) &&& ((nI t) ^^^ (-1 : Int32))).toNatClampNeg)), some (.inl (nI fr))] [] σ) from ⟨h.1, h.2⟩)
set_option maxRecDepth 100000 in
set_option maxHeartbeats 400000 in
theorem b_pk63 {K : Option am_V → am_M → Prop} {X : Nat → am_L → List am_V → am_M → Prop} (hX : am_cl eX3_pack lX3_pack none K X) {σ : am_M} (fr p t v i : Nat) (h : (((σ 7 0 3) ≤ (nI i)) → X 128 [some (.inr (.inr (7, 0))), some (.inl (nI fr)), some (.inl (nI p)), some (.inl (nI t)), some (.inl (nI v)), some (.inl (nI i))] [] σ) ∧ (¬ ((σ 7 0 3) ≤ (nI i)) → (vp_in (nI i) 126) ∧ ((((nI p) < (σ 9 0 (nI i).toNatClampNeg)) → X 128 [some (.inr (.inr (7, 0))), some (.inl (nI fr)), some (.inl (nI p)), some (.inl (nI t)), some (.inl (nI v)), some (.inl (nI i))] [] σ) ∧ (¬ ((nI p) < (σ 9 0 (nI i).toNatClampNeg)) → (vp_in (nI i) 126) ∧ (((((σ 9 0 (nI i).toNatClampNeg) &&& ((nI p) ^^^ (-1 : Int32))) = (0 : Int32)) → (vp_in (nI i) 126) ∧ ((vp_in ((nI p) &&& ((σ 9 0 (nI i).toNatClampNeg) ^^^ (-1 : Int32))) 512) ∧ (X 63 [some (.inr (.inr (7, 0))), some (.inl (nI fr)), some (.inl (nI p)), some (.inl (nI t)), some (.inl (if (nI v) < ((1 : Int32) + (σ 10 0 ((nI p) &&& ((σ 9 0 (nI i).toNatClampNeg) ^^^ (-1 : Int32))).toNatClampNeg)) then ((1 : Int32) + (σ 10 0 ((nI p) &&& ((σ 9 0 (nI i).toNatClampNeg) ^^^ (-1 : Int32))).toNatClampNeg)) else (nI v))), some (.inl ((nI i) + (1 : Int32)))] [] σ))) ∧ (¬ (((σ 9 0 (nI i).toNatClampNeg) &&& ((nI p) ^^^ (-1 : Int32))) = (0 : Int32)) → X 63 [some (.inr (.inr (7, 0))), some (.inl (nI fr)), some (.inl (nI p)), some (.inl (nI t)), some (.inl (nI v)), some (.inl ((nI i) + (1 : Int32)))] [] σ)))))) : X 63 [some (.inr (.inr (7, 0))), some (.inl (nI fr)), some (.inl (nI p)), some (.inl (nI t)), some (.inl (nI v)), some (.inl (nI i))] [] σ := am_run_ok emX3_pack hX [63, 128] 400 (show (((σ 7 0 3) ≤ (nI i)) → X 128 [some (.inr (.inr (7, 0))), some (.inl (nI fr)), some (.inl (nI p)), some (.inl (nI t)), some (.inl (nI v)), some (.inl (nI i))] [] σ) ∧ (¬ ((σ 7 0 3) ≤ (nI i)) → (vp_in (nI i) 126) ∧ ((((nI p) < (σ 9 0 (nI i).toNatClampNeg)) → X 128 [some (.inr (.inr (7, 0))), some (.inl (nI fr)), some (.inl (nI p)), some (.inl (nI t)), some (.inl (nI v)), some (.inl (nI i))] [] σ) ∧ (¬ ((nI p) < (σ 9 0 (nI i).toNatClampNeg)) → (vp_in (nI i) 126) ∧ (((((σ 9 0 (nI i).toNatClampNeg) &&& ((nI p) ^^^ (-1 : Int32))) = (0 : Int32)) → (vp_in (nI i) 126) ∧ ((vp_in ((nI p) &&& ((σ 9 0 (nI i).toNatClampNeg) ^^^ (-1 : Int32))) 512) ∧ (2 ≤ 2 ∧ 0 ≤ 8 ∧ s_max [.inl (nI v), .inl ((1 : Int32) + (σ 10 0 ((nI p) &&& ((σ 9 0 (nI i).toNatClampNeg) ^^^ (-1 : Int32))).toNatClampNeg))] σ (fun vv tt => am_run eX3_pack lX3_pack none K X [63, 128] 366 120 [some (.inr (.inr (7, 0))), some (.inl (nI fr)), some (.inl (nI p)), some (.inl (nI t)), some (.inl (nI v)), some (.inl (nI i))] (vv.toList ++ []) tt)))) ∧ (¬ (((σ 9 0 (nI i).toNatClampNeg) &&& ((nI p) ^^^ (-1 : Int32))) = (0 : Int32)) → X 63 [some (.inr (.inr (7, 0))), some (.inl (nI fr)), some (.inl (nI p)), some (.inl (nI t)), some (.inl (nI v)), some (.inl ((nI i) + (1 : Int32)))] [] σ))))) from ⟨fun q0 => (h.1 q0), fun q0 => ⟨(h.2 q0).1, ⟨fun q1 => ((h.2 q0).2.1 q1), fun q1 => ⟨((h.2 q0).2.2 q1).1, ⟨fun q2 => ⟨(((h.2 q0).2.2 q1).2.1 q2).1, ⟨(((h.2 q0).2.2 q1).2.1 q2).2.1, ⟨am_le rfl, am_le rfl, us_max ((show X 63 [some (.inr (.inr (7, 0))), some (.inl (nI fr)), some (.inl (nI p)), some (.inl (nI t)), some (.inl (if (nI v) < ((1 : Int32) + (σ 10 0 ((nI p) &&& ((σ 9 0 (nI i).toNatClampNeg) ^^^ (-1 : Int32))).toNatClampNeg)) then ((1 : Int32) + (σ 10 0 ((nI p) &&& ((σ 9 0 (nI i).toNatClampNeg) ^^^ (-1 : Int32))).toNatClampNeg)) else (nI v))), some (.inl ((nI i) + (1 : Int32)))] [] σ from (((h.2 q0).2.2 q1).2.1 q2).2.2))⟩⟩⟩, fun q2 => (((h.2 q0).2.2 q1).2.2 q2)⟩⟩⟩⟩⟩)
set_option maxRecDepth 100000 in
set_option maxHeartbeats 400000 in
theorem b_pk128 {K : Option am_V → am_M → Prop} {X : Nat → am_L → List am_V → am_M → Prop} (hX : am_cl eX3_pack lX3_pack none K X) {σ : am_M} (fr p v : Nat) (h : (vp_in (nI p) 512) ∧ (X 11 [some (.inr (.inr (7, 0))), some (.inl (nI fr)), some (.inl ((nI p) + (1 : Int32))), none, some (.inl (nI v)), none] [] (am_u σ 10 0 (nI p).toNatClampNeg (nI v)))) : X 128 [some (.inr (.inr (7, 0))), some (.inl (nI fr)), some (.inl (nI p)), none, some (.inl (nI v)), none] [] σ := am_run_ok emX3_pack hX [11] 400 (show (vp_in (nI p) 512) ∧ (X 11 [some (.inr (.inr (7, 0))), some (.inl (nI fr)), some (.inl ((nI p) + (1 : Int32))), none, some (.inl (nI v)), none] [] (am_u σ 10 0 (nI p).toNatClampNeg (nI v))) from ⟨h.1, h.2⟩)
set_option maxHeartbeats 2000000 in
theorem tX3_pack {σ : am_M} {P : Nat → Bool} {n : Nat} {K : am_K} (h9 : n ≤ 9) (hP0 : P 0 = false) (hL : s_has σ (q_ls P (2 ^ n))) (hN : σ 7 0 4 = nI (2 ^ n)) (h : ∀ τ : am_M, (∀ k, k ≠ 10 → τ k = σ k) → (∀ Q, Q < 2 ^ n → ∃ v, mx P Q v ∧ τ 10 0 Q = nI v) → K none τ) : sX3_pack [.inr (.inr (7, 0))] σ K := by
  obtain ⟨e1, e2, e3⟩ := hL
  have hs := fun i (hi : i < (q_ls P (2 ^ n)).length) => q_ls_at hi
  have hlt := fun i j (hij : i < j) (hj : j < (q_ls P (2 ^ n)).length) => q_ls_lt (P := P) (n := 2 ^ n) hij hj
  have hget := fun S (hS : S < 2 ^ n) (hp : P S = true) => q_ls_get hS hp
  generalize q_ls P (2 ^ n) = L at e1 e2 e3 hs hlt hget
  have h2 : 2 ^ n ≤ 512 := Nat.pow_le_pow_right (n := 2) (by decide) h9
  have h1 : 1 ≤ 2 ^ n := Nat.one_le_two_pow
  refine ⟨am_le rfl, fun X hX => b_pk0 hX ?_⟩
  have main : ∀ p, p ≤ 2 ^ n → ∀ (fr : Nat) (τ : am_M), 1 ≤ p → (∀ k, k ≠ 10 → τ k = σ k) → (∀ Q, Q < p → ∃ v, mx P Q v ∧ τ 10 0 Q = nI v) → fr ≤ L.length → (∀ i, i < fr → ∀ q, p ≤ q → q < 2 ^ n → L.getD i 0 < 2 ^ q_top q) → X 11 [some (.inr (.inr (7, 0))), some (.inl (nI fr)), some (.inl (nI p)), none, none, none] [] τ := by
    refine q_dn (fun p hp ih fr τ hp1 f1 f2 hfr f3 => ?_) (fun fr τ hp1 f1 f2 hfr f3 => ?_)
    · obtain ⟨tb, tl, t9⟩ := q_top_bit p (by omega) hp1
      have ht : 2 ^ q_top p ≤ p := q_bit_le tb
      have g3 : τ 7 0 3 = nI L.length := by rw [f1 7 (by decide), e1]
      have g4 : τ 7 0 4 = nI (2 ^ n) := by rw [f1 7 (by decide), hN]
      have g9 : ∀ i, i < L.length → τ 9 0 i = nI (L.getD i 0) := fun i hi => by rw [f1 9 (by decide), e3 i hi]
      refine b_pk11 hX fr p ?_
      rw [g4, f_hb_ok p (by omega) hp1]
      refine ⟨fun q => absurd q (nI_ge hp (by omega)), fun _ => ?_⟩
      -- the skipping
      have skip : ∀ fr, fr ≤ L.length → (∀ i, i < fr → L.getD i 0 < 2 ^ q_top p) → X 24 [some (.inr (.inr (7, 0))), some (.inl (nI fr)), some (.inl (nI p)), some (.inl (nI (2 ^ q_top p))), none, none] [] τ := by
        have body : ∀ fr, fr ≤ L.length → (∀ i, i < fr → L.getD i 0 < 2 ^ q_top p) → (∀ i, fr ≤ i → i < L.length → 2 ^ q_top p ≤ L.getD i 0) → X 48 [some (.inr (.inr (7, 0))), some (.inl (nI fr)), some (.inl (nI p)), some (.inl (nI (2 ^ q_top p))), none, none] [] τ := by
          intro fr hfr hlo hhi
          refine b_pk48 hX fr p (2 ^ q_top p) ?_
          have hq0 : q_df p (2 ^ q_top p) < p := q_df_lt tb (by rw [Nat.testBit_two_pow]; simp)
          obtain ⟨v0, m0, w0⟩ := f2 _ hq0
          rw [q_dfI, nI_clamp (by omega), w0]
          refine ⟨q_in (by omega) (by decide), ?_⟩
          have hv0 := mx_le hP0 m0
          -- the inner loop
          have fin : ∀ v i, v ≤ 1000 → v0 ≤ v → (∀ j, fr ≤ j → j < i → q_df (L.getD j 0) p = 0 → ∃ w, mx P (q_df p (L.getD j 0)) w ∧ w + 1 ≤ v) → (v = v0 ∨ ∃ S w, P S = true ∧ q_df S p = 0 ∧ mx P (q_df p S) w ∧ v = w + 1) → (i = L.length ∨ (i < L.length ∧ p < L.getD i 0)) → X 128 [some (.inr (.inr (7, 0))), some (.inl (nI fr)), some (.inl (nI p)), some (.inl (nI (2 ^ q_top p))), some (.inl (nI v)), some (.inl (nI i))] [] τ := by
            intro v i hv1 hv0v hall hat hend
            have hm : mx P p v := by
              refine mx_step tb m0 hv0v (fun S hg hsub hb => ?_) hat
              obtain ⟨j, hj, ej⟩ := hget S (Nat.lt_of_le_of_lt (q_sub_le hsub) hp) hg
              have hSt : 2 ^ q_top p ≤ S := q_bit_le hb
              have hfj : fr ≤ j := by
                rcases Nat.lt_or_ge j fr with q | q
                · have := hlo j q
                  omega
                · exact q
              have hji : j < i := by
                rcases hend with q | ⟨q1, q2⟩
                · omega
                · rcases Nat.lt_or_ge j i with q | q
                  · exact q
                  · have hSp := q_sub_le hsub
                    by_cases c : j = i
                    · rw [← c, ej] at q2
                      omega
                    · have := hlt i j (by omega) hj
                      omega
              have := hall j hfj hji (by rw [ej]; exact hsub)
              rw [ej] at this
              exact this
            refine am_fo hX (ls := [some (.inr (.inr (7, 0))), some (.inl (nI fr)), some (.inl (nI p)), none, some (.inl (nI v)), none]) ⟨rfl, rfl, rfl, rfl, trivial⟩ (b_pk128 hX fr p v ?_)
            rw [nI_clamp (by omega), show nI p + (1 : Int32) = nI (p + 1) from nI_1 p]
            refine ⟨q_in (by omega) (by decide), am_fo hX (ls := [some (.inr (.inr (7, 0))), some (.inl (nI fr)), some (.inl (nI (p + 1))), none, none, none]) ⟨rfl, rfl, rfl, trivial⟩ (ih fr _ (by omega) (fun k hk => by rw [am_u_k hk, f1 k hk]) (fun Q hQ => ?_) hfr (fun i' hi' q hq hqn => ?_))⟩
            · by_cases c : Q = p
              · rw [c]
                exact ⟨v, hm, am_u_s⟩
              · rw [am_u_j c]
                exact f2 Q (by omega)
            · have h3 := hlo i' hi'
              have hmono : ∀ d, p + d < 512 → q_top p ≤ q_top (p + d) := by
                intro d
                induction d with
                | zero => intro _; exact Nat.le_refl _
                | succ d ihd =>
                  intro hd
                  exact Nat.le_trans (ihd (by omega)) (q_top_mono (p + d) (by omega))
              have := hmono (q - p) (by omega)
              rw [show p + (q - p) = q by omega] at this
              exact Nat.lt_of_lt_of_le h3 (Nat.pow_le_pow_right (by decide) this)
          have loop : ∀ i, i ≤ L.length → ∀ v, v ≤ 512 → v0 ≤ v → fr ≤ i → (∀ j, fr ≤ j → j < i → q_df (L.getD j 0) p = 0 → ∃ w, mx P (q_df p (L.getD j 0)) w ∧ w + 1 ≤ v) → (v = v0 ∨ ∃ S w, P S = true ∧ q_df S p = 0 ∧ mx P (q_df p S) w ∧ v = w + 1) → X 63 [some (.inr (.inr (7, 0))), some (.inl (nI fr)), some (.inl (nI p)), some (.inl (nI (2 ^ q_top p))), some (.inl (nI v)), some (.inl (nI i))] [] τ := by
            refine q_dn (fun i hi ih2 v hv hv0v hfi hall hat => ?_) (fun v hv hv0v hfi hall hat => ?_)
            · have hSi := (hs i hi).1
              refine b_pk63 hX fr p (2 ^ q_top p) v i ?_
              rw [g3, nI_clamp (by omega), g9 i hi, q_dfz (by omega), q_dfI, show nI i + (1 : Int32) = nI (i + 1) from nI_1 i]
              have vi : vp_in (nI i) 126 := q_in (by omega) (by decide)
              refine ⟨fun q => absurd q (nI_ge hi (by omega)), fun _ => ⟨vi, fun a => fin v i (by omega) hv0v hall hat (Or.inr ⟨hi, (nI_ltI (by omega) (by omega)).mp a⟩), fun a => ⟨vi, fun b => ?_, fun b => ?_⟩⟩⟩
              · have hne : L.getD i 0 ≠ 0 := fun e => by
                  have := (hs i hi).2
                  rw [e, hP0] at this
                  cases this
                obtain ⟨bt, hbt⟩ := q_bit_of hne
                have hlt2 : q_df p (L.getD i 0) < p := q_df_lt (q_sub_bit b hbt) hbt
                obtain ⟨w, mw, ww⟩ := f2 _ hlt2
                have hwl := mx_le hP0 mw
                rw [nI_clamp (by omega), ww, show (1 : Int32) + nI w = nI (1 + w) from nI_add 1 w, q_max v (1 + w) (by omega) (by omega)]
                refine ⟨vi, q_in (by omega) (by decide), ih2 _ (by split <;> omega) (by split <;> omega) (by omega) (fun j hj1 hj2 hj3 => ?_) ?_⟩
                · by_cases c : j = i
                  · rw [c]
                    exact ⟨w, mw, by split <;> omega⟩
                  · obtain ⟨w', m', l'⟩ := hall j hj1 (by omega) hj3
                    exact ⟨w', m', by split <;> omega⟩
                · by_cases c : v < 1 + w
                  · rw [if_pos c]
                    exact Or.inr ⟨_, w, (hs i hi).2, b, mw, by omega⟩
                  · rw [if_neg c]
                    exact hat
              · refine ih2 v hv hv0v (by omega) (fun j hj1 hj2 hj3 => ?_) hat
                by_cases c : j = i
                · rw [c] at hj3
                  exact absurd hj3 b
                · exact hall j hj1 (by omega) hj3
            · refine b_pk63 hX fr p (2 ^ q_top p) v L.length ⟨fun _ => fin v L.length (by omega) hv0v hall hat (Or.inl rfl), fun q => absurd ?_ q⟩
              rw [g3]
              exact nI_le (Nat.le_refl _) (by omega)
          exact loop fr hfr v0 (by omega) (Nat.le_refl _) (Nat.le_refl _) (fun j h3 h4 => absurd h4 (by omega)) (Or.inl rfl)
        refine q_dn (fun fr hfr ihf hlo => ?_) (fun hlo => ?_)
        · have hSi := (hs fr hfr).1
          refine b_pk24 hX fr p (2 ^ q_top p) ?_
          rw [g3, nI_clamp (by omega), g9 fr hfr, show nI fr + (1 : Int32) = nI (fr + 1) from nI_1 fr]
          have ht5 : 2 ^ q_top p < 2 ^ 31 := by omega
          refine ⟨fun q => absurd q (nI_ge hfr (by omega)), fun _ => ⟨q_in (by omega) (by decide), fun a => ?_, fun a => ihf (fun i hi => ?_)⟩⟩
          · rw [nI_leI ht5 (by omega)] at a
            refine body fr (by omega) hlo (fun i hi1 hi2 => ?_)
            by_cases c : i = fr
            · rw [c]
              exact a
            · have := hlt fr i (by omega) hi2
              omega
          · rw [nI_leI ht5 (by omega)] at a
            by_cases c : i = fr
            · rw [c]
              omega
            · exact hlo i (by omega)
        · refine b_pk24 hX L.length p (2 ^ q_top p) ⟨fun _ => body L.length (Nat.le_refl _) hlo (fun i h3 h4 => absurd h4 (by omega)), fun q => absurd ?_ q⟩
          rw [g3]
          exact nI_le (Nat.le_refl _) (by omega)
      exact skip fr hfr (fun i hi => f3 i hi p (Nat.le_refl _) hp)
    · refine b_pk11 hX fr (2 ^ n) ⟨fun _ => h τ f1 f2, fun q => absurd ?_ q⟩
      rw [f1 7 (by decide), hN]
      exact nI_le (Nat.le_refl _) (by omega)
  refine main 1 h1 0 _ (Nat.le_refl _) (fun k hk => am_u_k hk) (fun Q hQ => ?_) (Nat.zero_le _) (fun i hi => absurd hi (Nat.not_lt_zero i))
  rw [show Q = 0 by omega]
  exact ⟨0, mx_0 hP0, am_u_s⟩
