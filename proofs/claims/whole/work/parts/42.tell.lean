/-! what is told of the sets: the class -/
/-- the memory holds these sets -/
def s_has (τ : am_M) (L : List Nat) : Prop := τ 7 0 3 = nI L.length ∧ L.length ≤ 126 ∧ ∀ i, i < L.length → τ 9 0 i = nI (L.getD i 0)
def q_any (L : List Nat) : Nat := L.foldl (fun a b => a ||| b) 0
def q_all (L : List Nat) : Nat := L.foldl (fun a b => a &&& b) 511
def a_tell (L : List Nat) (w : Int32) (f : Nat) : Int32 := if w = 0 then nI L.length else if L.length = 0 then -4 else if w = 1 then nI (L.getD 0 0) else if w = 2 then nI (q_all L) else nI (q_df f (q_any L))
theorem q_take {L : List Nat} {i : Nat} (h : i < L.length) : L.take (i + 1) = L.take i ++ [L.getD i 0] := by
  rw [List.take_succ, List.getD]
  rw [List.getElem?_eq_getElem h]
  rfl
theorem q_any_s {L : List Nat} {i : Nat} (h : i < L.length) : q_any (L.take (i + 1)) = q_any (L.take i) ||| L.getD i 0 := by
  unfold q_any
  rw [q_take h, List.foldl_append]
  rfl
theorem q_all_s {L : List Nat} {i : Nat} (h : i < L.length) : q_all (L.take (i + 1)) = q_all (L.take i) &&& L.getD i 0 := by
  unfold q_all
  rw [q_take h, List.foldl_append]
  rfl
set_option maxRecDepth 100000 in
set_option maxHeartbeats 400000 in
theorem b_ho0 {K : Option am_V → am_M → Prop} {X : Nat → am_L → List am_V → am_M → Prop} (hX : am_cl eX3_hasOneWithin lX3_hasOneWithin (some .boolean) K X) {σ : am_M} (P : Int32) (h : X 2 [some (.inr (.inr (7, 0))), some (.inl P), some (.inl (0 : Int32))] [] σ) : X 0 [some (.inr (.inr (7, 0))), some (.inl P), none] [] σ := am_run_ok emX3_hasOneWithin hX [2] 400 (show X 2 [some (.inr (.inr (7, 0))), some (.inl P), some (.inl (0 : Int32))] [] σ from h)
set_option maxRecDepth 100000 in
set_option maxHeartbeats 400000 in
theorem b_ho2 {K : Option am_V → am_M → Prop} {X : Nat → am_L → List am_V → am_M → Prop} (hX : am_cl eX3_hasOneWithin lX3_hasOneWithin (some .boolean) K X) {σ : am_M} (P : Int32) (i : Nat) (h : (((σ 7 0 3) ≤ (nI i)) → K (some (.inl (0 : Int32))) σ) ∧ (¬ ((σ 7 0 3) ≤ (nI i)) → (vp_in (nI i) 126) ∧ (((((σ 9 0 (nI i).toNatClampNeg) &&& (P ^^^ (-1 : Int32))) = (0 : Int32)) → K (some (.inl (1 : Int32))) σ) ∧ (¬ (((σ 9 0 (nI i).toNatClampNeg) &&& (P ^^^ (-1 : Int32))) = (0 : Int32)) → X 2 [some (.inr (.inr (7, 0))), some (.inl P), some (.inl ((nI i) + (1 : Int32)))] [] σ)))) : X 2 [some (.inr (.inr (7, 0))), some (.inl P), some (.inl (nI i))] [] σ := am_run_ok emX3_hasOneWithin hX [2] 400 (show (((σ 7 0 3) ≤ (nI i)) → (narrow .boolean (.int (0 : Int32)) = .int (0 : Int32)) ∧ (K (some (.inl (0 : Int32))) σ)) ∧ (¬ ((σ 7 0 3) ≤ (nI i)) → (vp_in (nI i) 126) ∧ (((((σ 9 0 (nI i).toNatClampNeg) &&& (P ^^^ (-1 : Int32))) = (0 : Int32)) → (narrow .boolean (.int (1 : Int32)) = .int (1 : Int32)) ∧ (K (some (.inl (1 : Int32))) σ)) ∧ (¬ (((σ 9 0 (nI i).toNatClampNeg) &&& (P ^^^ (-1 : Int32))) = (0 : Int32)) → X 2 [some (.inr (.inr (7, 0))), some (.inl P), some (.inl ((nI i) + (1 : Int32)))] [] σ))) from ⟨fun q0 => ⟨rfl, (h.1 q0)⟩, fun q0 => ⟨(h.2 q0).1, ⟨fun q1 => ⟨rfl, ((h.2 q0).2.1 q1)⟩, fun q1 => ((h.2 q0).2.2 q1)⟩⟩⟩)
set_option maxRecDepth 100000 in
set_option maxHeartbeats 400000 in
theorem b_il0 {K : Option am_V → am_M → Prop} {X : Nat → am_L → List am_V → am_M → Prop} (hX : am_cl eX3_inAll lX3_inAll (some .int) K X) {σ : am_M}  (h : X 6 [some (.inr (.inr (7, 0))), some (.inl (511 : Int32)), some (.inl (0 : Int32))] [] σ) : X 0 [some (.inr (.inr (7, 0))), none, none] [] σ := am_run_ok emX3_inAll hX [6] 400 (show X 6 [some (.inr (.inr (7, 0))), some (.inl (511 : Int32)), some (.inl (0 : Int32))] [] σ from h)
set_option maxRecDepth 100000 in
set_option maxHeartbeats 400000 in
theorem b_il6 {K : Option am_V → am_M → Prop} {X : Nat → am_L → List am_V → am_M → Prop} (hX : am_cl eX3_inAll lX3_inAll (some .int) K X) {σ : am_M} (x : Int32) (i : Nat) (h : (((σ 7 0 3) ≤ (nI i)) → K (some (.inl x)) σ) ∧ (¬ ((σ 7 0 3) ≤ (nI i)) → (vp_in (nI i) 126) ∧ (X 6 [some (.inr (.inr (7, 0))), some (.inl (x &&& (σ 9 0 (nI i).toNatClampNeg))), some (.inl ((nI i) + (1 : Int32)))] [] σ))) : X 6 [some (.inr (.inr (7, 0))), some (.inl x), some (.inl (nI i))] [] σ := am_run_ok emX3_inAll hX [6] 400 (show (((σ 7 0 3) ≤ (nI i)) → K (some (.inl x)) σ) ∧ (¬ ((σ 7 0 3) ≤ (nI i)) → (vp_in (nI i) 126) ∧ (X 6 [some (.inr (.inr (7, 0))), some (.inl (x &&& (σ 9 0 (nI i).toNatClampNeg))), some (.inl ((nI i) + (1 : Int32)))] [] σ)) from ⟨fun q0 => (h.1 q0), fun q0 => ⟨(h.2 q0).1, (h.2 q0).2⟩⟩)
set_option maxRecDepth 100000 in
set_option maxHeartbeats 400000 in
theorem b_iy0 {K : Option am_V → am_M → Prop} {X : Nat → am_L → List am_V → am_M → Prop} (hX : am_cl eX3_inAny lX3_inAny (some .int) K X) {σ : am_M}  (h : X 4 [some (.inr (.inr (7, 0))), some (.inl (0 : Int32)), some (.inl (0 : Int32))] [] σ) : X 0 [some (.inr (.inr (7, 0))), none, none] [] σ := am_run_ok emX3_inAny hX [4] 400 (show X 4 [some (.inr (.inr (7, 0))), some (.inl (0 : Int32)), some (.inl (0 : Int32))] [] σ from h)
set_option maxRecDepth 100000 in
set_option maxHeartbeats 400000 in
theorem b_iy4 {K : Option am_V → am_M → Prop} {X : Nat → am_L → List am_V → am_M → Prop} (hX : am_cl eX3_inAny lX3_inAny (some .int) K X) {σ : am_M} (x : Int32) (i : Nat) (h : (((σ 7 0 3) ≤ (nI i)) → K (some (.inl x)) σ) ∧ (¬ ((σ 7 0 3) ≤ (nI i)) → (vp_in (nI i) 126) ∧ (X 4 [some (.inr (.inr (7, 0))), some (.inl (x ||| (σ 9 0 (nI i).toNatClampNeg))), some (.inl ((nI i) + (1 : Int32)))] [] σ))) : X 4 [some (.inr (.inr (7, 0))), some (.inl x), some (.inl (nI i))] [] σ := am_run_ok emX3_inAny hX [4] 400 (show (((σ 7 0 3) ≤ (nI i)) → K (some (.inl x)) σ) ∧ (¬ ((σ 7 0 3) ≤ (nI i)) → (vp_in (nI i) 126) ∧ (X 4 [some (.inr (.inr (7, 0))), some (.inl (x ||| (σ 9 0 (nI i).toNatClampNeg))), some (.inl ((nI i) + (1 : Int32)))] [] σ)) from ⟨fun q0 => (h.1 q0), fun q0 => ⟨(h.2 q0).1, (h.2 q0).2⟩⟩)
def s_in (L : List Nat) (P : Int32) : Bool := L.any fun S => decide (nI S &&& (P ^^^ (-1 : Int32)) = 0)
theorem tX3_hasOneWithin {σ : am_M} {L : List Nat} {P : Int32} {K : am_K} (hL : s_has σ L) (h : ((s_in L P = true) → K (some (.inl (1 : Int32))) σ) ∧ (¬ (s_in L P = true) → K (some (.inl (0 : Int32))) σ)) : sX3_hasOneWithin [.inr (.inr (7, 0)), .inl P] σ K := by
  obtain ⟨e1, e2, e3⟩ := hL
  refine ⟨am_le rfl, fun X hX => b_ho0 hX P ?_⟩
  refine q_dn (W := fun i => (∀ j, j < i → ¬ nI (L.getD j 0) &&& (P ^^^ (-1 : Int32)) = 0) → X 2 [some (.inr (.inr (7, 0))), some (.inl P), some (.inl (nI i))] [] σ) (n := L.length) (fun i hi ih ha => ?_) (fun ha => ?_) 0 (Nat.zero_le _) (fun j hj => absurd hj (Nat.not_lt_zero j))
  · refine b_ho2 hX P i ?_
    rw [e1, nI_clamp (by omega), e3 i hi, show nI i + (1 : Int32) = nI (i + 1) from nI_1 i]
    refine ⟨fun q => absurd q (nI_ge hi (by omega)), fun _ => ⟨q_in (by omega) (by decide), fun a => h.1 ?_, fun a => ih (fun j hj => ?_)⟩⟩
    · apply List.any_eq_true.mpr
      refine ⟨L.getD i 0, ?_, decide_eq_true a⟩
      rw [List.getD, List.getElem?_eq_getElem hi]
      exact List.getElem_mem hi
    · by_cases c : j = i
      · rw [c]
        exact a
      · exact ha j (by omega)
  · refine b_ho2 hX P L.length ⟨fun _ => h.2 (fun q => ?_), fun q => absurd ?_ q⟩
    · obtain ⟨S, hS, hb⟩ := List.any_eq_true.mp q
      obtain ⟨j, hj, e⟩ := List.getElem_of_mem hS
      apply ha j hj
      rw [List.getD, List.getElem?_eq_getElem hj, Option.getD_some, e]
      exact of_decide_eq_true hb
    · rw [e1]
      exact nI_le (Nat.le_refl _) (by omega)
theorem tX3_inAll {σ : am_M} {L : List Nat} {K : am_K} (hL : s_has σ L) (h : K (some (.inl (nI (q_all L)))) σ) : sX3_inAll [.inr (.inr (7, 0))] σ K := by
  obtain ⟨e1, e2, e3⟩ := hL
  refine ⟨am_le rfl, fun X hX => b_il0 hX ?_⟩
  refine q_dn (W := fun i => X 6 [some (.inr (.inr (7, 0))), some (.inl (nI (q_all (L.take i)))), some (.inl (nI i))] [] σ) (n := L.length) (fun i hi ih => ?_) ?_ 0 (Nat.zero_le _)
  · refine b_il6 hX _ i ?_
    rw [e1, nI_clamp (by omega), e3 i hi, q_and, ← q_all_s hi, show nI i + (1 : Int32) = nI (i + 1) from nI_1 i]
    exact ⟨fun q => absurd q (nI_ge hi (by omega)), fun _ => ⟨q_in (by omega) (by decide), ih⟩⟩
  · refine b_il6 hX _ L.length ⟨fun _ => ?_, fun q => absurd ?_ q⟩
    · rw [List.take_length]
      exact h
    · rw [e1]
      exact nI_le (Nat.le_refl _) (by omega)
theorem tX3_inAny {σ : am_M} {L : List Nat} {K : am_K} (hL : s_has σ L) (h : K (some (.inl (nI (q_any L)))) σ) : sX3_inAny [.inr (.inr (7, 0))] σ K := by
  obtain ⟨e1, e2, e3⟩ := hL
  refine ⟨am_le rfl, fun X hX => b_iy0 hX ?_⟩
  refine q_dn (W := fun i => X 4 [some (.inr (.inr (7, 0))), some (.inl (nI (q_any (L.take i)))), some (.inl (nI i))] [] σ) (n := L.length) (fun i hi ih => ?_) ?_ 0 (Nat.zero_le _)
  · refine b_iy4 hX _ i ?_
    rw [e1, nI_clamp (by omega), e3 i hi, q_or, ← q_any_s hi, show nI i + (1 : Int32) = nI (i + 1) from nI_1 i]
    exact ⟨fun q => absurd q (nI_ge hi (by omega)), fun _ => ⟨q_in (by omega) (by decide), ih⟩⟩
  · refine b_iy4 hX _ L.length ⟨fun _ => ?_, fun q => absurd ?_ q⟩
    · rw [List.take_length]
      exact h
    · rw [e1]
      exact nI_le (Nat.le_refl _) (by omega)
set_option maxRecDepth 100000 in
set_option maxHeartbeats 400000 in
theorem b_ts0 {K : Option am_V → am_M → Prop} {X : Nat → am_L → List am_V → am_M → Prop} (hX : am_cl eX6_tellSets lX6_tellSets (some .int) K X) {σ : am_M} (w P : Int32) (h : ((w = (0 : Int32)) → K (some (.inl (σ 7 0 3))) σ) ∧ (¬ (w = (0 : Int32)) → (((σ 7 0 3) = (0 : Int32)) → K (some (.inl (-4 : Int32))) σ) ∧ (¬ ((σ 7 0 3) = (0 : Int32)) → (((w).toInt = 1) → K (some (.inl (σ 9 0 0))) σ) ∧ (¬ ((w).toInt = 1) → (((w).toInt = 2) → sX3_inAll [.inr (.inr (7, 0))] σ (fun vv tt => X 69 [some (.inr (.inr (0, 0))), some (.inl w), some (.inl P)] (vv.toList ++ []) tt)) ∧ (¬ ((w).toInt = 2) → sX3_inAny [.inr (.inr (7, 0))] σ (fun vv tt => X 78 [some (.inr (.inr (0, 0))), some (.inl w), some (.inl P)] (vv.toList ++ [.inl P]) tt)))))) : X 0 [some (.inr (.inr (0, 0))), some (.inl w), some (.inl P)] [] σ := am_run_ok emX6_tellSets hX [69, 78] 400 (show ((w = (0 : Int32)) → K (some (.inl (σ 7 0 3))) σ) ∧ (¬ (w = (0 : Int32)) → (((σ 7 0 3) = (0 : Int32)) → K (some (.inl (-4 : Int32))) σ) ∧ (¬ ((σ 7 0 3) = (0 : Int32)) → (_) ∧ ((((w).toInt = 1) → (vp_in (0 : Int32) 126) ∧ (K (some (.inl (σ 9 0 0))) σ)) ∧ (¬ ((w).toInt = 1) → (((w).toInt = 2) → 1 ≤ 1 ∧ 0 ≤ 8 ∧ True ∧ sX3_inAll [.inr (.inr (7, 0))] σ (fun vv tt => X 69 [some (.inr (.inr (0, 0))), some (.inl w), some (.inl P)] (vv.toList ++ []) tt)) ∧ (¬ ((w).toInt = 2) → 1 ≤ 2 ∧ 1 ≤ 8 ∧ True ∧ sX3_inAny [.inr (.inr (7, 0))] σ (fun vv tt => X 78 [some (.inr (.inr (0, 0))), some (.inl w), some (.inl P)] (vv.toList ++ [.inl P]) tt)))))) from ⟨fun q0 => (h.1 q0), fun q0 => ⟨fun q1 => ((h.2 q0).1 q1), fun q1 => ⟨by decide, ⟨fun q2 => ⟨am_ci (by decide), (((h.2 q0).2 q1).1 q2)⟩, fun q2 => ⟨fun q3 => ⟨am_le rfl, am_le rfl, trivial, ((((h.2 q0).2 q1).2 q2).1 q3)⟩, fun q3 => ⟨am_le rfl, am_le rfl, trivial, ((((h.2 q0).2 q1).2 q2).2 q3)⟩⟩⟩⟩⟩⟩)
set_option maxRecDepth 100000 in
set_option maxHeartbeats 400000 in
theorem b_ts69 {K : Option am_V → am_M → Prop} {X : Nat → am_L → List am_V → am_M → Prop} (hX : am_cl eX6_tellSets lX6_tellSets (some .int) K X) {σ : am_M} (w P v : Int32) (h : K (some (.inl v)) σ) : X 69 [some (.inr (.inr (0, 0))), some (.inl w), some (.inl P)] [.inl v] σ := am_run_ok emX6_tellSets hX [] 400 (show K (some (.inl v)) σ from h)
set_option maxRecDepth 100000 in
set_option maxHeartbeats 400000 in
theorem b_ts78 {K : Option am_V → am_M → Prop} {X : Nat → am_L → List am_V → am_M → Prop} (hX : am_cl eX6_tellSets lX6_tellSets (some .int) K X) {σ : am_M} (w P v : Int32) (h : K (some (.inl (P &&& (v ^^^ (-1 : Int32))))) σ) : X 78 [some (.inr (.inr (0, 0))), some (.inl w), some (.inl P)] [.inl v, .inl P] σ := am_run_ok emX6_tellSets hX [] 400 (show K (some (.inl (P &&& (v ^^^ (-1 : Int32))))) σ from h)
theorem tX6_tellSets {σ : am_M} {L : List Nat} {w : Int32} {f : Nat} {K : am_K} (hL : s_has σ L) (h : K (some (.inl (a_tell L w f))) σ) : sX6_tellSets [.inr (.inr (0, 0)), .inl w, .inl (nI f)] σ K := by
  obtain ⟨e1, e2, e3⟩ := id hL
  unfold a_tell at h
  refine ⟨am_le rfl, fun X hX => b_ts0 hX w (nI f) ?_⟩
  rw [q_ti1, q_ti2]
  refine ⟨fun a => ?_, fun a => ⟨fun b => ?_, fun b => ⟨fun d => ?_, fun d => ⟨fun e => ?_, fun e => ?_⟩⟩⟩⟩
  · rw [if_pos a] at h
    rw [e1]
    exact h
  · rw [e1, q_z (by omega)] at b
    rw [if_neg a, if_pos b] at h
    exact h
  · rw [e1, q_z (by omega)] at b
    rw [if_neg a, if_neg b, if_pos d] at h
    rw [e3 0 (by omega)]
    exact h
  · rw [e1, q_z (by omega)] at b
    rw [if_neg a, if_neg b, if_neg d, if_pos e] at h
    exact tX3_inAll hL (b_ts69 hX w (nI f) _ h)
  · rw [e1, q_z (by omega)] at b
    rw [if_neg a, if_neg b, if_neg d, if_neg e] at h
    refine tX3_inAny hL (b_ts78 hX w (nI f) _ ?_)
    rw [q_dfI]
    exact h
theorem s_got_has {σ τ : am_M} {L : List Nat} {n : Nat} (h : s_got σ τ L n) (hl : L.length ≤ 126) : s_has τ L := ⟨h.2.1, hl, h.2.2.1⟩
theorem p_gd_126 {r : Rw} {n z P M : Nat} (h9 : n ≤ 9) (hz : z ≤ 9) : (q_ls (p_gd r n z P M) (2 ^ n)).length ≤ 126 := by
  rw [q_ls_len]
  have h2 : 2 ^ n ≤ 512 := Nat.pow_le_pow_right (n := 2) (by decide) h9
  exact Nat.le_trans (q_ct_mono h2) (Nat.le_trans (q_ct_le (Q := fun S => decide (q_pop S 9 = z)) (fun x hx => by
    unfold p_gd at hx
    simp at hx
    simp [hx.2.2.1]) 512) (q_126 z hz))
