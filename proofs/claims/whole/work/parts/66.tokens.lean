/-! the text: tokens, to the class -/
def sg (σ : am_M) (x : Int32) : Int32 := if x < 0 then -1 else if σ 1 0 1 ≤ x then -1 else σ 2 0 x.toNatClampNeg
def t_ok (σ : am_M) : Prop := ∃ t, t ≤ 160 ∧ σ 1 0 1 = nI t
def lx (σ : am_M) (x : Int32) : Bool := decide (97 ≤ sg σ x) && decide (sg σ x ≤ 122)
def fx (σ : am_M) (x : Int32) : Bool := decide (48 ≤ sg σ x) && decide (sg σ x ≤ 57)
theorem t_in {σ : am_M} {x : Int32} (h : t_ok σ) (h1 : ¬ x < 0) (h2 : ¬ σ 1 0 1 ≤ x) : vp_in x 160 := by
  obtain ⟨t, ht, e⟩ := h
  obtain ⟨j, hj, rfl⟩ := nI_of h1
  rw [e, nI_leI (by omega) hj] at h2
  exact q_in (by omega) (by decide)
theorem uX5_signAt {σ : am_M} {x : Int32} {K : am_K} (h : (t_ok σ) ∧ (K (some (.inl (sg σ x))) σ)) : sX5_signAt [.inr (.inr (1, 0)), .inl x] σ K := by
  obtain ⟨h0, h⟩ := h
  unfold sg at h
  refine tX5_signAt ⟨fun a => ?_, fun a => ⟨fun b => ?_, fun b => ⟨t_in h0 a b, ?_⟩⟩⟩
  · rw [if_pos a] at h
    exact h
  · rw [if_neg a, if_pos b] at h
    exact h
  · rw [if_neg a, if_neg b] at h
    exact h
theorem uX5_isLetterAt {σ : am_M} {x : Int32} {K : am_K} (h : (t_ok σ) ∧ (((lx σ x = true) → K (some (.inl (1 : Int32))) σ) ∧ (¬ (lx σ x = true) → K (some (.inl (0 : Int32))) σ))) : sX5_isLetterAt [.inr (.inr (1, 0)), .inl x] σ K := by
  obtain ⟨h0, h1, h2⟩ := h
  unfold lx sg at h1 h2
  refine tX5_isLetterAt ⟨fun a => h2 ?_, fun a => ⟨fun b => h2 ?_, fun b => ⟨t_in h0 a b, fun c => h2 ?_, fun c => ⟨t_in h0 a b, fun d => h2 ?_, fun d => h1 ?_⟩⟩⟩⟩
  · rw [if_pos a]
    decide
  · rw [if_neg a, if_pos b]
    decide
  · rw [if_neg a, if_neg b]
    simp only [Bool.and_eq_true, decide_eq_true_iff]
    rintro ⟨g, -⟩
    rw [Int32.le_iff_toInt_le] at g
    rw [Int32.lt_iff_toInt_lt] at c
    omega
  · rw [if_neg a, if_neg b]
    simp only [Bool.and_eq_true, decide_eq_true_iff]
    rintro ⟨-, g⟩
    rw [Int32.le_iff_toInt_le] at g
    rw [Int32.lt_iff_toInt_lt] at d
    omega
  · rw [if_neg a, if_neg b]
    simp only [Bool.and_eq_true, decide_eq_true_iff]
    rw [Int32.lt_iff_toInt_lt] at c d
    rw [Int32.le_iff_toInt_le, Int32.le_iff_toInt_le]
    omega
theorem uX5_isFigureAt {σ : am_M} {x : Int32} {K : am_K} (h : (t_ok σ) ∧ (((fx σ x = true) → K (some (.inl (1 : Int32))) σ) ∧ (¬ (fx σ x = true) → K (some (.inl (0 : Int32))) σ))) : sX5_isFigureAt [.inr (.inr (1, 0)), .inl x] σ K := by
  obtain ⟨h0, h1, h2⟩ := h
  unfold fx sg at h1 h2
  refine tX5_isFigureAt ⟨fun a => h2 ?_, fun a => ⟨fun b => h2 ?_, fun b => ⟨t_in h0 a b, fun c => h2 ?_, fun c => ⟨t_in h0 a b, fun d => h2 ?_, fun d => h1 ?_⟩⟩⟩⟩
  · rw [if_pos a]
    decide
  · rw [if_neg a, if_pos b]
    decide
  · rw [if_neg a, if_neg b]
    simp only [Bool.and_eq_true, decide_eq_true_iff]
    rintro ⟨g, -⟩
    rw [Int32.le_iff_toInt_le] at g
    rw [Int32.lt_iff_toInt_lt] at c
    omega
  · rw [if_neg a, if_neg b]
    simp only [Bool.and_eq_true, decide_eq_true_iff]
    rintro ⟨-, g⟩
    rw [Int32.le_iff_toInt_le] at g
    rw [Int32.lt_iff_toInt_lt] at d
    omega
  · rw [if_neg a, if_neg b]
    simp only [Bool.and_eq_true, decide_eq_true_iff]
    rw [Int32.lt_iff_toInt_lt] at c d
    rw [Int32.le_iff_toInt_le, Int32.le_iff_toInt_le]
    omega
set_option maxRecDepth 100000 in
set_option maxHeartbeats 400000 in
theorem b_tt0 {K : Option am_V → am_M → Prop} {X : Nat → am_L → List am_V → am_M → Prop} (hX : am_cl eX1_takeToken lX1_takeToken (some .boolean) K X) {σ : am_M}  (h : X 8 [some (.inr (.inr (6, 0)))] [] (am_u σ 6 0 6 (σ 6 0 7))) : X 0 [some (.inr (.inr (6, 0)))] [] σ := am_run_ok emX1_takeToken hX [8] 400 (show X 8 [some (.inr (.inr (6, 0)))] [] (am_u σ 6 0 6 (σ 6 0 7)) from h)
set_option maxRecDepth 100000 in
set_option maxHeartbeats 400000 in
theorem b_tt8 {K : Option am_V → am_M → Prop} {X : Nat → am_L → List am_V → am_M → Prop} (hX : am_cl eX1_takeToken lX1_takeToken (some .boolean) K X) {σ : am_M}  (h : (((σ 1 0 1) ≤ (σ 6 0 6)) → X 51 [some (.inr (.inr (6, 0)))] [] σ) ∧ (¬ ((σ 1 0 1) ≤ (σ 6 0 6)) → (t_ok σ) ∧ ((((sg σ (σ 6 0 6)) = (32 : Int32)) → X 8 [some (.inr (.inr (6, 0)))] [] (am_u σ 6 0 6 ((σ 6 0 6) + (1 : Int32)))) ∧ (¬ ((sg σ (σ 6 0 6)) = (32 : Int32)) → X 51 [some (.inr (.inr (6, 0)))] [] σ)))) : X 8 [some (.inr (.inr (6, 0)))] [] σ := am_run_ok emX1_takeToken hX [8, 51] 400 (show (((σ 1 0 1) ≤ (σ 6 0 6)) → X 51 [some (.inr (.inr (6, 0)))] [] σ) ∧ (¬ ((σ 1 0 1) ≤ (σ 6 0 6)) → 2 ≤ 2 ∧ 0 ≤ 8 ∧ True ∧ sX5_signAt [.inr (.inr (1, 0)), .inl (σ 6 0 6)] σ (fun vv tt => am_run eX1_takeToken lX1_takeToken (some .boolean) K X [8, 51] 389 33 [some (.inr (.inr (6, 0)))] (vv.toList ++ []) tt)) from ⟨fun q0 => (h.1 q0), fun q0 => ⟨am_le rfl, am_le rfl, trivial, uX5_signAt (⟨(h.2 q0).1, (show (((sg σ (σ 6 0 6)) = (32 : Int32)) → X 8 [some (.inr (.inr (6, 0)))] [] (am_u σ 6 0 6 ((σ 6 0 6) + (1 : Int32)))) ∧ (¬ ((sg σ (σ 6 0 6)) = (32 : Int32)) → X 51 [some (.inr (.inr (6, 0)))] [] σ) from ⟨fun q1 => ((h.2 q0).2.1 q1), fun q1 => ((h.2 q0).2.2 q1)⟩)⟩)⟩⟩)
set_option maxRecDepth 100000 in
set_option maxHeartbeats 400000 in
theorem b_tt51 {K : Option am_V → am_M → Prop} {X : Nat → am_L → List am_V → am_M → Prop} (hX : am_cl eX1_takeToken lX1_takeToken (some .boolean) K X) {σ : am_M}  (h : (((σ 6 0 6) < (σ 1 0 1)) → X 91 [some (.inr (.inr (6, 0)))] [] (am_u σ 6 0 7 ((σ 6 0 6) + (1 : Int32)))) ∧ (¬ ((σ 6 0 6) < (σ 1 0 1)) → K (some (.inl (1 : Int32))) (am_u (am_u (am_u σ 6 0 7 ((σ 6 0 6) + (1 : Int32))) 6 0 7 (σ 6 0 6)) 6 0 5 (0 : Int32)))) : X 51 [some (.inr (.inr (6, 0)))] [] σ := am_run_ok emX1_takeToken hX [91] 400 (show (((σ 6 0 6) < (σ 1 0 1)) → X 91 [some (.inr (.inr (6, 0)))] [] (am_u σ 6 0 7 ((σ 6 0 6) + (1 : Int32)))) ∧ (¬ ((σ 6 0 6) < (σ 1 0 1)) → (narrow .boolean (.int (1 : Int32)) = .int (1 : Int32)) ∧ (K (some (.inl (1 : Int32))) (am_u (am_u (am_u σ 6 0 7 ((σ 6 0 6) + (1 : Int32))) 6 0 7 (σ 6 0 6)) 6 0 5 (0 : Int32)))) from ⟨fun q0 => (h.1 q0), fun q0 => ⟨rfl, (h.2 q0)⟩⟩)
set_option maxRecDepth 100000 in
set_option maxHeartbeats 400000 in
theorem b_tt91 {K : Option am_V → am_M → Prop} {X : Nat → am_L → List am_V → am_M → Prop} (hX : am_cl eX1_takeToken lX1_takeToken (some .boolean) K X) {σ : am_M}  (h : (t_ok σ) ∧ ((((sg σ (σ 6 0 6)) = (59 : Int32)) → K (some (.inl (1 : Int32))) (am_u σ 6 0 5 (3 : Int32))) ∧ (¬ ((sg σ (σ 6 0 6)) = (59 : Int32)) → X 115 [some (.inr (.inr (6, 0)))] [] σ))) : X 91 [some (.inr (.inr (6, 0)))] [] σ := am_run_ok emX1_takeToken hX [115] 400 (show 2 ≤ 2 ∧ 0 ≤ 8 ∧ True ∧ sX5_signAt [.inr (.inr (1, 0)), .inl (σ 6 0 6)] σ (fun vv tt => am_run eX1_takeToken lX1_takeToken (some .boolean) K X [115] 395 102 [some (.inr (.inr (6, 0)))] (vv.toList ++ []) tt) from ⟨am_le rfl, am_le rfl, trivial, uX5_signAt (⟨h.1, (show (((sg σ (σ 6 0 6)) = (59 : Int32)) → (narrow .boolean (.int (1 : Int32)) = .int (1 : Int32)) ∧ (K (some (.inl (1 : Int32))) (am_u σ 6 0 5 (3 : Int32)))) ∧ (¬ ((sg σ (σ 6 0 6)) = (59 : Int32)) → X 115 [some (.inr (.inr (6, 0)))] [] σ) from ⟨fun q0 => ⟨rfl, (h.2.1 q0)⟩, fun q0 => (h.2.2 q0)⟩)⟩)⟩)
set_option maxRecDepth 100000 in
set_option maxHeartbeats 400000 in
theorem b_tt115 {K : Option am_V → am_M → Prop} {X : Nat → am_L → List am_V → am_M → Prop} (hX : am_cl eX1_takeToken lX1_takeToken (some .boolean) K X) {σ : am_M}  (h : (t_ok σ) ∧ (((lx σ (σ 6 0 6) = true) → X 134 [some (.inr (.inr (6, 0)))] [] (am_u σ 6 0 5 (1 : Int32))) ∧ (¬ (lx σ (σ 6 0 6) = true) → X 175 [some (.inr (.inr (6, 0)))] [] σ))) : X 115 [some (.inr (.inr (6, 0)))] [] σ := am_run_ok emX1_takeToken hX [134, 175] 400 (show 2 ≤ 2 ∧ 0 ≤ 8 ∧ True ∧ sX5_isLetterAt [.inr (.inr (1, 0)), .inl (σ 6 0 6)] σ (fun vv tt => am_run eX1_takeToken lX1_takeToken (some .boolean) K X [134, 175] 395 126 [some (.inr (.inr (6, 0)))] (vv.toList ++ []) tt) from ⟨am_le rfl, am_le rfl, trivial, uX5_isLetterAt (⟨h.1, ⟨fun q0 => (show (((1 : Int32) = (0 : Int32)) → _) ∧ (¬ ((1 : Int32) = (0 : Int32)) → X 134 [some (.inr (.inr (6, 0)))] [] (am_u σ 6 0 5 (1 : Int32))) from ⟨fun q => absurd q (by decide), fun _ => (h.2.1 q0)⟩), fun q0 => (show (((0 : Int32) = (0 : Int32)) → X 175 [some (.inr (.inr (6, 0)))] [] σ) ∧ (¬ ((0 : Int32) = (0 : Int32)) → _) from ⟨fun _ => (h.2.2 q0), fun q => absurd (by decide) q⟩)⟩⟩)⟩)
set_option maxRecDepth 100000 in
set_option maxHeartbeats 400000 in
theorem b_tt134 {K : Option am_V → am_M → Prop} {X : Nat → am_L → List am_V → am_M → Prop} (hX : am_cl eX1_takeToken lX1_takeToken (some .boolean) K X) {σ : am_M}  (h : (((σ 1 0 1) ≤ (σ 6 0 7)) → K (some (.inl (1 : Int32))) σ) ∧ (¬ ((σ 1 0 1) ≤ (σ 6 0 7)) → (t_ok σ) ∧ (((lx σ (σ 6 0 7) = true) → X 134 [some (.inr (.inr (6, 0)))] [] (am_u σ 6 0 7 ((σ 6 0 7) + (1 : Int32)))) ∧ (¬ (lx σ (σ 6 0 7) = true) → K (some (.inl (1 : Int32))) σ)))) : X 134 [some (.inr (.inr (6, 0)))] [] σ := am_run_ok emX1_takeToken hX [134] 400 (show (((σ 1 0 1) ≤ (σ 6 0 7)) → (narrow .boolean (.int (1 : Int32)) = .int (1 : Int32)) ∧ (K (some (.inl (1 : Int32))) σ)) ∧ (¬ ((σ 1 0 1) ≤ (σ 6 0 7)) → 2 ≤ 2 ∧ 0 ≤ 8 ∧ True ∧ sX5_isLetterAt [.inr (.inr (1, 0)), .inl (σ 6 0 7)] σ (fun vv tt => am_run eX1_takeToken lX1_takeToken (some .boolean) K X [134] 389 159 [some (.inr (.inr (6, 0)))] (vv.toList ++ []) tt)) from ⟨fun q0 => ⟨rfl, (h.1 q0)⟩, fun q0 => ⟨am_le rfl, am_le rfl, trivial, uX5_isLetterAt (⟨(h.2 q0).1, ⟨fun q1 => (show (((1 : Int32) = (0 : Int32)) → _) ∧ (¬ ((1 : Int32) = (0 : Int32)) → X 134 [some (.inr (.inr (6, 0)))] [] (am_u σ 6 0 7 ((σ 6 0 7) + (1 : Int32)))) from ⟨fun q => absurd q (by decide), fun _ => ((h.2 q0).2.1 q1)⟩), fun q1 => (show (((0 : Int32) = (0 : Int32)) → (narrow .boolean (.int (1 : Int32)) = .int (1 : Int32)) ∧ (K (some (.inl (1 : Int32))) σ)) ∧ (¬ ((0 : Int32) = (0 : Int32)) → _) from ⟨fun _ => ⟨rfl, ((h.2 q0).2.2 q1)⟩, fun q => absurd (by decide) q⟩)⟩⟩)⟩⟩)
set_option maxRecDepth 100000 in
set_option maxHeartbeats 400000 in
theorem b_tt175 {K : Option am_V → am_M → Prop} {X : Nat → am_L → List am_V → am_M → Prop} (hX : am_cl eX1_takeToken lX1_takeToken (some .boolean) K X) {σ : am_M}  (h : (t_ok σ) ∧ (((fx σ (σ 6 0 6) = true) → (t_ok (am_u σ 6 0 5 (2 : Int32))) ∧ (((fx (am_u σ 6 0 5 (2 : Int32)) (σ 6 0 7) = true) → X 222 [some (.inr (.inr (6, 0)))] [] (am_u (am_u σ 6 0 5 (2 : Int32)) 6 0 7 ((σ 6 0 7) + (1 : Int32)))) ∧ (¬ (fx (am_u σ 6 0 5 (2 : Int32)) (σ 6 0 7) = true) → X 222 [some (.inr (.inr (6, 0)))] [] (am_u (am_u σ 6 0 5 (2 : Int32)) 6 0 7 ((σ 6 0 7) + (0 : Int32)))))) ∧ (¬ (fx σ (σ 6 0 6) = true) → K (some (.inl (0 : Int32))) (am_u (am_u σ 6 0 3 (1 : Int32)) 6 0 4 (σ 6 0 6))))) : X 175 [some (.inr (.inr (6, 0)))] [] σ := am_run_ok emX1_takeToken hX [222] 400 (show 2 ≤ 2 ∧ 0 ≤ 8 ∧ True ∧ sX5_isFigureAt [.inr (.inr (1, 0)), .inl (σ 6 0 6)] σ (fun vv tt => am_run eX1_takeToken lX1_takeToken (some .boolean) K X [222] 395 186 [some (.inr (.inr (6, 0)))] (vv.toList ++ []) tt) from ⟨am_le rfl, am_le rfl, trivial, uX5_isFigureAt (⟨h.1, ⟨fun q0 => (show (((1 : Int32) = (0 : Int32)) → _) ∧ (¬ ((1 : Int32) = (0 : Int32)) → 2 ≤ 4 ∧ 2 ≤ 8 ∧ True ∧ sX5_isFigureAt [.inr (.inr (1, 0)), .inl (σ 6 0 7)] (am_u σ 6 0 5 (2 : Int32)) (fun vv tt => am_run eX1_takeToken lX1_takeToken (some .boolean) K X [222] 383 210 [some (.inr (.inr (6, 0)))] (vv.toList ++ [.inl (σ 6 0 7), .inr (.inr (6, 0))]) tt)) from ⟨fun q => absurd q (by decide), fun _ => ⟨am_le rfl, am_le rfl, trivial, uX5_isFigureAt (⟨(h.2.1 q0).1, ⟨fun q1 => (show (((1 : Int32) = (0 : Int32)) → _) ∧ (¬ ((1 : Int32) = (0 : Int32)) → X 222 [some (.inr (.inr (6, 0)))] [] (am_u (am_u σ 6 0 5 (2 : Int32)) 6 0 7 ((σ 6 0 7) + (1 : Int32)))) from ⟨fun q => absurd q (by decide), fun _ => ((h.2.1 q0).2.1 q1)⟩), fun q1 => (show (((0 : Int32) = (0 : Int32)) → X 222 [some (.inr (.inr (6, 0)))] [] (am_u (am_u σ 6 0 5 (2 : Int32)) 6 0 7 ((σ 6 0 7) + (0 : Int32)))) ∧ (¬ ((0 : Int32) = (0 : Int32)) → _) from ⟨fun _ => ((h.2.1 q0).2.2 q1), fun q => absurd (by decide) q⟩)⟩⟩)⟩⟩), fun q0 => (show (((0 : Int32) = (0 : Int32)) → 3 ≤ 3 ∧ 0 ≤ 8 ∧ True ∧ sX1_fail [.inr (.inr (6, 0)), .inl (1 : Int32), .inl (σ 6 0 6)] σ (fun vv tt => am_run eX1_takeToken lX1_takeToken (some .boolean) K X [222] 389 263 [some (.inr (.inr (6, 0)))] (vv.toList ++ []) tt)) ∧ (¬ ((0 : Int32) = (0 : Int32)) → _) from ⟨fun _ => ⟨am_le rfl, am_le rfl, trivial, tX1_fail ((show (narrow .boolean (.int (0 : Int32)) = .int (0 : Int32)) ∧ (K (some (.inl (0 : Int32))) (am_u (am_u σ 6 0 3 (1 : Int32)) 6 0 4 (σ 6 0 6))) from ⟨rfl, (h.2.2 q0)⟩))⟩, fun q => absurd (by decide) q⟩)⟩⟩)⟩)
set_option maxRecDepth 100000 in
set_option maxHeartbeats 400000 in
theorem b_tt222 {K : Option am_V → am_M → Prop} {X : Nat → am_L → List am_V → am_M → Prop} (hX : am_cl eX1_takeToken lX1_takeToken (some .boolean) K X) {σ : am_M}  (h : (t_ok σ) ∧ (((fx σ (σ 6 0 7) = true) → K (some (.inl (0 : Int32))) (am_u (am_u σ 6 0 3 (1 : Int32)) 6 0 4 (σ 6 0 6))) ∧ (¬ (fx σ (σ 6 0 7) = true) → K (some (.inl (1 : Int32))) σ))) : X 222 [some (.inr (.inr (6, 0)))] [] σ := am_run_ok emX1_takeToken hX [] 400 (show 2 ≤ 2 ∧ 0 ≤ 8 ∧ True ∧ sX5_isFigureAt [.inr (.inr (1, 0)), .inl (σ 6 0 7)] σ (fun vv tt => am_run eX1_takeToken lX1_takeToken (some .boolean) K X [] 395 233 [some (.inr (.inr (6, 0)))] (vv.toList ++ []) tt) from ⟨am_le rfl, am_le rfl, trivial, uX5_isFigureAt (⟨h.1, ⟨fun q0 => (show (((1 : Int32) = (0 : Int32)) → _) ∧ (¬ ((1 : Int32) = (0 : Int32)) → 3 ≤ 3 ∧ 0 ≤ 8 ∧ True ∧ sX1_fail [.inr (.inr (6, 0)), .inl (1 : Int32), .inl (σ 6 0 6)] σ (fun vv tt => am_run eX1_takeToken lX1_takeToken (some .boolean) K X [] 389 245 [some (.inr (.inr (6, 0)))] (vv.toList ++ []) tt)) from ⟨fun q => absurd q (by decide), fun _ => ⟨am_le rfl, am_le rfl, trivial, tX1_fail ((show (((0 : Int32) = (0 : Int32)) → (narrow .boolean (.int (0 : Int32)) = .int (0 : Int32)) ∧ (K (some (.inl (0 : Int32))) (am_u (am_u σ 6 0 3 (1 : Int32)) 6 0 4 (σ 6 0 6)))) ∧ (¬ ((0 : Int32) = (0 : Int32)) → _) from ⟨fun _ => ⟨rfl, (h.2.1 q0)⟩, fun q => absurd (by decide) q⟩))⟩⟩), fun q0 => (show (((0 : Int32) = (0 : Int32)) → (narrow .boolean (.int (1 : Int32)) = .int (1 : Int32)) ∧ (K (some (.inl (1 : Int32))) σ)) ∧ (¬ ((0 : Int32) = (0 : Int32)) → _) from ⟨fun _ => ⟨rfl, (h.2.2 q0)⟩, fun q => absurd (by decide) q⟩)⟩⟩)⟩)
set_option maxRecDepth 100000 in
set_option maxHeartbeats 400000 in
theorem b_nb0 {K : Option am_V → am_M → Prop} {X : Nat → am_L → List am_V → am_M → Prop} (hX : am_cl eX1_number lX1_number (some .int) K X) {σ : am_M}  (h : X 7 [some (.inr (.inr (6, 0))), some (.inl (0 : Int32)), some (.inl (σ 6 0 6))] [] σ) : X 0 [some (.inr (.inr (6, 0))), none, none] [] σ := am_run_ok emX1_number hX [7] 400 (show X 7 [some (.inr (.inr (6, 0))), some (.inl (0 : Int32)), some (.inl (σ 6 0 6))] [] σ from h)
set_option maxRecDepth 100000 in
set_option maxHeartbeats 400000 in
theorem b_nb7 {K : Option am_V → am_M → Prop} {X : Nat → am_L → List am_V → am_M → Prop} (hX : am_cl eX1_number lX1_number (some .int) K X) {σ : am_M} (v x : Int32) (h : (((σ 6 0 7) ≤ x) → K (some (.inl v)) σ) ∧ (¬ ((σ 6 0 7) ≤ x) → (t_ok σ) ∧ (X 7 [some (.inr (.inr (6, 0))), some (.inl ((((10 : Int32) * v) + (sg σ x)) - (48 : Int32))), some (.inl (x + (1 : Int32)))] [] σ))) : X 7 [some (.inr (.inr (6, 0))), some (.inl v), some (.inl x)] [] σ := am_run_ok emX1_number hX [7] 400 (show (((σ 6 0 7) ≤ x) → K (some (.inl v)) σ) ∧ (¬ ((σ 6 0 7) ≤ x) → 2 ≤ 3 ∧ 1 ≤ 8 ∧ True ∧ sX5_signAt [.inr (.inr (1, 0)), .inl x] σ (fun vv tt => am_run eX1_number lX1_number (some .int) K X [7] 389 27 [some (.inr (.inr (6, 0))), some (.inl v), some (.inl x)] (vv.toList ++ [.inl ((10 : Int32) * v)]) tt)) from ⟨fun q0 => (h.1 q0), fun q0 => ⟨am_le rfl, am_le rfl, trivial, uX5_signAt (⟨(h.2 q0).1, (show X 7 [some (.inr (.inr (6, 0))), some (.inl ((((10 : Int32) * v) + (sg σ x)) - (48 : Int32))), some (.inl (x + (1 : Int32)))] [] σ from (h.2 q0).2)⟩)⟩⟩)
set_option maxRecDepth 100000 in
set_option maxHeartbeats 400000 in
theorem b_iw0w {K : Option am_V → am_M → Prop} {X : Nat → am_L → List am_V → am_M → Prop} (hX : am_cl eX1_isWord lX1_isWord (some .boolean) K X) {σ : am_M} (k : Nat) (h : sX5_hasWord [.inr (.inr (1, 0)), .inr (.inr (40, k)), .inl (σ 6 0 6), .inl (σ 6 0 7)] σ (fun vv tt => X 16 [some (.inr (.inr (6, 0))), some (.inr (.inr (40, k)))] (vv.toList ++ []) tt)) : X 0 [some (.inr (.inr (6, 0))), some (.inr (.inr (40, k)))] [] σ := am_run_ok emX1_isWord hX [16] 400 (show 4 ≤ 4 ∧ 0 ≤ 8 ∧ True ∧ sX5_hasWord [.inr (.inr (1, 0)), .inr (.inr (40, k)), .inl (σ 6 0 6), .inl (σ 6 0 7)] σ (fun vv tt => X 16 [some (.inr (.inr (6, 0))), some (.inr (.inr (40, k)))] (vv.toList ++ []) tt) from ⟨am_le rfl, am_le rfl, trivial, h⟩)
set_option maxRecDepth 100000 in
set_option maxHeartbeats 400000 in
theorem b_iw16 {K : Option am_V → am_M → Prop} {X : Nat → am_L → List am_V → am_M → Prop} (hX : am_cl eX1_isWord lX1_isWord (some .boolean) K X) {σ : am_M} (k : Nat) (v : Int32) (h : (narrow .boolean (.int v) = .int v) ∧ (K (some (.inl v)) σ)) : X 16 [some (.inr (.inr (6, 0))), some (.inr (.inr (40, k)))] [.inl v] σ := am_run_ok emX1_isWord hX [] 400 (show (narrow .boolean (.int v) = .int v) ∧ (K (some (.inl v)) σ) from ⟨h.1, h.2⟩)
theorem u_len {σ : am_M} {k : Nat} {K : am_K} (h : K (some (.inl (nI (am_str k).length))) σ) : s_len [.inr (.inr (40, k))] σ K := h
theorem u_chr {σ : am_M} {k : Nat} {x : Int32} {K : am_K} (h : (vp_in x (am_str k).length) ∧ (K (some (.inl ((am_str k).getD x.toNatClampNeg 0))) σ)) : s_chr [.inr (.inr (40, k)), .inl x] σ K := h
set_option maxRecDepth 100000 in
set_option maxHeartbeats 400000 in
theorem b_hw0 {K : Option am_V → am_M → Prop} {X : Nat → am_L → List am_V → am_M → Prop} (hX : am_cl eX5_hasWord lX5_hasWord (some .boolean) K X) {σ : am_M} (k s e : Nat) (h : ((((nI e) - (nI s)) = (nI (am_str k).length)) → X 15 [some (.inr (.inr (1, 0))), some (.inr (.inr (40, k))), some (.inl (nI s)), some (.inl (nI e)), some (.inl (nI s))] [] σ) ∧ (¬ (((nI e) - (nI s)) = (nI (am_str k).length)) → K (some (.inl (0 : Int32))) σ)) : X 0 [some (.inr (.inr (1, 0))), some (.inr (.inr (40, k))), some (.inl (nI s)), some (.inl (nI e)), none] [] σ := am_run_ok emX5_hasWord hX [15] 400 (show 1 ≤ 2 ∧ 1 ≤ 8 ∧ True ∧ s_len [.inr (.inr (40, k))] σ (fun vv tt => am_run eX5_hasWord lX5_hasWord (some .boolean) K X [15] 395 7 [some (.inr (.inr (1, 0))), some (.inr (.inr (40, k))), some (.inl (nI s)), some (.inl (nI e)), none] (vv.toList ++ [.inl ((nI e) - (nI s))]) tt) from ⟨am_le rfl, am_le rfl, trivial, u_len ((show ((((nI e) - (nI s)) = (nI (am_str k).length)) → X 15 [some (.inr (.inr (1, 0))), some (.inr (.inr (40, k))), some (.inl (nI s)), some (.inl (nI e)), some (.inl (nI s))] [] σ) ∧ (¬ (((nI e) - (nI s)) = (nI (am_str k).length)) → (narrow .boolean (.int (0 : Int32)) = .int (0 : Int32)) ∧ (K (some (.inl (0 : Int32))) σ)) from ⟨fun q0 => (h.1 q0), fun q0 => ⟨rfl, (h.2 q0)⟩⟩))⟩)
set_option maxRecDepth 100000 in
set_option maxHeartbeats 400000 in
theorem b_hw15 {K : Option am_V → am_M → Prop} {X : Nat → am_L → List am_V → am_M → Prop} (hX : am_cl eX5_hasWord lX5_hasWord (some .boolean) K X) {σ : am_M} (k s e i : Nat) (h : (((nI e) ≤ (nI i)) → K (some (.inl (1 : Int32))) σ) ∧ (¬ ((nI e) ≤ (nI i)) → (t_ok σ) ∧ ((vp_in ((nI i) - (nI s)) (am_str k).length) ∧ ((((sg σ (nI i)) = ((am_str k).getD ((nI i) - (nI s)).toNatClampNeg 0)) → X 15 [some (.inr (.inr (1, 0))), some (.inr (.inr (40, k))), some (.inl (nI s)), some (.inl (nI e)), some (.inl ((nI i) + (1 : Int32)))] [] σ) ∧ (¬ ((sg σ (nI i)) = ((am_str k).getD ((nI i) - (nI s)).toNatClampNeg 0)) → K (some (.inl (0 : Int32))) σ))))) : X 15 [some (.inr (.inr (1, 0))), some (.inr (.inr (40, k))), some (.inl (nI s)), some (.inl (nI e)), some (.inl (nI i))] [] σ := am_run_ok emX5_hasWord hX [15] 400 (show (((nI e) ≤ (nI i)) → (narrow .boolean (.int (1 : Int32)) = .int (1 : Int32)) ∧ (K (some (.inl (1 : Int32))) σ)) ∧ (¬ ((nI e) ≤ (nI i)) → 2 ≤ 2 ∧ 0 ≤ 8 ∧ True ∧ sX5_signAt [.inr (.inr (1, 0)), .inl (nI i)] σ (fun vv tt => am_run eX5_hasWord lX5_hasWord (some .boolean) K X [15] 394 27 [some (.inr (.inr (1, 0))), some (.inr (.inr (40, k))), some (.inl (nI s)), some (.inl (nI e)), some (.inl (nI i))] (vv.toList ++ []) tt)) from ⟨fun q0 => ⟨rfl, (h.1 q0)⟩, fun q0 => ⟨am_le rfl, am_le rfl, trivial, uX5_signAt (⟨(h.2 q0).1, (show 2 ≤ 3 ∧ 1 ≤ 8 ∧ True ∧ s_chr [.inr (.inr (40, k)), .inl ((nI i) - (nI s))] σ (fun vv tt => am_run eX5_hasWord lX5_hasWord (some .boolean) K X [15] 389 35 [some (.inr (.inr (1, 0))), some (.inr (.inr (40, k))), some (.inl (nI s)), some (.inl (nI e)), some (.inl (nI i))] (vv.toList ++ [.inl (sg σ (nI i))]) tt) from ⟨am_le rfl, am_le rfl, trivial, u_chr (⟨(h.2 q0).2.1, (show (((sg σ (nI i)) = ((am_str k).getD ((nI i) - (nI s)).toNatClampNeg 0)) → X 15 [some (.inr (.inr (1, 0))), some (.inr (.inr (40, k))), some (.inl (nI s)), some (.inl (nI e)), some (.inl ((nI i) + (1 : Int32)))] [] σ) ∧ (¬ ((sg σ (nI i)) = ((am_str k).getD ((nI i) - (nI s)).toNatClampNeg 0)) → (narrow .boolean (.int (0 : Int32)) = .int (0 : Int32)) ∧ (K (some (.inl (0 : Int32))) σ)) from ⟨fun q1 => ((h.2 q0).2.2.1 q1), fun q1 => ⟨rfl, ((h.2 q0).2.2.2 q1)⟩⟩)⟩)⟩)⟩)⟩⟩)
/-- from i on, the first place where P does not hold, or the end -/
def fst' (P : Nat → Bool) : Nat → Nat → Nat
  | 0, i => i
  | d + 1, i => if P i then fst' P d (i + 1) else i
def fs (P : Nat → Bool) (t i : Nat) : Nat := fst' P (t - i) i
theorem fs_y {P : Nat → Bool} {t i : Nat} (h : i < t) (hp : P i = true) : fs P t i = fs P t (i + 1) := by
  unfold fs
  rw [show t - i = (t - (i + 1)) + 1 by omega]
  show (if P i then _ else i) = _
  rw [if_pos hp]
theorem fs_n {P : Nat → Bool} {t i : Nat} (h : t ≤ i ∨ P i = false) : fs P t i = i := by
  unfold fs
  cases c : t - i with
  | zero => rfl
  | succ d =>
    show (if P i then _ else i) = _
    rw [if_neg]
    rcases h with h | h
    · omega
    · rw [h]
      decide
theorem fst_b {P : Nat → Bool} : ∀ d i, i ≤ fst' P d i ∧ fst' P d i ≤ i + d ∧ (fst' P d i < i + d → P (fst' P d i) = false) ∧ ∀ j, i ≤ j → j < fst' P d i → P j = true
  | 0, i => ⟨Nat.le_refl _, Nat.le_refl _, fun q => absurd (show i < i + 0 from q) (by omega), fun j a b => absurd (show j < i from b) (by omega)⟩
  | d + 1, i => by
    obtain ⟨a1, a2, a3, a4⟩ := fst_b (P := P) d (i + 1)
    show i ≤ (if P i then fst' P d (i + 1) else i) ∧ (if P i then fst' P d (i + 1) else i) ≤ i + (d + 1) ∧ ((if P i then fst' P d (i + 1) else i) < i + (d + 1) → P (if P i then fst' P d (i + 1) else i) = false) ∧ ∀ j, i ≤ j → j < (if P i then fst' P d (i + 1) else i) → P j = true
    by_cases c : P i = true
    · rw [if_pos c]
      refine ⟨by omega, by omega, fun q => a3 (by omega), fun j j1 j2 => ?_⟩
      by_cases e : j = i
      · rw [e]
        exact c
      · exact a4 j (by omega) j2
    · rw [if_neg c]
      exact ⟨Nat.le_refl _, by omega, fun _ => by simpa using c, fun j j1 j2 => absurd j2 (by omega)⟩
theorem fs_ge {P : Nat → Bool} {t i : Nat} : i ≤ fs P t i := (fst_b (P := P) (t - i) i).1
theorem fs_le {P : Nat → Bool} {t i : Nat} (h : i ≤ t) : fs P t i ≤ t := by
  have := (fst_b (P := P) (t - i) i).2.1
  unfold fs
  omega
theorem fs_stop {P : Nat → Bool} {t i : Nat} (h : i ≤ t) (h2 : fs P t i < t) : P (fs P t i) = false := (fst_b (P := P) (t - i) i).2.2.1 (by
  unfold fs at h2
  omega)
def isL (x : Nat) : Bool := decide (97 ≤ x) && decide (x ≤ 122)
def isF (x : Nat) : Bool := decide (48 ≤ x) && decide (x ≤ 57)
/-- the token at a place: its start, its kind (4: none), its end, its fault, its number -/
def tkS (b : Nat → Nat) (t i : Nat) : Nat := fs (fun j => decide (b j = 32)) t i
def fgA (b : Nat → Nat) (t j : Nat) : Bool := decide (j < t) && isF (b j)
def tkK (b : Nat → Nat) (t i : Nat) : Nat := if t ≤ tkS b t i then 0 else if b (tkS b t i) = 59 then 3 else if isL (b (tkS b t i)) then 1 else if isF (b (tkS b t i)) then 2 else 4
def tkE (b : Nat → Nat) (t i : Nat) : Nat := if t ≤ tkS b t i then tkS b t i else if b (tkS b t i) = 59 then tkS b t i + 1 else if isL (b (tkS b t i)) then fs (fun j => isL (b j)) t (tkS b t i + 1) else if fgA b t (tkS b t i + 1) then tkS b t i + 2 else tkS b t i + 1
def tkB (b : Nat → Nat) (t i : Nat) : Bool := if tkK b t i = 2 then fgA b t (tkS b t i + 1) && fgA b t (tkS b t i + 2) else decide (tkK b t i = 4)
def tkV (b : Nat → Nat) (t i : Nat) : Nat := if fgA b t (tkS b t i + 1) then 10 * (b (tkS b t i) - 48) + (b (tkS b t i + 1) - 48) else b (tkS b t i) - 48
/-- the tape, to the class -/
def tp (σ : am_M) (t : Nat) (b : Nat → Nat) : Prop := t ≤ 160 ∧ σ 1 0 1 = nI t ∧ ∀ i, i < t → σ 2 0 i = nI (b i) ∧ b i ≤ 127
theorem tp_ok {σ : am_M} {t : Nat} {b : Nat → Nat} (h : tp σ t b) : t_ok σ := ⟨t, h.1, h.2.1⟩
theorem tp_sg {σ : am_M} {t i : Nat} {b : Nat → Nat} (h : tp σ t b) (hi : i < 2 ^ 31) : sg σ (nI i) = if i < t then nI (b i) else -1 := by
  have h1 := h.1
  unfold sg
  rw [if_neg (nI_pos hi), h.2.1, nI_clamp hi]
  by_cases c : i < t
  · rw [if_neg (nI_ge c (by omega)), if_pos c, (h.2.2 i c).1]
  · rw [if_pos (nI_le (by omega) hi), if_neg c]
theorem tp_lx {σ : am_M} {t i : Nat} {b : Nat → Nat} (h : tp σ t b) (hi : i < 2 ^ 31) : lx σ (nI i) = (decide (i < t) && isL (b i)) := by
  unfold lx isL
  rw [tp_sg h hi]
  by_cases c : i < t
  · have := (h.2.2 i c).2
    rw [if_pos c, decide_eq_true c, decide_eq_decide.mpr (show ((97 : Int32) ≤ nI (b i) ↔ 97 ≤ b i) from nI_leI (a := 97) (by decide) (by omega)), decide_eq_decide.mpr (show (nI (b i) ≤ (122 : Int32) ↔ b i ≤ 122) from nI_leI (b := 122) (by omega) (by decide))]
    rfl
  · rw [if_neg c, decide_eq_false c, Bool.false_and]
    decide
theorem tp_fx {σ : am_M} {t i : Nat} {b : Nat → Nat} (h : tp σ t b) (hi : i < 2 ^ 31) : fx σ (nI i) = fgA b t i := by
  unfold fx fgA isF
  rw [tp_sg h hi]
  by_cases c : i < t
  · have := (h.2.2 i c).2
    rw [if_pos c, decide_eq_true c, decide_eq_decide.mpr (show ((48 : Int32) ≤ nI (b i) ↔ 48 ≤ b i) from nI_leI (a := 48) (by decide) (by omega)), decide_eq_decide.mpr (show (nI (b i) ≤ (57 : Int32) ↔ b i ≤ 57) from nI_leI (b := 57) (by omega) (by decide))]
    rfl
  · rw [if_neg c, decide_eq_false c, Bool.false_and]
    decide
/-- only the reader's token and fault were written -/
def d6 (σ τ : am_M) : Prop := (∀ k, k ≠ 6 → τ k = σ k) ∧ ∀ j, j < 3 ∨ 7 < j → τ 6 0 j = σ 6 0 j
theorem d6_refl {σ : am_M} : d6 σ σ := ⟨fun _ _ => rfl, fun _ _ => rfl⟩
theorem d6_trans {σ τ υ : am_M} (h1 : d6 σ τ) (h2 : d6 τ υ) : d6 σ υ := ⟨fun k hk => by rw [h2.1 k hk, h1.1 k hk], fun j hj => by rw [h2.2 j hj, h1.2 j hj]⟩
theorem d6_u {σ τ : am_M} {c : Nat} {v : Int32} (h : d6 σ τ) (h1 : 3 ≤ c) (h2 : c ≤ 7) : d6 σ (am_u τ 6 0 c v) := ⟨fun k hk => by rw [am_u_k hk, h.1 k hk], fun j hj => by rw [am_u_j (by omega), h.2 j hj]⟩
theorem d6_tp {σ τ : am_M} {t : Nat} {b : Nat → Nat} (h : d6 σ τ) (h2 : tp σ t b) : tp τ t b := by
  unfold tp
  rw [h.1 1 (by decide), h.1 2 (by decide)]
  exact h2
theorem tkS_b {b : Nat → Nat} {t i : Nat} (h : i ≤ t) : i ≤ tkS b t i ∧ tkS b t i ≤ t := ⟨fs_ge, fs_le h⟩
theorem tkE_b {b : Nat → Nat} {t i : Nat} (h : i ≤ t) : tkS b t i ≤ tkE b t i ∧ tkE b t i ≤ t ∧ (tkK b t i ≠ 0 → tkS b t i < tkE b t i) := by
  have hs := tkS_b (b := b) h
  have hk : tkK b t i ≠ 0 → tkS b t i < t := fun q => by
    apply Classical.byContradiction
    intro c
    exact q (if_pos (by omega))
  unfold tkE
  by_cases c0 : t ≤ tkS b t i
  · rw [if_pos c0]
    exact ⟨by omega, by omega, fun q => absurd (hk q) (by omega)⟩
  rw [if_neg c0]
  by_cases c1 : b (tkS b t i) = 59
  · rw [if_pos c1]
    omega
  rw [if_neg c1]
  by_cases c2 : isL (b (tkS b t i)) = true
  · rw [if_pos c2]
    have h1 := fs_ge (P := fun j => isL (b j)) (t := t) (i := tkS b t i + 1)
    have h2 := fs_le (P := fun j => isL (b j)) (t := t) (i := tkS b t i + 1) (by omega)
    omega
  rw [if_neg c2]
  by_cases c3 : fgA b t (tkS b t i + 1) = true
  · rw [if_pos c3]
    unfold fgA at c3
    rw [Bool.and_eq_true] at c3
    have := of_decide_eq_true c3.1
    omega
  · rw [if_neg c3]
    omega
theorem am_uu {σ : am_M} {k i j : Nat} {v w : Int32} : am_u (am_u σ k i j v) k i j w = am_u σ k i j w := by
  funext k' i' j'
  unfold am_u
  by_cases c : k' = k
  · by_cases d : j' = j
    · by_cases e : i' = i
      · simp [c, d, e]
      · simp [c, d, e]
    · simp [c, d]
  · simp [c]
theorem am_uc {σ : am_M} {k i j j2 : Nat} {v w : Int32} (h : j ≠ j2) : am_u (am_u σ k i j v) k i j2 w = am_u (am_u σ k i j2 w) k i j v := by
  funext k' i' j'
  unfold am_u
  by_cases c : k' = k
  · by_cases d : j' = j
    · have : ¬ j' = j2 := fun q => h (d.symm.trans q)
      by_cases e : i' = i
      · simp [c, d, e, h]
      · simp [c, e]
    · by_cases d2 : j' = j2
      · by_cases e : i' = i
        · simp [c, d2, e, Ne.symm h]
        · simp [c, e]
      · simp [c, d, d2]
  · simp [c]
theorem tX1_takeToken {σ : am_M} {t i : Nat} {b : Nat → Nat} {K : am_K} (ht : tp σ t b) (hi : σ 6 0 7 = nI i) (hit : i ≤ t) (h1 : tkB b t i = false → ∀ τ, d6 σ τ → τ 6 0 3 = σ 6 0 3 → τ 6 0 5 = nI (tkK b t i) → τ 6 0 6 = nI (tkS b t i) → τ 6 0 7 = nI (tkE b t i) → K (some (.inl (1 : Int32))) τ) (h0 : tkB b t i = true → ∀ τ, d6 σ τ → τ 6 0 3 = 1 → τ 6 0 4 = nI (tkS b t i) → K (some (.inl (0 : Int32))) τ) : sX1_takeToken [.inr (.inr (6, 0))] σ K := by
  have t160 := ht.1
  have hst : ∀ j, j < 2 ^ 31 → (σ 1 0 1 ≤ nI j ↔ t ≤ j) := fun j hj => by rw [ht.2.1, nI_leI (by omega) hj]
  refine ⟨am_le rfl, fun X hX => b_tt0 hX ?_⟩
  rw [hi]
  have sb := tkS_b (b := b) hit
  have main : X 51 [some (.inr (.inr (6, 0)))] [] (am_u σ 6 0 6 (nI (tkS b t i))) := by
    unfold tkB tkK tkE at h1
    unfold tkB tkK at h0
    generalize tkS b t i = s at sb h1 h0 ⊢
    have hs : s < 2 ^ 31 := by omega
    refine b_tt51 hX ?_
    rw [show am_u σ 6 0 6 (nI s) 6 0 6 = nI s from rfl, show am_u σ 6 0 6 (nI s) 1 0 1 = σ 1 0 1 from rfl, ht.2.1, nI_ltI hs (by omega), show nI s + (1 : Int32) = nI (s + 1) from nI_add s 1]
    have dd : d6 σ (am_u σ 6 0 6 (nI s)) := d6_u d6_refl (by decide) (by decide)
    refine ⟨fun c => ?_, fun c => ?_⟩
    · have c0 : ¬ t ≤ s := by omega
      rw [if_neg c0] at h1 h0
      rw [if_neg c0] at h1
      have ts : sg (am_u (am_u σ 6 0 6 (nI s)) 6 0 7 (nI (s + 1))) (nI s) = nI (b s) := by
        have := tp_sg (σ := am_u (am_u σ 6 0 6 (nI s)) 6 0 7 (nI (s + 1))) ht hs
        rw [if_pos c] at this
        exact this
      have bs := (ht.2.2 s c).2
      have dd2 : d6 σ (am_u (am_u σ 6 0 6 (nI s)) 6 0 7 (nI (s + 1))) := d6_u dd (by decide) (by decide)
      refine b_tt91 hX ⟨tp_ok ht, ?_⟩
      rw [show am_u (am_u σ 6 0 6 (nI s)) 6 0 7 (nI (s + 1)) 6 0 6 = nI s from rfl, ts, show (nI (b s) = (59 : Int32) ↔ b s = 59) from nI_eq (b := 59) (by omega) (by decide)]
      refine ⟨fun c1 => ?_, fun c1 => ?_⟩
      · rw [if_pos c1] at h1
        rw [if_pos c1] at h1
        exact h1 rfl _ (d6_u dd2 (by decide) (by decide)) rfl rfl rfl rfl
      · rw [if_neg c1] at h1 h0
        rw [if_neg c1] at h1
        refine b_tt115 hX ⟨tp_ok ht, ?_⟩
        have el : lx (am_u (am_u σ 6 0 6 (nI s)) 6 0 7 (nI (s + 1))) (nI s) = isL (b s) := by
          have := tp_lx (σ := am_u (am_u σ 6 0 6 (nI s)) 6 0 7 (nI (s + 1))) ht hs
          rw [decide_eq_true c] at this
          exact this
        rw [show am_u (am_u σ 6 0 6 (nI s)) 6 0 7 (nI (s + 1)) 6 0 6 = nI s from rfl, el]
        refine ⟨fun c2 => ?_, fun c2 => ?_⟩
        · rw [if_pos c2] at h1
          rw [if_pos c2] at h1
          have h1 := h1 rfl
          rw [am_uc (show (7 : Nat) ≠ 5 by decide)]
          have loop : ∀ d j, j + d = t → fs (fun j => isL (b j)) t (s + 1) = fs (fun j => isL (b j)) t j → X 134 [some (.inr (.inr (6, 0)))] [] (am_u (am_u (am_u σ 6 0 6 (nI s)) 6 0 5 (1 : Int32)) 6 0 7 (nI j)) := by
            intro d
            induction d with
            | zero =>
              intro j hj e
              have hjt : j = t := by omega
              refine b_tt134 hX ⟨fun _ => h1 _ (d6_u (d6_u dd (by decide) (by decide)) (by decide) (by decide)) rfl rfl rfl ?_, fun q => absurd ((hst j (by omega)).2 (by omega)) q⟩
              rw [e, fs_n (Or.inl (by omega))]
              rfl
            | succ d ih =>
              intro j hj e
              have e3 : lx (am_u (am_u (am_u σ 6 0 6 (nI s)) 6 0 5 (1 : Int32)) 6 0 7 (nI j)) (nI j) = isL (b j) := by
                have := tp_lx (σ := am_u (am_u (am_u σ 6 0 6 (nI s)) 6 0 5 (1 : Int32)) 6 0 7 (nI j)) ht (i := j) (by omega)
                rw [decide_eq_true (by omega : j < t)] at this
                exact this
              refine b_tt134 hX ⟨fun q => absurd ((hst j (by omega)).1 q) (by omega), fun _ => ⟨tp_ok ht, ?_⟩⟩
              rw [show am_u (am_u (am_u σ 6 0 6 (nI s)) 6 0 5 (1 : Int32)) 6 0 7 (nI j) 6 0 7 = nI j from rfl, e3, am_uu, show nI j + (1 : Int32) = nI (j + 1) from nI_add j 1]
              refine ⟨fun g => ih (j + 1) (by omega) (by rw [e]; exact fs_y (by omega) g), fun g => h1 _ (d6_u (d6_u dd (by decide) (by decide)) (by decide) (by decide)) rfl rfl rfl ?_⟩
              rw [e, fs_n (Or.inr (by simpa using g))]
              rfl
          exact loop (t - (s + 1)) (s + 1) (by omega) rfl
        · rw [if_neg c2] at h1 h0
          rw [if_neg c2] at h1
          refine b_tt175 hX ⟨tp_ok ht, ?_⟩
          have ef : ∀ (τ : am_M), tp τ t b → ∀ j, j < 2 ^ 31 → fx τ (nI j) = fgA b t j := fun τ hτ j hj => tp_fx hτ hj
          have f0 : fgA b t s = isF (b s) := by
            unfold fgA
            rw [decide_eq_true c]
            rfl
          rw [show am_u (am_u σ 6 0 6 (nI s)) 6 0 7 (nI (s + 1)) 6 0 6 = nI s from rfl, show am_u (am_u σ 6 0 6 (nI s)) 6 0 7 (nI (s + 1)) 6 0 7 = nI (s + 1) from rfl, ef (am_u (am_u σ 6 0 6 (nI s)) 6 0 7 (nI (s + 1))) ht s hs, ef (am_u (am_u (am_u σ 6 0 6 (nI s)) 6 0 7 (nI (s + 1))) 6 0 5 (2 : Int32)) ht (s + 1) (by omega), f0, show nI (s + 1) + (1 : Int32) = nI (s + 2) from nI_add _ 1, show nI (s + 1) + (0 : Int32) = nI (s + 1) from nI_add _ 0]
          have dd3 : d6 σ (am_u (am_u (am_u σ 6 0 6 (nI s)) 6 0 7 (nI (s + 1))) 6 0 5 (2 : Int32)) := d6_u dd2 (by decide) (by decide)
          refine ⟨fun c3 => ?_, fun c3 => ?_⟩
          · rw [if_pos c3, if_pos rfl] at h0
            rw [if_pos c3] at h1
            rw [if_pos rfl] at h1
            refine ⟨tp_ok ht, fun c4 => ?_, fun c4 => ?_⟩
            · rw [c4] at h1 h0
              rw [if_pos rfl] at h1
              refine b_tt222 hX ⟨tp_ok ht, ?_⟩
              have e4 := ef (am_u (am_u (am_u (am_u σ 6 0 6 (nI s)) 6 0 7 (nI (s + 1))) 6 0 5 (2 : Int32)) 6 0 7 (nI (s + 2))) ht (s + 2) (by omega)
              rw [show am_u (am_u (am_u (am_u σ 6 0 6 (nI s)) 6 0 7 (nI (s + 1))) 6 0 5 (2 : Int32)) 6 0 7 (nI (s + 2)) 6 0 7 = nI (s + 2) from rfl, e4]
              refine ⟨fun c5 => h0 (by rw [c5]; rfl) _ (d6_u (d6_u (d6_u dd3 (by decide) (by decide)) (by decide) (by decide)) (by decide) (by decide)) rfl rfl, fun c5 => h1 (by rw [Bool.eq_false_iff.mpr c5]; rfl) _ (d6_u dd3 (by decide) (by decide)) rfl rfl rfl rfl⟩
            · have c4 := Bool.eq_false_iff.mpr c4
              rw [c4] at h1 h0
              rw [if_neg (by decide)] at h1
              refine b_tt222 hX ⟨tp_ok ht, ?_⟩
              have e4 := ef (am_u (am_u (am_u (am_u σ 6 0 6 (nI s)) 6 0 7 (nI (s + 1))) 6 0 5 (2 : Int32)) 6 0 7 (nI (s + 1))) ht (s + 1) (by omega)
              rw [show am_u (am_u (am_u (am_u σ 6 0 6 (nI s)) 6 0 7 (nI (s + 1))) 6 0 5 (2 : Int32)) 6 0 7 (nI (s + 1)) 6 0 7 = nI (s + 1) from rfl, e4, c4]
              exact ⟨fun q => absurd q (by decide), fun _ => h1 rfl _ (d6_u dd3 (by decide) (by decide)) rfl rfl rfl rfl⟩
          · rw [if_neg c3] at h0
            exact h0 rfl _ (d6_u (d6_u dd2 (by decide) (by decide)) (by decide) (by decide)) rfl rfl
    · have c0 : t ≤ s := by omega
      rw [if_pos c0] at h1
      rw [if_pos c0] at h1
      exact h1 rfl _ (d6_u (d6_u (d6_u dd (by decide) (by decide)) (by decide) (by decide)) (by decide) (by decide)) rfl rfl rfl rfl
  have loop : ∀ d j, j + d = t → tkS b t i = fs (fun j => decide (b j = 32)) t j → X 8 [some (.inr (.inr (6, 0)))] [] (am_u σ 6 0 6 (nI j)) := by
    intro d
    induction d with
    | zero =>
      intro j hj e
      rw [fs_n (Or.inl (by omega))] at e
      rw [e] at main
      exact b_tt8 hX ⟨fun _ => main, fun q => absurd ((hst j (by omega)).2 (by omega)) q⟩
    | succ d ih =>
      intro j hj e
      have hjt : j < t := by omega
      have bj := (ht.2.2 j hjt).2
      have ts : sg (am_u σ 6 0 6 (nI j)) (nI j) = nI (b j) := by
        have := tp_sg (σ := am_u σ 6 0 6 (nI j)) ht (i := j) (by omega)
        rw [if_pos hjt] at this
        exact this
      refine b_tt8 hX ⟨fun q => absurd ((hst j (by omega)).1 q) (by omega), fun _ => ⟨tp_ok ht, ?_⟩⟩
      rw [show am_u σ 6 0 6 (nI j) 6 0 6 = nI j from rfl, ts, show (nI (b j) = (32 : Int32) ↔ b j = 32) from nI_eq (b := 32) (by omega) (by decide), am_uu, show nI j + (1 : Int32) = nI (j + 1) from nI_add j 1]
      refine ⟨fun g => ih (j + 1) (by omega) (by rw [e]; exact fs_y hjt (decide_eq_true g)), fun g => ?_⟩
      rw [fs_n (Or.inr (decide_eq_false g))] at e
      rw [e] at main
      exact main
  exact loop (t - i) i (by omega) rfl
