/-! contracts of the crew's methods -/
abbrev am_K : Type := Option am_V → am_M → Prop
theorem q_ti {x n : Int32} {m : Int} (h : n.toInt = m) : x.toInt = m ↔ x = n := ⟨fun q => Int32.toInt_inj.1 (q.trans h.symm), fun q => q ▸ h⟩
theorem q_ti1 {x : Int32} : x.toInt = 1 ↔ x = 1 := q_ti rfl
theorem q_ti2 {x : Int32} : x.toInt = 2 ↔ x = 2 := q_ti rfl
theorem q_ti3 {x : Int32} : x.toInt = 3 ↔ x = 3 := q_ti rfl
theorem q_ti4 {x : Int32} : x.toInt = 4 ↔ x = 4 := q_ti rfl
/-- does a trade (1), a town (2), a tale (3) of one of this kind count -/
def cn (k w : Int32) : Bool := if k = 1 then decide (w ≠ 3) else if k = 2 then false else if k = 3 then decide (w ≠ 2) else if k = 4 then decide (w ≠ 1) else true
theorem uX0_counts {σ : am_M} {k w : Int32} {K : am_K} (h : ((cn k w = true) → K (some (.inl (1 : Int32))) σ) ∧ (¬ (cn k w = true) → K (some (.inl (0 : Int32))) σ)) : sX0_counts [.inl k, .inl w] σ K := by
  obtain ⟨h1, h0⟩ := h
  apply tX0_counts
  simp only [q_ti1, q_ti2, q_ti3, q_ti4]
  unfold cn at h1 h0
  refine ⟨fun a => ⟨fun b => h0 ?_, fun b => h1 ?_⟩, fun a => ⟨fun b => h0 ?_, fun b => ⟨fun c => ⟨fun d => h0 ?_, fun d => h1 ?_⟩, fun c => ⟨fun d => ⟨fun e => h0 ?_, fun e => h1 ?_⟩, fun d => h1 ?_⟩⟩⟩⟩ <;> simp [*]
/-- alike in a trade, a town, a tale -/
def alw (a b : Nat → Int32) (j : Nat) : Bool := decide (a j = b j) && (cn (a 0) (nI j) && cn (b 0) (nI j))
def al (a b : Nat → Int32) : Bool := alw a b 1 || (alw a b 2 || alw a b 3)
set_option maxRecDepth 100000 in
set_option maxHeartbeats 400000 in
theorem b_al0 {K : Option am_V → am_M → Prop} {X : Nat → am_L → List am_V → am_M → Prop} (hX : am_cl eX0_areAlike lX0_areAlike (some .boolean) K X) {σ : am_M} (x y : Nat) (h : X 2 [some (.inr (.inr (5, x))), some (.inr (.inr (5, y))), some (.inl (1 : Int32))] [] σ) : X 0 [some (.inr (.inr (5, x))), some (.inr (.inr (5, y))), none] [] σ := am_run_ok emX0_areAlike hX [2] 400 (show X 2 [some (.inr (.inr (5, x))), some (.inr (.inr (5, y))), some (.inl (1 : Int32))] [] σ from h)
set_option maxRecDepth 100000 in
set_option maxHeartbeats 400000 in
theorem b_al2 {K : Option am_V → am_M → Prop} {X : Nat → am_L → List am_V → am_M → Prop} (hX : am_cl eX0_areAlike lX0_areAlike (some .boolean) K X) {σ : am_M} (x y : Nat) (w : Int32) (h : (((3 : Int32) < w) → K (some (.inl (0 : Int32))) σ) ∧ (¬ ((3 : Int32) < w) → (vp_in w 7) ∧ ((vp_in w 7) ∧ ((((σ 5 x w.toNatClampNeg) = (σ 5 y w.toNatClampNeg)) → ((cn (σ 5 x 0) w = true) → ((cn (σ 5 y 0) w = true) → K (some (.inl (1 : Int32))) σ) ∧ (¬ (cn (σ 5 y 0) w = true) → X 2 [some (.inr (.inr (5, x))), some (.inr (.inr (5, y))), some (.inl (w + (1 : Int32)))] [] σ)) ∧ (¬ (cn (σ 5 x 0) w = true) → X 2 [some (.inr (.inr (5, x))), some (.inr (.inr (5, y))), some (.inl (w + (1 : Int32)))] [] σ)) ∧ (¬ ((σ 5 x w.toNatClampNeg) = (σ 5 y w.toNatClampNeg)) → X 2 [some (.inr (.inr (5, x))), some (.inr (.inr (5, y))), some (.inl (w + (1 : Int32)))] [] σ))))) : X 2 [some (.inr (.inr (5, x))), some (.inr (.inr (5, y))), some (.inl w)] [] σ := am_run_ok emX0_areAlike hX [2] 400 (show (((3 : Int32) < w) → (narrow .boolean (.int (0 : Int32)) = .int (0 : Int32)) ∧ (K (some (.inl (0 : Int32))) σ)) ∧ (¬ ((3 : Int32) < w) → (vp_in w 7) ∧ ((vp_in w 7) ∧ ((((σ 5 x w.toNatClampNeg) = (σ 5 y w.toNatClampNeg)) → (vp_in (0 : Int32) 7) ∧ (2 ≤ 2 ∧ 0 ≤ 8 ∧ sX0_counts [.inl (σ 5 x 0), .inl w] σ (fun vv tt => am_run eX0_areAlike lX0_areAlike (some .boolean) K X [2] 385 23 [some (.inr (.inr (5, x))), some (.inr (.inr (5, y))), some (.inl w)] (vv.toList ++ []) tt))) ∧ (¬ ((σ 5 x w.toNatClampNeg) = (σ 5 y w.toNatClampNeg)) → X 2 [some (.inr (.inr (5, x))), some (.inr (.inr (5, y))), some (.inl (w + (1 : Int32)))] [] σ)))) from ⟨fun q0 => ⟨rfl, (h.1 q0)⟩, fun q0 => ⟨(h.2 q0).1, ⟨(h.2 q0).2.1, ⟨fun q1 => ⟨am_ci (by decide), ⟨am_le rfl, am_le rfl, uX0_counts (⟨fun q2 => (show (((1 : Int32) = (0 : Int32)) → _) ∧ (¬ ((1 : Int32) = (0 : Int32)) → (vp_in (0 : Int32) 7) ∧ (2 ≤ 2 ∧ 0 ≤ 8 ∧ sX0_counts [.inl (σ 5 y 0), .inl w] σ (fun vv tt => am_run eX0_areAlike lX0_areAlike (some .boolean) K X [2] 379 33 [some (.inr (.inr (5, x))), some (.inr (.inr (5, y))), some (.inl w)] (vv.toList ++ []) tt))) from ⟨fun q => absurd q (by decide), fun _ => ⟨am_ci (by decide), ⟨am_le rfl, am_le rfl, uX0_counts (⟨fun q3 => (show (((1 : Int32) = (0 : Int32)) → _) ∧ (¬ ((1 : Int32) = (0 : Int32)) → (narrow .boolean (.int (1 : Int32)) = .int (1 : Int32)) ∧ (K (some (.inl (1 : Int32))) σ)) from ⟨fun q => absurd q (by decide), fun _ => ⟨rfl, ((((h.2 q0).2.2.1 q1).1 q2).1 q3)⟩⟩), fun q3 => (show (((0 : Int32) = (0 : Int32)) → X 2 [some (.inr (.inr (5, x))), some (.inr (.inr (5, y))), some (.inl (w + (1 : Int32)))] [] σ) ∧ (¬ ((0 : Int32) = (0 : Int32)) → _) from ⟨fun _ => ((((h.2 q0).2.2.1 q1).1 q2).2 q3), fun q => absurd (by decide) q⟩)⟩)⟩⟩⟩), fun q2 => (show (((0 : Int32) = (0 : Int32)) → X 2 [some (.inr (.inr (5, x))), some (.inr (.inr (5, y))), some (.inl (w + (1 : Int32)))] [] σ) ∧ (¬ ((0 : Int32) = (0 : Int32)) → _) from ⟨fun _ => (((h.2 q0).2.2.1 q1).2 q2), fun q => absurd (by decide) q⟩)⟩)⟩⟩, fun q1 => ((h.2 q0).2.2.2 q1)⟩⟩⟩⟩)
theorem tX0_areAlike {σ : am_M} {x y : Nat} {K : am_K} (h : ((al (σ 5 x) (σ 5 y) = true) → K (some (.inl (1 : Int32))) σ) ∧ (¬ (al (σ 5 x) (σ 5 y) = true) → K (some (.inl (0 : Int32))) σ)) : sX0_areAlike [.inr (.inr (5, x)), .inr (.inr (5, y))] σ K := by
  obtain ⟨h1, h0⟩ := h
  refine ⟨am_le rfl, fun X hX => b_al0 hX x y ?_⟩
  have st : ∀ j : Nat, 1 ≤ j → j ≤ 3 → (alw (σ 5 x) (σ 5 y) j = true → K (some (.inl (1 : Int32))) σ) → (alw (σ 5 x) (σ 5 y) j = false → X 2 [some (.inr (.inr (5, x))), some (.inr (.inr (5, y))), some (.inl (nI (j + 1)))] [] σ) → X 2 [some (.inr (.inr (5, x))), some (.inr (.inr (5, y))), some (.inl (nI j))] [] σ := by
    intro j j1 j3 ht hf
    have e : nI j + (1 : Int32) = nI (j + 1) := nI_1 j
    refine b_al2 hX x y (nI j) ?_
    rw [nI_clamp (by omega), e]
    unfold alw at ht hf
    refine ⟨fun q => absurd q (nI_nlt (b := j) (a := 3) j3 (by decide)), fun _ => ⟨q_in (by omega) (by decide), q_in (by omega) (by decide), fun a => ⟨fun b => ⟨fun c => ht ?_, fun c => hf ?_⟩, fun b => hf ?_⟩, fun a => hf ?_⟩⟩ <;> simp [*]
  have e4 : X 2 [some (.inr (.inr (5, x))), some (.inr (.inr (5, y))), some (.inl (nI 4))] [] σ ∨ al (σ 5 x) (σ 5 y) = true := by
    by_cases c : al (σ 5 x) (σ 5 y) = true
    · exact Or.inr c
    · left
      exact b_al2 hX x y (nI 4) ⟨fun _ => h0 c, fun q => absurd (by decide) q⟩
  unfold al at h1 h0 e4
  refine st 1 (by decide) (by decide) (fun a => h1 (by simp [a])) (fun a1 => st 2 (by decide) (by decide) (fun a => h1 (by simp [a])) (fun a2 => st 3 (by decide) (by decide) (fun a => h1 (by simp [a])) (fun a3 => ?_)))
  rcases e4 with q | q
  · exact q
  · simp [a1, a2, a3] at q
set_option maxRecDepth 100000 in
set_option maxHeartbeats 400000 in
theorem b_al0g {K : Option am_V → am_M → Prop} {X : Nat → am_L → List am_V → am_M → Prop} (hX : am_cl eX0_areAlike lX0_areAlike (some .boolean) K X) {σ : am_M} (x y : Nat) (h : X 2 [some (.inr (.inr (19, x))), some (.inr (.inr (5, y))), some (.inl (1 : Int32))] [] σ) : X 0 [some (.inr (.inr (19, x))), some (.inr (.inr (5, y))), none] [] σ := am_run_ok emX0_areAlike hX [2] 400 (show X 2 [some (.inr (.inr (19, x))), some (.inr (.inr (5, y))), some (.inl (1 : Int32))] [] σ from h)
set_option maxRecDepth 100000 in
set_option maxHeartbeats 400000 in
theorem b_al2g {K : Option am_V → am_M → Prop} {X : Nat → am_L → List am_V → am_M → Prop} (hX : am_cl eX0_areAlike lX0_areAlike (some .boolean) K X) {σ : am_M} (x y : Nat) (w : Int32) (h : (((3 : Int32) < w) → K (some (.inl (0 : Int32))) σ) ∧ (¬ ((3 : Int32) < w) → (vp_in w 7) ∧ ((vp_in w 7) ∧ ((((σ 19 x w.toNatClampNeg) = (σ 5 y w.toNatClampNeg)) → ((cn (σ 19 x 0) w = true) → ((cn (σ 5 y 0) w = true) → K (some (.inl (1 : Int32))) σ) ∧ (¬ (cn (σ 5 y 0) w = true) → X 2 [some (.inr (.inr (19, x))), some (.inr (.inr (5, y))), some (.inl (w + (1 : Int32)))] [] σ)) ∧ (¬ (cn (σ 19 x 0) w = true) → X 2 [some (.inr (.inr (19, x))), some (.inr (.inr (5, y))), some (.inl (w + (1 : Int32)))] [] σ)) ∧ (¬ ((σ 19 x w.toNatClampNeg) = (σ 5 y w.toNatClampNeg)) → X 2 [some (.inr (.inr (19, x))), some (.inr (.inr (5, y))), some (.inl (w + (1 : Int32)))] [] σ))))) : X 2 [some (.inr (.inr (19, x))), some (.inr (.inr (5, y))), some (.inl w)] [] σ := am_run_ok emX0_areAlike hX [2] 400 (show (((3 : Int32) < w) → (narrow .boolean (.int (0 : Int32)) = .int (0 : Int32)) ∧ (K (some (.inl (0 : Int32))) σ)) ∧ (¬ ((3 : Int32) < w) → (vp_in w 7) ∧ ((vp_in w 7) ∧ ((((σ 19 x w.toNatClampNeg) = (σ 5 y w.toNatClampNeg)) → (vp_in (0 : Int32) 7) ∧ (2 ≤ 2 ∧ 0 ≤ 8 ∧ sX0_counts [.inl (σ 19 x 0), .inl w] σ (fun vv tt => am_run eX0_areAlike lX0_areAlike (some .boolean) K X [2] 385 23 [some (.inr (.inr (19, x))), some (.inr (.inr (5, y))), some (.inl w)] (vv.toList ++ []) tt))) ∧ (¬ ((σ 19 x w.toNatClampNeg) = (σ 5 y w.toNatClampNeg)) → X 2 [some (.inr (.inr (19, x))), some (.inr (.inr (5, y))), some (.inl (w + (1 : Int32)))] [] σ)))) from ⟨fun q0 => ⟨rfl, (h.1 q0)⟩, fun q0 => ⟨(h.2 q0).1, ⟨(h.2 q0).2.1, ⟨fun q1 => ⟨am_ci (by decide), ⟨am_le rfl, am_le rfl, uX0_counts (⟨fun q2 => (show (((1 : Int32) = (0 : Int32)) → _) ∧ (¬ ((1 : Int32) = (0 : Int32)) → (vp_in (0 : Int32) 7) ∧ (2 ≤ 2 ∧ 0 ≤ 8 ∧ sX0_counts [.inl (σ 5 y 0), .inl w] σ (fun vv tt => am_run eX0_areAlike lX0_areAlike (some .boolean) K X [2] 379 33 [some (.inr (.inr (19, x))), some (.inr (.inr (5, y))), some (.inl w)] (vv.toList ++ []) tt))) from ⟨fun q => absurd q (by decide), fun _ => ⟨am_ci (by decide), ⟨am_le rfl, am_le rfl, uX0_counts (⟨fun q3 => (show (((1 : Int32) = (0 : Int32)) → _) ∧ (¬ ((1 : Int32) = (0 : Int32)) → (narrow .boolean (.int (1 : Int32)) = .int (1 : Int32)) ∧ (K (some (.inl (1 : Int32))) σ)) from ⟨fun q => absurd q (by decide), fun _ => ⟨rfl, ((((h.2 q0).2.2.1 q1).1 q2).1 q3)⟩⟩), fun q3 => (show (((0 : Int32) = (0 : Int32)) → X 2 [some (.inr (.inr (19, x))), some (.inr (.inr (5, y))), some (.inl (w + (1 : Int32)))] [] σ) ∧ (¬ ((0 : Int32) = (0 : Int32)) → _) from ⟨fun _ => ((((h.2 q0).2.2.1 q1).1 q2).2 q3), fun q => absurd (by decide) q⟩)⟩)⟩⟩⟩), fun q2 => (show (((0 : Int32) = (0 : Int32)) → X 2 [some (.inr (.inr (19, x))), some (.inr (.inr (5, y))), some (.inl (w + (1 : Int32)))] [] σ) ∧ (¬ ((0 : Int32) = (0 : Int32)) → _) from ⟨fun _ => (((h.2 q0).2.2.1 q1).2 q2), fun q => absurd (by decide) q⟩)⟩)⟩⟩, fun q1 => ((h.2 q0).2.2.2 q1)⟩⟩⟩⟩)
theorem tX0_areAlikeg {σ : am_M} {x y : Nat} {K : am_K} (h : ((al (σ 19 x) (σ 5 y) = true) → K (some (.inl (1 : Int32))) σ) ∧ (¬ (al (σ 19 x) (σ 5 y) = true) → K (some (.inl (0 : Int32))) σ)) : sX0_areAlike [.inr (.inr (19, x)), .inr (.inr (5, y))] σ K := by
  obtain ⟨h1, h0⟩ := h
  refine ⟨am_le rfl, fun X hX => b_al0g hX x y ?_⟩
  have st : ∀ j : Nat, 1 ≤ j → j ≤ 3 → (alw (σ 19 x) (σ 5 y) j = true → K (some (.inl (1 : Int32))) σ) → (alw (σ 19 x) (σ 5 y) j = false → X 2 [some (.inr (.inr (19, x))), some (.inr (.inr (5, y))), some (.inl (nI (j + 1)))] [] σ) → X 2 [some (.inr (.inr (19, x))), some (.inr (.inr (5, y))), some (.inl (nI j))] [] σ := by
    intro j j1 j3 ht hf
    have e : nI j + (1 : Int32) = nI (j + 1) := nI_1 j
    refine b_al2g hX x y (nI j) ?_
    rw [nI_clamp (by omega), e]
    unfold alw at ht hf
    refine ⟨fun q => absurd q (nI_nlt (b := j) (a := 3) j3 (by decide)), fun _ => ⟨q_in (by omega) (by decide), q_in (by omega) (by decide), fun a => ⟨fun b => ⟨fun c => ht ?_, fun c => hf ?_⟩, fun b => hf ?_⟩, fun a => hf ?_⟩⟩ <;> simp [*]
  have e4 : X 2 [some (.inr (.inr (19, x))), some (.inr (.inr (5, y))), some (.inl (nI 4))] [] σ ∨ al (σ 19 x) (σ 5 y) = true := by
    by_cases c : al (σ 19 x) (σ 5 y) = true
    · exact Or.inr c
    · left
      exact b_al2g hX x y (nI 4) ⟨fun _ => h0 c, fun q => absurd (by decide) q⟩
  unfold al at h1 h0 e4
  refine st 1 (by decide) (by decide) (fun a => h1 (by simp [a])) (fun a1 => st 2 (by decide) (by decide) (fun a => h1 (by simp [a])) (fun a2 => st 3 (by decide) (by decide) (fun a => h1 (by simp [a])) (fun a3 => ?_)))
  rcases e4 with q | q
  · exact q
  · simp [a1, a2, a3] at q
/-- how many ones a crew has -/
def c_n (σ : am_M) (c : Nat) : Nat := (σ 3 c 1).toNatClampNeg
def c_ok (σ : am_M) (c : Nat) : Prop := q_lim (σ 3 c 1) 9
theorem c_ok_e {σ : am_M} {c : Nat} (h : c_ok σ c) : σ 3 c 1 = nI (c_n σ c) ∧ c_n σ c ≤ 9 := h
/-- those who stand so -/
def c_who (σ : am_M) (c : Nat) (s : Int32) : Nat := q_set (fun p => decide (σ 5 (9 * c + p) 6 = s)) (c_n σ c)
set_option maxRecDepth 100000 in
set_option maxHeartbeats 400000 in
theorem b_those0 {K : Option am_V → am_M → Prop} {X : Nat → am_L → List am_V → am_M → Prop} (hX : am_cl eX0_those lX0_those (some .int) K X) {σ : am_M} (c : Nat) (s : Int32) (h : X 4 [some (.inr (.inr (3, c))), some (.inl s), some (.inl (0 : Int32)), some (.inl (0 : Int32))] [] σ) : X 0 [some (.inr (.inr (3, c))), some (.inl s), none, none] [] σ := am_run_ok emX0_those hX [4] 400 (show X 4 [some (.inr (.inr (3, c))), some (.inl s), some (.inl (0 : Int32)), some (.inl (0 : Int32))] [] σ from h)
set_option maxRecDepth 100000 in
set_option maxHeartbeats 400000 in
theorem b_those4 {K : Option am_V → am_M → Prop} {X : Nat → am_L → List am_V → am_M → Prop} (hX : am_cl eX0_those lX0_those (some .int) K X) {σ : am_M} (c : Nat) (s x p : Int32) (h : (((σ 3 c 1) ≤ p) → K (some (.inl x)) σ) ∧ (¬ ((σ 3 c 1) ≤ p) → (vp_in p 9) ∧ ((((σ 5 (9 * c + p.toNatClampNeg) 6) = s) → X 4 [some (.inr (.inr (3, c))), some (.inl s), some (.inl (x ||| ((1 : Int32) <<< (p &&& 31)))), some (.inl (p + (1 : Int32)))] [] σ) ∧ (¬ ((σ 5 (9 * c + p.toNatClampNeg) 6) = s) → X 4 [some (.inr (.inr (3, c))), some (.inl s), some (.inl (x ||| (0 : Int32))), some (.inl (p + (1 : Int32)))] [] σ)))) : X 4 [some (.inr (.inr (3, c))), some (.inl s), some (.inl x), some (.inl p)] [] σ := am_run_ok emX0_those hX [4] 400 (show (((σ 3 c 1) ≤ p) → K (some (.inl x)) σ) ∧ (¬ ((σ 3 c 1) ≤ p) → (vp_in p 9) ∧ ((vp_in (6 : Int32) 7) ∧ ((((σ 5 (9 * c + p.toNatClampNeg) 6) = s) → X 4 [some (.inr (.inr (3, c))), some (.inl s), some (.inl (x ||| ((1 : Int32) <<< (p &&& 31)))), some (.inl (p + (1 : Int32)))] [] σ) ∧ (¬ ((σ 5 (9 * c + p.toNatClampNeg) 6) = s) → X 4 [some (.inr (.inr (3, c))), some (.inl s), some (.inl (x ||| (0 : Int32))), some (.inl (p + (1 : Int32)))] [] σ)))) from ⟨fun q0 => (h.1 q0), fun q0 => ⟨(h.2 q0).1, ⟨am_ci (by decide), ⟨fun q1 => ((h.2 q0).2.1 q1), fun q1 => ((h.2 q0).2.2 q1)⟩⟩⟩⟩)
theorem tX0_those {σ : am_M} {c : Nat} {s : Int32} {K : am_K} (h : (c_ok σ c) ∧ (K (some (.inl (nI (c_who σ c s)))) σ)) : sX0_those [.inr (.inr (3, c)), .inl s] σ K := by
  obtain ⟨ho, h⟩ := h
  obtain ⟨hn, h9⟩ := c_ok_e ho
  unfold c_who at h
  generalize c_n σ c = n at hn h9 h
  refine ⟨am_le rfl, fun X hX => b_those0 hX c s ?_⟩
  refine q_dn (W := fun i => X 4 [some (.inr (.inr (3, c))), some (.inl s), some (.inl (nI (q_set (fun p => decide (σ 5 (9 * c + p) 6 = s)) i))), some (.inl (nI i))] [] σ) (n := n) (fun i hi ih => ?_) ?_ 0 (Nat.zero_le _)
  · refine b_those4 hX c s _ (nI i) ?_
    rw [hn, nI_clamp (by omega), q_one i (by omega), q_or, q_or0, show nI i + (1 : Int32) = nI (i + 1) from nI_1 i]
    refine ⟨fun q => absurd q (nI_ge hi (by omega)), fun _ => ⟨q_in (by omega) (by decide), fun q => ?_, fun q => ?_⟩⟩
    · rw [q_set_1 (by simp [q])] at ih
      exact ih
    · rw [q_set_0 (by simp [q])] at ih
      exact ih
  · refine b_those4 hX c s _ (nI n) ⟨fun _ => h, fun q => absurd ?_ q⟩
    rw [hn]
    exact nI_le (Nat.le_refl _) (by omega)
set_option maxRecDepth 100000 in
set_option maxHeartbeats 400000 in
theorem tJ6_bitCount {σ : am_M} {x : Int32} {K : Option am_V → am_M → Prop} (h : K (some (.inl ((((((((x - (((x).toUInt32 >>> (((1 : Int32)).toUInt32 &&& Int32.toUInt32 31)).toInt32 &&& (1431655765 : Int32))) &&& (858993459 : Int32)) + ((((x - (((x).toUInt32 >>> (((1 : Int32)).toUInt32 &&& Int32.toUInt32 31)).toInt32 &&& (1431655765 : Int32)))).toUInt32 >>> (((2 : Int32)).toUInt32 &&& Int32.toUInt32 31)).toInt32 &&& (858993459 : Int32))) + (((((x - (((x).toUInt32 >>> (((1 : Int32)).toUInt32 &&& Int32.toUInt32 31)).toInt32 &&& (1431655765 : Int32))) &&& (858993459 : Int32)) + ((((x - (((x).toUInt32 >>> (((1 : Int32)).toUInt32 &&& Int32.toUInt32 31)).toInt32 &&& (1431655765 : Int32)))).toUInt32 >>> (((2 : Int32)).toUInt32 &&& Int32.toUInt32 31)).toInt32 &&& (858993459 : Int32)))).toUInt32 >>> (((4 : Int32)).toUInt32 &&& Int32.toUInt32 31)).toInt32) &&& (252645135 : Int32)) + (((((((x - (((x).toUInt32 >>> (((1 : Int32)).toUInt32 &&& Int32.toUInt32 31)).toInt32 &&& (1431655765 : Int32))) &&& (858993459 : Int32)) + ((((x - (((x).toUInt32 >>> (((1 : Int32)).toUInt32 &&& Int32.toUInt32 31)).toInt32 &&& (1431655765 : Int32)))).toUInt32 >>> (((2 : Int32)).toUInt32 &&& Int32.toUInt32 31)).toInt32 &&& (858993459 : Int32))) + (((((x - (((x).toUInt32 >>> (((1 : Int32)).toUInt32 &&& Int32.toUInt32 31)).toInt32 &&& (1431655765 : Int32))) &&& (858993459 : Int32)) + ((((x - (((x).toUInt32 >>> (((1 : Int32)).toUInt32 &&& Int32.toUInt32 31)).toInt32 &&& (1431655765 : Int32)))).toUInt32 >>> (((2 : Int32)).toUInt32 &&& Int32.toUInt32 31)).toInt32 &&& (858993459 : Int32)))).toUInt32 >>> (((4 : Int32)).toUInt32 &&& Int32.toUInt32 31)).toInt32) &&& (252645135 : Int32))).toUInt32 >>> (((8 : Int32)).toUInt32 &&& Int32.toUInt32 31)).toInt32) + ((((((((x - (((x).toUInt32 >>> (((1 : Int32)).toUInt32 &&& Int32.toUInt32 31)).toInt32 &&& (1431655765 : Int32))) &&& (858993459 : Int32)) + ((((x - (((x).toUInt32 >>> (((1 : Int32)).toUInt32 &&& Int32.toUInt32 31)).toInt32 &&& (1431655765 : Int32)))).toUInt32 >>> (((2 : Int32)).toUInt32 &&& Int32.toUInt32 31)).toInt32 &&& (858993459 : Int32))) + (((((x - (((x).toUInt32 >>> (((1 : Int32)).toUInt32 &&& Int32.toUInt32 31)).toInt32 &&& (1431655765 : Int32))) &&& (858993459 : Int32)) + ((((x - (((x).toUInt32 >>> (((1 : Int32)).toUInt32 &&& Int32.toUInt32 31)).toInt32 &&& (1431655765 : Int32)))).toUInt32 >>> (((2 : Int32)).toUInt32 &&& Int32.toUInt32 31)).toInt32 &&& (858993459 : Int32)))).toUInt32 >>> (((4 : Int32)).toUInt32 &&& Int32.toUInt32 31)).toInt32) &&& (252645135 : Int32)) + (((((((x - (((x).toUInt32 >>> (((1 : Int32)).toUInt32 &&& Int32.toUInt32 31)).toInt32 &&& (1431655765 : Int32))) &&& (858993459 : Int32)) + ((((x - (((x).toUInt32 >>> (((1 : Int32)).toUInt32 &&& Int32.toUInt32 31)).toInt32 &&& (1431655765 : Int32)))).toUInt32 >>> (((2 : Int32)).toUInt32 &&& Int32.toUInt32 31)).toInt32 &&& (858993459 : Int32))) + (((((x - (((x).toUInt32 >>> (((1 : Int32)).toUInt32 &&& Int32.toUInt32 31)).toInt32 &&& (1431655765 : Int32))) &&& (858993459 : Int32)) + ((((x - (((x).toUInt32 >>> (((1 : Int32)).toUInt32 &&& Int32.toUInt32 31)).toInt32 &&& (1431655765 : Int32)))).toUInt32 >>> (((2 : Int32)).toUInt32 &&& Int32.toUInt32 31)).toInt32 &&& (858993459 : Int32)))).toUInt32 >>> (((4 : Int32)).toUInt32 &&& Int32.toUInt32 31)).toInt32) &&& (252645135 : Int32))).toUInt32 >>> (((8 : Int32)).toUInt32 &&& Int32.toUInt32 31)).toInt32)).toUInt32 >>> (((16 : Int32)).toUInt32 &&& Int32.toUInt32 31)).toInt32) &&& (63 : Int32)))) σ) : sJ6_bitCount [.inl x] σ K := ⟨am_le rfl, fun X hX => am_run_ok emJ6_bitCount hX [] 2000 (show K (some (.inl ((((((((x - (((x).toUInt32 >>> (((1 : Int32)).toUInt32 &&& Int32.toUInt32 31)).toInt32 &&& (1431655765 : Int32))) &&& (858993459 : Int32)) + ((((x - (((x).toUInt32 >>> (((1 : Int32)).toUInt32 &&& Int32.toUInt32 31)).toInt32 &&& (1431655765 : Int32)))).toUInt32 >>> (((2 : Int32)).toUInt32 &&& Int32.toUInt32 31)).toInt32 &&& (858993459 : Int32))) + (((((x - (((x).toUInt32 >>> (((1 : Int32)).toUInt32 &&& Int32.toUInt32 31)).toInt32 &&& (1431655765 : Int32))) &&& (858993459 : Int32)) + ((((x - (((x).toUInt32 >>> (((1 : Int32)).toUInt32 &&& Int32.toUInt32 31)).toInt32 &&& (1431655765 : Int32)))).toUInt32 >>> (((2 : Int32)).toUInt32 &&& Int32.toUInt32 31)).toInt32 &&& (858993459 : Int32)))).toUInt32 >>> (((4 : Int32)).toUInt32 &&& Int32.toUInt32 31)).toInt32) &&& (252645135 : Int32)) + (((((((x - (((x).toUInt32 >>> (((1 : Int32)).toUInt32 &&& Int32.toUInt32 31)).toInt32 &&& (1431655765 : Int32))) &&& (858993459 : Int32)) + ((((x - (((x).toUInt32 >>> (((1 : Int32)).toUInt32 &&& Int32.toUInt32 31)).toInt32 &&& (1431655765 : Int32)))).toUInt32 >>> (((2 : Int32)).toUInt32 &&& Int32.toUInt32 31)).toInt32 &&& (858993459 : Int32))) + (((((x - (((x).toUInt32 >>> (((1 : Int32)).toUInt32 &&& Int32.toUInt32 31)).toInt32 &&& (1431655765 : Int32))) &&& (858993459 : Int32)) + ((((x - (((x).toUInt32 >>> (((1 : Int32)).toUInt32 &&& Int32.toUInt32 31)).toInt32 &&& (1431655765 : Int32)))).toUInt32 >>> (((2 : Int32)).toUInt32 &&& Int32.toUInt32 31)).toInt32 &&& (858993459 : Int32)))).toUInt32 >>> (((4 : Int32)).toUInt32 &&& Int32.toUInt32 31)).toInt32) &&& (252645135 : Int32))).toUInt32 >>> (((8 : Int32)).toUInt32 &&& Int32.toUInt32 31)).toInt32) + ((((((((x - (((x).toUInt32 >>> (((1 : Int32)).toUInt32 &&& Int32.toUInt32 31)).toInt32 &&& (1431655765 : Int32))) &&& (858993459 : Int32)) + ((((x - (((x).toUInt32 >>> (((1 : Int32)).toUInt32 &&& Int32.toUInt32 31)).toInt32 &&& (1431655765 : Int32)))).toUInt32 >>> (((2 : Int32)).toUInt32 &&& Int32.toUInt32 31)).toInt32 &&& (858993459 : Int32))) + (((((x - (((x).toUInt32 >>> (((1 : Int32)).toUInt32 &&& Int32.toUInt32 31)).toInt32 &&& (1431655765 : Int32))) &&& (858993459 : Int32)) + ((((x - (((x).toUInt32 >>> (((1 : Int32)).toUInt32 &&& Int32.toUInt32 31)).toInt32 &&& (1431655765 : Int32)))).toUInt32 >>> (((2 : Int32)).toUInt32 &&& Int32.toUInt32 31)).toInt32 &&& (858993459 : Int32)))).toUInt32 >>> (((4 : Int32)).toUInt32 &&& Int32.toUInt32 31)).toInt32) &&& (252645135 : Int32)) + (((((((x - (((x).toUInt32 >>> (((1 : Int32)).toUInt32 &&& Int32.toUInt32 31)).toInt32 &&& (1431655765 : Int32))) &&& (858993459 : Int32)) + ((((x - (((x).toUInt32 >>> (((1 : Int32)).toUInt32 &&& Int32.toUInt32 31)).toInt32 &&& (1431655765 : Int32)))).toUInt32 >>> (((2 : Int32)).toUInt32 &&& Int32.toUInt32 31)).toInt32 &&& (858993459 : Int32))) + (((((x - (((x).toUInt32 >>> (((1 : Int32)).toUInt32 &&& Int32.toUInt32 31)).toInt32 &&& (1431655765 : Int32))) &&& (858993459 : Int32)) + ((((x - (((x).toUInt32 >>> (((1 : Int32)).toUInt32 &&& Int32.toUInt32 31)).toInt32 &&& (1431655765 : Int32)))).toUInt32 >>> (((2 : Int32)).toUInt32 &&& Int32.toUInt32 31)).toInt32 &&& (858993459 : Int32)))).toUInt32 >>> (((4 : Int32)).toUInt32 &&& Int32.toUInt32 31)).toInt32) &&& (252645135 : Int32))).toUInt32 >>> (((8 : Int32)).toUInt32 &&& Int32.toUInt32 31)).toInt32)).toUInt32 >>> (((16 : Int32)).toUInt32 &&& Int32.toUInt32 31)).toInt32) &&& (63 : Int32)))) σ from h)⟩
def f_bc (x : Int32) : Int32 := ((((((((x - (((x).toUInt32 >>> (((1 : Int32)).toUInt32 &&& Int32.toUInt32 31)).toInt32 &&& (1431655765 : Int32))) &&& (858993459 : Int32)) + ((((x - (((x).toUInt32 >>> (((1 : Int32)).toUInt32 &&& Int32.toUInt32 31)).toInt32 &&& (1431655765 : Int32)))).toUInt32 >>> (((2 : Int32)).toUInt32 &&& Int32.toUInt32 31)).toInt32 &&& (858993459 : Int32))) + (((((x - (((x).toUInt32 >>> (((1 : Int32)).toUInt32 &&& Int32.toUInt32 31)).toInt32 &&& (1431655765 : Int32))) &&& (858993459 : Int32)) + ((((x - (((x).toUInt32 >>> (((1 : Int32)).toUInt32 &&& Int32.toUInt32 31)).toInt32 &&& (1431655765 : Int32)))).toUInt32 >>> (((2 : Int32)).toUInt32 &&& Int32.toUInt32 31)).toInt32 &&& (858993459 : Int32)))).toUInt32 >>> (((4 : Int32)).toUInt32 &&& Int32.toUInt32 31)).toInt32) &&& (252645135 : Int32)) + (((((((x - (((x).toUInt32 >>> (((1 : Int32)).toUInt32 &&& Int32.toUInt32 31)).toInt32 &&& (1431655765 : Int32))) &&& (858993459 : Int32)) + ((((x - (((x).toUInt32 >>> (((1 : Int32)).toUInt32 &&& Int32.toUInt32 31)).toInt32 &&& (1431655765 : Int32)))).toUInt32 >>> (((2 : Int32)).toUInt32 &&& Int32.toUInt32 31)).toInt32 &&& (858993459 : Int32))) + (((((x - (((x).toUInt32 >>> (((1 : Int32)).toUInt32 &&& Int32.toUInt32 31)).toInt32 &&& (1431655765 : Int32))) &&& (858993459 : Int32)) + ((((x - (((x).toUInt32 >>> (((1 : Int32)).toUInt32 &&& Int32.toUInt32 31)).toInt32 &&& (1431655765 : Int32)))).toUInt32 >>> (((2 : Int32)).toUInt32 &&& Int32.toUInt32 31)).toInt32 &&& (858993459 : Int32)))).toUInt32 >>> (((4 : Int32)).toUInt32 &&& Int32.toUInt32 31)).toInt32) &&& (252645135 : Int32))).toUInt32 >>> (((8 : Int32)).toUInt32 &&& Int32.toUInt32 31)).toInt32) + ((((((((x - (((x).toUInt32 >>> (((1 : Int32)).toUInt32 &&& Int32.toUInt32 31)).toInt32 &&& (1431655765 : Int32))) &&& (858993459 : Int32)) + ((((x - (((x).toUInt32 >>> (((1 : Int32)).toUInt32 &&& Int32.toUInt32 31)).toInt32 &&& (1431655765 : Int32)))).toUInt32 >>> (((2 : Int32)).toUInt32 &&& Int32.toUInt32 31)).toInt32 &&& (858993459 : Int32))) + (((((x - (((x).toUInt32 >>> (((1 : Int32)).toUInt32 &&& Int32.toUInt32 31)).toInt32 &&& (1431655765 : Int32))) &&& (858993459 : Int32)) + ((((x - (((x).toUInt32 >>> (((1 : Int32)).toUInt32 &&& Int32.toUInt32 31)).toInt32 &&& (1431655765 : Int32)))).toUInt32 >>> (((2 : Int32)).toUInt32 &&& Int32.toUInt32 31)).toInt32 &&& (858993459 : Int32)))).toUInt32 >>> (((4 : Int32)).toUInt32 &&& Int32.toUInt32 31)).toInt32) &&& (252645135 : Int32)) + (((((((x - (((x).toUInt32 >>> (((1 : Int32)).toUInt32 &&& Int32.toUInt32 31)).toInt32 &&& (1431655765 : Int32))) &&& (858993459 : Int32)) + ((((x - (((x).toUInt32 >>> (((1 : Int32)).toUInt32 &&& Int32.toUInt32 31)).toInt32 &&& (1431655765 : Int32)))).toUInt32 >>> (((2 : Int32)).toUInt32 &&& Int32.toUInt32 31)).toInt32 &&& (858993459 : Int32))) + (((((x - (((x).toUInt32 >>> (((1 : Int32)).toUInt32 &&& Int32.toUInt32 31)).toInt32 &&& (1431655765 : Int32))) &&& (858993459 : Int32)) + ((((x - (((x).toUInt32 >>> (((1 : Int32)).toUInt32 &&& Int32.toUInt32 31)).toInt32 &&& (1431655765 : Int32)))).toUInt32 >>> (((2 : Int32)).toUInt32 &&& Int32.toUInt32 31)).toInt32 &&& (858993459 : Int32)))).toUInt32 >>> (((4 : Int32)).toUInt32 &&& Int32.toUInt32 31)).toInt32) &&& (252645135 : Int32))).toUInt32 >>> (((8 : Int32)).toUInt32 &&& Int32.toUInt32 31)).toInt32)).toUInt32 >>> (((16 : Int32)).toUInt32 &&& Int32.toUInt32 31)).toInt32) &&& (63 : Int32))
theorem uJ6_bitCount {σ : am_M} {x : Int32} {K : Option am_V → am_M → Prop} (h : K (some (.inl (f_bc x))) σ) : sJ6_bitCount [.inl x] σ K := by
  apply tJ6_bitCount
  unfold f_bc at h
  exact h
set_option maxRecDepth 100000 in
set_option maxHeartbeats 400000 in
theorem b_lz3 {K : Option am_V → am_M → Prop} {X : Nat → am_L → List am_V → am_M → Prop} (hX : am_cl eJ6_numberOfLeadingZeros lJ6_numberOfLeadingZeros (some .int) K X) {σ : am_M} {x n : Int32} (h : ((x < (16 : Int32)) → ((x < (4 : Int32)) → K (some (.inl (n - ((x).toUInt32 >>> (((1 : Int32)).toUInt32 &&& Int32.toUInt32 31)).toInt32))) σ) ∧ (¬ (x < (4 : Int32)) → K (some (.inl ((n + (-2 : Int32)) - ((((x).toUInt32 >>> (((2 : Int32)).toUInt32 &&& Int32.toUInt32 31)).toInt32).toUInt32 >>> (((1 : Int32)).toUInt32 &&& Int32.toUInt32 31)).toInt32))) σ)) ∧ (¬ (x < (16 : Int32)) → ((((x).toUInt32 >>> (((4 : Int32)).toUInt32 &&& Int32.toUInt32 31)).toInt32 < (4 : Int32)) → K (some (.inl ((n + (-4 : Int32)) - ((((x).toUInt32 >>> (((4 : Int32)).toUInt32 &&& Int32.toUInt32 31)).toInt32).toUInt32 >>> (((1 : Int32)).toUInt32 &&& Int32.toUInt32 31)).toInt32))) σ) ∧ (¬ (((x).toUInt32 >>> (((4 : Int32)).toUInt32 &&& Int32.toUInt32 31)).toInt32 < (4 : Int32)) → K (some (.inl (((n + (-4 : Int32)) + (-2 : Int32)) - ((((((x).toUInt32 >>> (((4 : Int32)).toUInt32 &&& Int32.toUInt32 31)).toInt32).toUInt32 >>> (((2 : Int32)).toUInt32 &&& Int32.toUInt32 31)).toInt32).toUInt32 >>> (((1 : Int32)).toUInt32 &&& Int32.toUInt32 31)).toInt32))) σ))) : X 48 [some (.inl x), some (.inl n)] [] σ := am_run_ok emJ6_numberOfLeadingZeros hX [] 400 (show ((x < (16 : Int32)) → ((x < (4 : Int32)) → K (some (.inl (n - ((x).toUInt32 >>> (((1 : Int32)).toUInt32 &&& Int32.toUInt32 31)).toInt32))) σ) ∧ (¬ (x < (4 : Int32)) → K (some (.inl ((n + (-2 : Int32)) - ((((x).toUInt32 >>> (((2 : Int32)).toUInt32 &&& Int32.toUInt32 31)).toInt32).toUInt32 >>> (((1 : Int32)).toUInt32 &&& Int32.toUInt32 31)).toInt32))) σ)) ∧ (¬ (x < (16 : Int32)) → ((((x).toUInt32 >>> (((4 : Int32)).toUInt32 &&& Int32.toUInt32 31)).toInt32 < (4 : Int32)) → K (some (.inl ((n + (-4 : Int32)) - ((((x).toUInt32 >>> (((4 : Int32)).toUInt32 &&& Int32.toUInt32 31)).toInt32).toUInt32 >>> (((1 : Int32)).toUInt32 &&& Int32.toUInt32 31)).toInt32))) σ) ∧ (¬ (((x).toUInt32 >>> (((4 : Int32)).toUInt32 &&& Int32.toUInt32 31)).toInt32 < (4 : Int32)) → K (some (.inl (((n + (-4 : Int32)) + (-2 : Int32)) - ((((((x).toUInt32 >>> (((4 : Int32)).toUInt32 &&& Int32.toUInt32 31)).toInt32).toUInt32 >>> (((2 : Int32)).toUInt32 &&& Int32.toUInt32 31)).toInt32).toUInt32 >>> (((1 : Int32)).toUInt32 &&& Int32.toUInt32 31)).toInt32))) σ)) from ⟨fun q0 => ⟨fun q1 => ((h.1 q0).1 q1), fun q1 => ((h.1 q0).2 q1)⟩, fun q0 => ⟨fun q1 => ((h.2 q0).1 q1), fun q1 => ((h.2 q0).2 q1)⟩⟩)
def f_lz3 (x n : Int32) : Int32 := (if x < (16 : Int32) then (if x < (4 : Int32) then (n - ((x).toUInt32 >>> (((1 : Int32)).toUInt32 &&& Int32.toUInt32 31)).toInt32) else ((n + (-2 : Int32)) - ((((x).toUInt32 >>> (((2 : Int32)).toUInt32 &&& Int32.toUInt32 31)).toInt32).toUInt32 >>> (((1 : Int32)).toUInt32 &&& Int32.toUInt32 31)).toInt32)) else (if ((x).toUInt32 >>> (((4 : Int32)).toUInt32 &&& Int32.toUInt32 31)).toInt32 < (4 : Int32) then ((n + (-4 : Int32)) - ((((x).toUInt32 >>> (((4 : Int32)).toUInt32 &&& Int32.toUInt32 31)).toInt32).toUInt32 >>> (((1 : Int32)).toUInt32 &&& Int32.toUInt32 31)).toInt32) else (((n + (-4 : Int32)) + (-2 : Int32)) - ((((((x).toUInt32 >>> (((4 : Int32)).toUInt32 &&& Int32.toUInt32 31)).toInt32).toUInt32 >>> (((2 : Int32)).toUInt32 &&& Int32.toUInt32 31)).toInt32).toUInt32 >>> (((1 : Int32)).toUInt32 &&& Int32.toUInt32 31)).toInt32)))
theorem u_lz3 {K : Option am_V → am_M → Prop} {X : Nat → am_L → List am_V → am_M → Prop} (hX : am_cl eJ6_numberOfLeadingZeros lJ6_numberOfLeadingZeros (some .int) K X) {σ : am_M} {x n : Int32} (h : K (some (.inl (f_lz3 x n))) σ) : X 48 [some (.inl x), some (.inl n)] [] σ := by
  apply b_lz3 hX
  unfold f_lz3 at h
  refine ⟨fun q0 => ?_, fun q0 => ?_⟩
  · rw [if_pos q0] at h
    refine ⟨fun q1 => ?_, fun q1 => ?_⟩
    · rw [if_pos q1] at h
      exact h
    · rw [if_neg q1] at h
      exact h
  · rw [if_neg q0] at h
    refine ⟨fun q1 => ?_, fun q1 => ?_⟩
    · rw [if_pos q1] at h
      exact h
    · rw [if_neg q1] at h
      exact h
set_option maxRecDepth 100000 in
set_option maxHeartbeats 400000 in
theorem b_lz2 {K : Option am_V → am_M → Prop} {X : Nat → am_L → List am_V → am_M → Prop} (hX : am_cl eJ6_numberOfLeadingZeros lJ6_numberOfLeadingZeros (some .int) K X) {σ : am_M} {x n : Int32} (h : ((x < (65536 : Int32)) → ((x < (256 : Int32)) → X 48 [some (.inl x), some (.inl n)] [] σ) ∧ (¬ (x < (256 : Int32)) → X 48 [some (.inl ((x).toUInt32 >>> (((8 : Int32)).toUInt32 &&& Int32.toUInt32 31)).toInt32), some (.inl (n + (-8 : Int32)))] [] σ)) ∧ (¬ (x < (65536 : Int32)) → ((((x).toUInt32 >>> (((16 : Int32)).toUInt32 &&& Int32.toUInt32 31)).toInt32 < (256 : Int32)) → X 48 [some (.inl ((x).toUInt32 >>> (((16 : Int32)).toUInt32 &&& Int32.toUInt32 31)).toInt32), some (.inl (n + (-16 : Int32)))] [] σ) ∧ (¬ (((x).toUInt32 >>> (((16 : Int32)).toUInt32 &&& Int32.toUInt32 31)).toInt32 < (256 : Int32)) → X 48 [some (.inl ((((x).toUInt32 >>> (((16 : Int32)).toUInt32 &&& Int32.toUInt32 31)).toInt32).toUInt32 >>> (((8 : Int32)).toUInt32 &&& Int32.toUInt32 31)).toInt32), some (.inl ((n + (-16 : Int32)) + (-8 : Int32)))] [] σ))) : X 18 [some (.inl x), some (.inl n)] [] σ := am_run_ok emJ6_numberOfLeadingZeros hX [48] 400 (show ((x < (65536 : Int32)) → ((x < (256 : Int32)) → X 48 [some (.inl x), some (.inl n)] [] σ) ∧ (¬ (x < (256 : Int32)) → X 48 [some (.inl ((x).toUInt32 >>> (((8 : Int32)).toUInt32 &&& Int32.toUInt32 31)).toInt32), some (.inl (n + (-8 : Int32)))] [] σ)) ∧ (¬ (x < (65536 : Int32)) → ((((x).toUInt32 >>> (((16 : Int32)).toUInt32 &&& Int32.toUInt32 31)).toInt32 < (256 : Int32)) → X 48 [some (.inl ((x).toUInt32 >>> (((16 : Int32)).toUInt32 &&& Int32.toUInt32 31)).toInt32), some (.inl (n + (-16 : Int32)))] [] σ) ∧ (¬ (((x).toUInt32 >>> (((16 : Int32)).toUInt32 &&& Int32.toUInt32 31)).toInt32 < (256 : Int32)) → X 48 [some (.inl ((((x).toUInt32 >>> (((16 : Int32)).toUInt32 &&& Int32.toUInt32 31)).toInt32).toUInt32 >>> (((8 : Int32)).toUInt32 &&& Int32.toUInt32 31)).toInt32), some (.inl ((n + (-16 : Int32)) + (-8 : Int32)))] [] σ)) from ⟨fun q0 => ⟨fun q1 => ((h.1 q0).1 q1), fun q1 => ((h.1 q0).2 q1)⟩, fun q0 => ⟨fun q1 => ((h.2 q0).1 q1), fun q1 => ((h.2 q0).2 q1)⟩⟩)
def f_lz2 (x n : Int32) : Int32 := (if x < (65536 : Int32) then (if x < (256 : Int32) then (f_lz3 x n) else (f_lz3 ((x).toUInt32 >>> (((8 : Int32)).toUInt32 &&& Int32.toUInt32 31)).toInt32 (n + (-8 : Int32)))) else (if ((x).toUInt32 >>> (((16 : Int32)).toUInt32 &&& Int32.toUInt32 31)).toInt32 < (256 : Int32) then (f_lz3 ((x).toUInt32 >>> (((16 : Int32)).toUInt32 &&& Int32.toUInt32 31)).toInt32 (n + (-16 : Int32))) else (f_lz3 ((((x).toUInt32 >>> (((16 : Int32)).toUInt32 &&& Int32.toUInt32 31)).toInt32).toUInt32 >>> (((8 : Int32)).toUInt32 &&& Int32.toUInt32 31)).toInt32 ((n + (-16 : Int32)) + (-8 : Int32)))))
theorem u_lz2 {K : Option am_V → am_M → Prop} {X : Nat → am_L → List am_V → am_M → Prop} (hX : am_cl eJ6_numberOfLeadingZeros lJ6_numberOfLeadingZeros (some .int) K X) {σ : am_M} {x n : Int32} (h : K (some (.inl (f_lz2 x n))) σ) : X 18 [some (.inl x), some (.inl n)] [] σ := by
  apply b_lz2 hX
  unfold f_lz2 at h
  refine ⟨fun q0 => ?_, fun q0 => ?_⟩
  · rw [if_pos q0] at h
    refine ⟨fun q1 => ?_, fun q1 => ?_⟩
    · rw [if_pos q1] at h
      exact u_lz3 hX h
    · rw [if_neg q1] at h
      exact u_lz3 hX h
  · rw [if_neg q0] at h
    refine ⟨fun q1 => ?_, fun q1 => ?_⟩
    · rw [if_pos q1] at h
      exact u_lz3 hX h
    · rw [if_neg q1] at h
      exact u_lz3 hX h
set_option maxRecDepth 100000 in
set_option maxHeartbeats 400000 in
theorem b_lz1 {K : Option am_V → am_M → Prop} {X : Nat → am_L → List am_V → am_M → Prop} (hX : am_cl eJ6_numberOfLeadingZeros lJ6_numberOfLeadingZeros (some .int) K X) {σ : am_M} {x : Int32} (h : (((0 : Int32) < x) → X 18 [some (.inl x), some (.inl (31 : Int32))] [] σ) ∧ (¬ ((0 : Int32) < x) → ((x = (0 : Int32)) → K (some (.inl (32 : Int32))) σ) ∧ (¬ (x = (0 : Int32)) → K (some (.inl (0 : Int32))) σ))) : X 0 [some (.inl x), none] [] σ := am_run_ok emJ6_numberOfLeadingZeros hX [18] 400 (show (((0 : Int32) < x) → X 18 [some (.inl x), some (.inl (31 : Int32))] [] σ) ∧ (¬ ((0 : Int32) < x) → ((x = (0 : Int32)) → K (some (.inl (32 : Int32))) σ) ∧ (¬ (x = (0 : Int32)) → K (some (.inl (0 : Int32))) σ)) from ⟨fun q0 => (h.1 q0), fun q0 => ⟨fun q1 => ((h.2 q0).1 q1), fun q1 => ((h.2 q0).2 q1)⟩⟩)
def f_lz (x : Int32) : Int32 := (if (0 : Int32) < x then (f_lz2 x (31 : Int32)) else (if x = (0 : Int32) then (32 : Int32) else (0 : Int32)))
theorem u_lz1 {K : Option am_V → am_M → Prop} {X : Nat → am_L → List am_V → am_M → Prop} (hX : am_cl eJ6_numberOfLeadingZeros lJ6_numberOfLeadingZeros (some .int) K X) {σ : am_M} {x : Int32} (h : K (some (.inl (f_lz x))) σ) : X 0 [some (.inl x), none] [] σ := by
  apply b_lz1 hX
  unfold f_lz at h
  refine ⟨fun q0 => ?_, fun q0 => ?_⟩
  · rw [if_pos q0] at h
    exact u_lz2 hX h
  · rw [if_neg q0] at h
    refine ⟨fun q1 => ?_, fun q1 => ?_⟩
    · rw [if_pos q1] at h
      exact h
    · rw [if_neg q1] at h
      exact h
theorem uJ6_numberOfLeadingZeros {σ : am_M} {x : Int32} {K : am_K} (h : K (some (.inl (f_lz x))) σ) : sJ6_numberOfLeadingZeros [.inl x] σ K := ⟨am_le rfl, fun X hX => u_lz1 hX h⟩
set_option maxRecDepth 100000 in
set_option maxHeartbeats 400000 in
theorem tJ6_highestOneBit {σ : am_M} {x : Int32} {K : Option am_V → am_M → Prop} (h : K (some (.inl (x &&& (((-2147483648 : Int32)).toUInt32 >>> (((f_lz x)).toUInt32 &&& Int32.toUInt32 31)).toInt32))) σ) : sJ6_highestOneBit [.inl x] σ K := ⟨am_le rfl, fun X hX => am_run_ok emJ6_highestOneBit hX [] 2000 (show 1 ≤ 3 ∧ 2 ≤ 8 ∧ sJ6_numberOfLeadingZeros [.inl x] σ (fun vv tt => am_run eJ6_highestOneBit lJ6_highestOneBit (some .int) K X [] 1996 7 [some (.inl x)] (vv.toList ++ [.inl (-2147483648 : Int32), .inl x]) tt) from ⟨am_le rfl, am_le rfl, uJ6_numberOfLeadingZeros ((show K (some (.inl (x &&& (((-2147483648 : Int32)).toUInt32 >>> (((f_lz x)).toUInt32 &&& Int32.toUInt32 31)).toInt32))) σ from h))⟩)⟩
def f_hb (x : Int32) : Int32 := (x &&& (((-2147483648 : Int32)).toUInt32 >>> (((f_lz x)).toUInt32 &&& Int32.toUInt32 31)).toInt32)
theorem uJ6_highestOneBit {σ : am_M} {x : Int32} {K : Option am_V → am_M → Prop} (h : K (some (.inl (f_hb x))) σ) : sJ6_highestOneBit [.inl x] σ K := by
  apply tJ6_highestOneBit
  unfold f_hb at h
  exact h
set_option maxRecDepth 100000 in
set_option maxHeartbeats 400000 in
theorem b_tz3 {K : Option am_V → am_M → Prop} {X : Nat → am_L → List am_V → am_M → Prop} (hX : am_cl eJ6_numberOfTrailingZeros lJ6_numberOfTrailingZeros (some .int) K X) {σ : am_M} {x n : Int32} (h : ((x ≤ (16 : Int32)) → ((x ≤ (4 : Int32)) → K (some (.inl (n + ((x).toUInt32 >>> (((1 : Int32)).toUInt32 &&& Int32.toUInt32 31)).toInt32))) σ) ∧ (¬ (x ≤ (4 : Int32)) → K (some (.inl ((n + (2 : Int32)) + ((((x).toUInt32 >>> (((2 : Int32)).toUInt32 &&& Int32.toUInt32 31)).toInt32).toUInt32 >>> (((1 : Int32)).toUInt32 &&& Int32.toUInt32 31)).toInt32))) σ)) ∧ (¬ (x ≤ (16 : Int32)) → ((((x).toUInt32 >>> (((4 : Int32)).toUInt32 &&& Int32.toUInt32 31)).toInt32 ≤ (4 : Int32)) → K (some (.inl ((n + (4 : Int32)) + ((((x).toUInt32 >>> (((4 : Int32)).toUInt32 &&& Int32.toUInt32 31)).toInt32).toUInt32 >>> (((1 : Int32)).toUInt32 &&& Int32.toUInt32 31)).toInt32))) σ) ∧ (¬ (((x).toUInt32 >>> (((4 : Int32)).toUInt32 &&& Int32.toUInt32 31)).toInt32 ≤ (4 : Int32)) → K (some (.inl (((n + (4 : Int32)) + (2 : Int32)) + ((((((x).toUInt32 >>> (((4 : Int32)).toUInt32 &&& Int32.toUInt32 31)).toInt32).toUInt32 >>> (((2 : Int32)).toUInt32 &&& Int32.toUInt32 31)).toInt32).toUInt32 >>> (((1 : Int32)).toUInt32 &&& Int32.toUInt32 31)).toInt32))) σ))) : X 49 [some (.inl x), some (.inl n)] [] σ := am_run_ok emJ6_numberOfTrailingZeros hX [] 400 (show ((x ≤ (16 : Int32)) → ((x ≤ (4 : Int32)) → K (some (.inl (n + ((x).toUInt32 >>> (((1 : Int32)).toUInt32 &&& Int32.toUInt32 31)).toInt32))) σ) ∧ (¬ (x ≤ (4 : Int32)) → K (some (.inl ((n + (2 : Int32)) + ((((x).toUInt32 >>> (((2 : Int32)).toUInt32 &&& Int32.toUInt32 31)).toInt32).toUInt32 >>> (((1 : Int32)).toUInt32 &&& Int32.toUInt32 31)).toInt32))) σ)) ∧ (¬ (x ≤ (16 : Int32)) → ((((x).toUInt32 >>> (((4 : Int32)).toUInt32 &&& Int32.toUInt32 31)).toInt32 ≤ (4 : Int32)) → K (some (.inl ((n + (4 : Int32)) + ((((x).toUInt32 >>> (((4 : Int32)).toUInt32 &&& Int32.toUInt32 31)).toInt32).toUInt32 >>> (((1 : Int32)).toUInt32 &&& Int32.toUInt32 31)).toInt32))) σ) ∧ (¬ (((x).toUInt32 >>> (((4 : Int32)).toUInt32 &&& Int32.toUInt32 31)).toInt32 ≤ (4 : Int32)) → K (some (.inl (((n + (4 : Int32)) + (2 : Int32)) + ((((((x).toUInt32 >>> (((4 : Int32)).toUInt32 &&& Int32.toUInt32 31)).toInt32).toUInt32 >>> (((2 : Int32)).toUInt32 &&& Int32.toUInt32 31)).toInt32).toUInt32 >>> (((1 : Int32)).toUInt32 &&& Int32.toUInt32 31)).toInt32))) σ)) from ⟨fun q0 => ⟨fun q1 => ((h.1 q0).1 q1), fun q1 => ((h.1 q0).2 q1)⟩, fun q0 => ⟨fun q1 => ((h.2 q0).1 q1), fun q1 => ((h.2 q0).2 q1)⟩⟩)
def f_tz3 (x n : Int32) : Int32 := (if x ≤ (16 : Int32) then (if x ≤ (4 : Int32) then (n + ((x).toUInt32 >>> (((1 : Int32)).toUInt32 &&& Int32.toUInt32 31)).toInt32) else ((n + (2 : Int32)) + ((((x).toUInt32 >>> (((2 : Int32)).toUInt32 &&& Int32.toUInt32 31)).toInt32).toUInt32 >>> (((1 : Int32)).toUInt32 &&& Int32.toUInt32 31)).toInt32)) else (if ((x).toUInt32 >>> (((4 : Int32)).toUInt32 &&& Int32.toUInt32 31)).toInt32 ≤ (4 : Int32) then ((n + (4 : Int32)) + ((((x).toUInt32 >>> (((4 : Int32)).toUInt32 &&& Int32.toUInt32 31)).toInt32).toUInt32 >>> (((1 : Int32)).toUInt32 &&& Int32.toUInt32 31)).toInt32) else (((n + (4 : Int32)) + (2 : Int32)) + ((((((x).toUInt32 >>> (((4 : Int32)).toUInt32 &&& Int32.toUInt32 31)).toInt32).toUInt32 >>> (((2 : Int32)).toUInt32 &&& Int32.toUInt32 31)).toInt32).toUInt32 >>> (((1 : Int32)).toUInt32 &&& Int32.toUInt32 31)).toInt32)))
theorem u_tz3 {K : Option am_V → am_M → Prop} {X : Nat → am_L → List am_V → am_M → Prop} (hX : am_cl eJ6_numberOfTrailingZeros lJ6_numberOfTrailingZeros (some .int) K X) {σ : am_M} {x n : Int32} (h : K (some (.inl (f_tz3 x n))) σ) : X 49 [some (.inl x), some (.inl n)] [] σ := by
  apply b_tz3 hX
  unfold f_tz3 at h
  refine ⟨fun q0 => ?_, fun q0 => ?_⟩
  · rw [if_pos q0] at h
    refine ⟨fun q1 => ?_, fun q1 => ?_⟩
    · rw [if_pos q1] at h
      exact h
    · rw [if_neg q1] at h
      exact h
  · rw [if_neg q0] at h
    refine ⟨fun q1 => ?_, fun q1 => ?_⟩
    · rw [if_pos q1] at h
      exact h
    · rw [if_neg q1] at h
      exact h
set_option maxRecDepth 100000 in
set_option maxHeartbeats 400000 in
theorem b_tz2 {K : Option am_V → am_M → Prop} {X : Nat → am_L → List am_V → am_M → Prop} (hX : am_cl eJ6_numberOfTrailingZeros lJ6_numberOfTrailingZeros (some .int) K X) {σ : am_M} {x n : Int32} (h : ((x ≤ (65536 : Int32)) → ((x ≤ (256 : Int32)) → X 49 [some (.inl x), some (.inl n)] [] σ) ∧ (¬ (x ≤ (256 : Int32)) → X 49 [some (.inl ((x).toUInt32 >>> (((8 : Int32)).toUInt32 &&& Int32.toUInt32 31)).toInt32), some (.inl (n + (8 : Int32)))] [] σ)) ∧ (¬ (x ≤ (65536 : Int32)) → ((((x).toUInt32 >>> (((16 : Int32)).toUInt32 &&& Int32.toUInt32 31)).toInt32 ≤ (256 : Int32)) → X 49 [some (.inl ((x).toUInt32 >>> (((16 : Int32)).toUInt32 &&& Int32.toUInt32 31)).toInt32), some (.inl (n + (16 : Int32)))] [] σ) ∧ (¬ (((x).toUInt32 >>> (((16 : Int32)).toUInt32 &&& Int32.toUInt32 31)).toInt32 ≤ (256 : Int32)) → X 49 [some (.inl ((((x).toUInt32 >>> (((16 : Int32)).toUInt32 &&& Int32.toUInt32 31)).toInt32).toUInt32 >>> (((8 : Int32)).toUInt32 &&& Int32.toUInt32 31)).toInt32), some (.inl ((n + (16 : Int32)) + (8 : Int32)))] [] σ))) : X 19 [some (.inl x), some (.inl n)] [] σ := am_run_ok emJ6_numberOfTrailingZeros hX [49] 400 (show ((x ≤ (65536 : Int32)) → ((x ≤ (256 : Int32)) → X 49 [some (.inl x), some (.inl n)] [] σ) ∧ (¬ (x ≤ (256 : Int32)) → X 49 [some (.inl ((x).toUInt32 >>> (((8 : Int32)).toUInt32 &&& Int32.toUInt32 31)).toInt32), some (.inl (n + (8 : Int32)))] [] σ)) ∧ (¬ (x ≤ (65536 : Int32)) → ((((x).toUInt32 >>> (((16 : Int32)).toUInt32 &&& Int32.toUInt32 31)).toInt32 ≤ (256 : Int32)) → X 49 [some (.inl ((x).toUInt32 >>> (((16 : Int32)).toUInt32 &&& Int32.toUInt32 31)).toInt32), some (.inl (n + (16 : Int32)))] [] σ) ∧ (¬ (((x).toUInt32 >>> (((16 : Int32)).toUInt32 &&& Int32.toUInt32 31)).toInt32 ≤ (256 : Int32)) → X 49 [some (.inl ((((x).toUInt32 >>> (((16 : Int32)).toUInt32 &&& Int32.toUInt32 31)).toInt32).toUInt32 >>> (((8 : Int32)).toUInt32 &&& Int32.toUInt32 31)).toInt32), some (.inl ((n + (16 : Int32)) + (8 : Int32)))] [] σ)) from ⟨fun q0 => ⟨fun q1 => ((h.1 q0).1 q1), fun q1 => ((h.1 q0).2 q1)⟩, fun q0 => ⟨fun q1 => ((h.2 q0).1 q1), fun q1 => ((h.2 q0).2 q1)⟩⟩)
def f_tz2 (x n : Int32) : Int32 := (if x ≤ (65536 : Int32) then (if x ≤ (256 : Int32) then (f_tz3 x n) else (f_tz3 ((x).toUInt32 >>> (((8 : Int32)).toUInt32 &&& Int32.toUInt32 31)).toInt32 (n + (8 : Int32)))) else (if ((x).toUInt32 >>> (((16 : Int32)).toUInt32 &&& Int32.toUInt32 31)).toInt32 ≤ (256 : Int32) then (f_tz3 ((x).toUInt32 >>> (((16 : Int32)).toUInt32 &&& Int32.toUInt32 31)).toInt32 (n + (16 : Int32))) else (f_tz3 ((((x).toUInt32 >>> (((16 : Int32)).toUInt32 &&& Int32.toUInt32 31)).toInt32).toUInt32 >>> (((8 : Int32)).toUInt32 &&& Int32.toUInt32 31)).toInt32 ((n + (16 : Int32)) + (8 : Int32)))))
theorem u_tz2 {K : Option am_V → am_M → Prop} {X : Nat → am_L → List am_V → am_M → Prop} (hX : am_cl eJ6_numberOfTrailingZeros lJ6_numberOfTrailingZeros (some .int) K X) {σ : am_M} {x n : Int32} (h : K (some (.inl (f_tz2 x n))) σ) : X 19 [some (.inl x), some (.inl n)] [] σ := by
  apply b_tz2 hX
  unfold f_tz2 at h
  refine ⟨fun q0 => ?_, fun q0 => ?_⟩
  · rw [if_pos q0] at h
    refine ⟨fun q1 => ?_, fun q1 => ?_⟩
    · rw [if_pos q1] at h
      exact u_tz3 hX h
    · rw [if_neg q1] at h
      exact u_tz3 hX h
  · rw [if_neg q0] at h
    refine ⟨fun q1 => ?_, fun q1 => ?_⟩
    · rw [if_pos q1] at h
      exact u_tz3 hX h
    · rw [if_neg q1] at h
      exact u_tz3 hX h
set_option maxRecDepth 100000 in
set_option maxHeartbeats 400000 in
theorem b_tz1 {K : Option am_V → am_M → Prop} {X : Nat → am_L → List am_V → am_M → Prop} (hX : am_cl eJ6_numberOfTrailingZeros lJ6_numberOfTrailingZeros (some .int) K X) {σ : am_M} {x : Int32} (h : (((0 : Int32) < ((x ^^^ (-1 : Int32)) &&& (x - (1 : Int32)))) → X 19 [some (.inl ((x ^^^ (-1 : Int32)) &&& (x - (1 : Int32)))), some (.inl (1 : Int32))] [] σ) ∧ (¬ ((0 : Int32) < ((x ^^^ (-1 : Int32)) &&& (x - (1 : Int32)))) → K (some (.inl (((x ^^^ (-1 : Int32)) &&& (x - (1 : Int32))) &&& (32 : Int32)))) σ)) : X 0 [some (.inl x), none] [] σ := am_run_ok emJ6_numberOfTrailingZeros hX [19] 400 (show (((0 : Int32) < ((x ^^^ (-1 : Int32)) &&& (x - (1 : Int32)))) → X 19 [some (.inl ((x ^^^ (-1 : Int32)) &&& (x - (1 : Int32)))), some (.inl (1 : Int32))] [] σ) ∧ (¬ ((0 : Int32) < ((x ^^^ (-1 : Int32)) &&& (x - (1 : Int32)))) → K (some (.inl (((x ^^^ (-1 : Int32)) &&& (x - (1 : Int32))) &&& (32 : Int32)))) σ) from ⟨fun q0 => (h.1 q0), fun q0 => (h.2 q0)⟩)
def f_tz (x : Int32) : Int32 := (if (0 : Int32) < ((x ^^^ (-1 : Int32)) &&& (x - (1 : Int32))) then (f_tz2 ((x ^^^ (-1 : Int32)) &&& (x - (1 : Int32))) (1 : Int32)) else (((x ^^^ (-1 : Int32)) &&& (x - (1 : Int32))) &&& (32 : Int32)))
theorem u_tz1 {K : Option am_V → am_M → Prop} {X : Nat → am_L → List am_V → am_M → Prop} (hX : am_cl eJ6_numberOfTrailingZeros lJ6_numberOfTrailingZeros (some .int) K X) {σ : am_M} {x : Int32} (h : K (some (.inl (f_tz x))) σ) : X 0 [some (.inl x), none] [] σ := by
  apply b_tz1 hX
  unfold f_tz at h
  refine ⟨fun q0 => ?_, fun q0 => ?_⟩
  · rw [if_pos q0] at h
    exact u_tz2 hX h
  · rw [if_neg q0] at h
    exact h
theorem uJ6_numberOfTrailingZeros {σ : am_M} {x : Int32} {K : am_K} (h : K (some (.inl (f_tz x))) σ) : sJ6_numberOfTrailingZeros [.inl x] σ K := ⟨am_le rfl, fun X hX => u_tz1 hX h⟩
theorem f_bc_ok : ∀ S, S < 512 → f_bc (nI S) = nI (q_pop S 9) := by decide +kernel
/-- the highest one of a set -/
def q_top (S : Nat) : Nat := if S.testBit 8 then 8 else if S.testBit 7 then 7 else if S.testBit 6 then 6 else if S.testBit 5 then 5 else if S.testBit 4 then 4 else if S.testBit 3 then 3 else if S.testBit 2 then 2 else if S.testBit 1 then 1 else 0
/-- the lowest one of a set -/
def q_low (S : Nat) : Nat := if S.testBit 0 then 0 else if S.testBit 1 then 1 else if S.testBit 2 then 2 else if S.testBit 3 then 3 else if S.testBit 4 then 4 else if S.testBit 5 then 5 else if S.testBit 6 then 6 else if S.testBit 7 then 7 else 8
theorem f_hb_ok : ∀ S, S < 512 → 0 < S → f_hb (nI S) = nI (2 ^ q_top S) := by decide +kernel
theorem f_tz_ok : ∀ S, S < 512 → 0 < S → f_tz (nI S) = nI (q_low S) := by decide +kernel
theorem vJ6_bitCount {σ : am_M} {x : Int32} {K : am_K} (h : (q_lim x 511) ∧ (K (some (.inl (nI (q_pop x.toNatClampNeg 9)))) σ)) : sJ6_bitCount [.inl x] σ K := by
  obtain ⟨⟨e, hl⟩, h⟩ := h
  apply uJ6_bitCount
  rw [e, f_bc_ok _ (by omega)]
  exact h
theorem c_who_lt {σ : am_M} {c : Nat} {s : Int32} (h : c_ok σ c) : c_who σ c s < 512 := q_set_le _ (m := 9) h.2
theorem tX0_howMany_ {S : Nat} (h : S < 512) : q_lim (nI S) 511 := q_lim_of rfl (by omega) (by decide)
set_option maxRecDepth 100000 in
set_option maxHeartbeats 400000 in
theorem tX0_howMany {σ : am_M} {c : Nat} {s : Int32} {K : Option am_V → am_M → Prop} (h : (c_ok σ c) ∧ ((q_lim (nI (c_who σ c s)) 511) ∧ (K (some (.inl (nI (q_pop (nI (c_who σ c s)).toNatClampNeg 9)))) σ))) : sX0_howMany [.inr (.inr (3, c)), .inl s] σ K := ⟨am_le rfl, fun X hX => am_run_ok emX0_howMany hX [] 2000 (show 2 ≤ 2 ∧ 0 ≤ 8 ∧ True ∧ sX0_those [.inr (.inr (3, c)), .inl s] σ (fun vv tt => am_run eX0_howMany lX0_howMany (some .int) K X [] 1997 5 [some (.inr (.inr (3, c))), some (.inl s)] (vv.toList ++ []) tt) from ⟨am_le rfl, am_le rfl, trivial, tX0_those (⟨h.1, (show 1 ≤ 1 ∧ 0 ≤ 8 ∧ sJ6_bitCount [.inl (nI (c_who σ c s))] σ (fun vv tt => am_run eX0_howMany lX0_howMany (some .int) K X [] 1996 8 [some (.inr (.inr (3, c))), some (.inl s)] (vv.toList ++ []) tt) from ⟨am_le rfl, am_le rfl, vJ6_bitCount (⟨h.2.1, (show K (some (.inl (nI (q_pop (nI (c_who σ c s)).toNatClampNeg 9)))) σ from h.2.2)⟩)⟩)⟩)⟩)⟩
set_option maxRecDepth 100000 in
set_option maxHeartbeats 400000 in
theorem tX0_here {σ : am_M} {c : Nat} {K : Option am_V → am_M → Prop} (h : (c_ok σ c) ∧ ((c_ok σ c) ∧ (K (some (.inl ((nI (c_who σ c (1 : Int32))) ||| (nI (c_who σ c (2 : Int32)))))) σ))) : sX0_here [.inr (.inr (3, c))] σ K := ⟨am_le rfl, fun X hX => am_run_ok emX0_here hX [] 2000 (show 2 ≤ 2 ∧ 0 ≤ 8 ∧ True ∧ sX0_those [.inr (.inr (3, c)), .inl (1 : Int32)] σ (fun vv tt => am_run eX0_here lX0_here (some .int) K X [] 1997 5 [some (.inr (.inr (3, c)))] (vv.toList ++ []) tt) from ⟨am_le rfl, am_le rfl, trivial, tX0_those (⟨h.1, (show 2 ≤ 3 ∧ 1 ≤ 8 ∧ True ∧ sX0_those [.inr (.inr (3, c)), .inl (2 : Int32)] σ (fun vv tt => am_run eX0_here lX0_here (some .int) K X [] 1994 10 [some (.inr (.inr (3, c)))] (vv.toList ++ [.inl (nI (c_who σ c (1 : Int32)))]) tt) from ⟨am_le rfl, am_le rfl, trivial, tX0_those (⟨h.2.1, (show K (some (.inl ((nI (c_who σ c (1 : Int32))) ||| (nI (c_who σ c (2 : Int32)))))) σ from h.2.2)⟩)⟩)⟩)⟩)⟩
/-- how many stand so; who is here -/
def c_many (σ : am_M) (c : Nat) (s : Int32) : Nat := q_pop (c_who σ c s) 9
def c_here (σ : am_M) (c : Nat) : Nat := c_who σ c 1 ||| c_who σ c 2
theorem uX0_howMany {σ : am_M} {c : Nat} {s : Int32} {K : am_K} (h : (c_ok σ c) ∧ (K (some (.inl (nI (c_many σ c s)))) σ)) : sX0_howMany [.inr (.inr (3, c)), .inl s] σ K := by
  have hl := c_who_lt (s := s) h.1
  refine tX0_howMany ⟨h.1, tX0_howMany_ hl, ?_⟩
  rw [nI_clamp (by omega)]
  exact h.2
theorem uX0_here {σ : am_M} {c : Nat} {K : am_K} (h : (c_ok σ c) ∧ (K (some (.inl (nI (c_here σ c)))) σ)) : sX0_here [.inr (.inr (3, c))] σ K := by
  refine tX0_here ⟨h.1, h.1, ?_⟩
  rw [q_or]
  exact h.2
/-- whoever is alike with a row, but for one -/
def c_riv (σ : am_M) (c : Nat) (a : Nat → Int32) (self : Int32) : Nat := q_set (fun q => !(decide (nI q = self)) && al a (σ 5 (9 * c + q))) (c_n σ c)
set_option maxRecDepth 100000 in
set_option maxHeartbeats 400000 in
theorem b_riv0 {K : Option am_V → am_M → Prop} {X : Nat → am_L → List am_V → am_M → Prop} (hX : am_cl eX0_rivalsOf lX0_rivalsOf (some .int) K X) {σ : am_M} (c x : Nat) (s : Int32) (h : X 5 [some (.inr (.inr (3, c))), some (.inr (.inr (5, x))), some (.inl s), some (.inl (0 : Int32)), some (.inl (0 : Int32))] [] σ) : X 0 [some (.inr (.inr (3, c))), some (.inr (.inr (5, x))), some (.inl s), none, none] [] σ := am_run_ok emX0_rivalsOf hX [5] 400 (show X 5 [some (.inr (.inr (3, c))), some (.inr (.inr (5, x))), some (.inl s), some (.inl (0 : Int32)), some (.inl (0 : Int32))] [] σ from h)
set_option maxRecDepth 100000 in
set_option maxHeartbeats 400000 in
theorem b_riv5 {K : Option am_V → am_M → Prop} {X : Nat → am_L → List am_V → am_M → Prop} (hX : am_cl eX0_rivalsOf lX0_rivalsOf (some .int) K X) {σ : am_M} (c x : Nat) (s z q : Int32) (h : (((σ 3 c 1) ≤ q) → K (some (.inl z)) σ) ∧ (¬ ((σ 3 c 1) ≤ q) → ((q = s) → X 5 [some (.inr (.inr (3, c))), some (.inr (.inr (5, x))), some (.inl s), some (.inl (z ||| (0 : Int32))), some (.inl (q + (1 : Int32)))] [] σ) ∧ (¬ (q = s) → (vp_in q 9) ∧ (((al (σ 5 x) (σ 5 (9 * c + q.toNatClampNeg)) = true) → X 5 [some (.inr (.inr (3, c))), some (.inr (.inr (5, x))), some (.inl s), some (.inl (z ||| ((1 : Int32) <<< (q &&& 31)))), some (.inl (q + (1 : Int32)))] [] σ) ∧ (¬ (al (σ 5 x) (σ 5 (9 * c + q.toNatClampNeg)) = true) → X 5 [some (.inr (.inr (3, c))), some (.inr (.inr (5, x))), some (.inl s), some (.inl (z ||| (0 : Int32))), some (.inl (q + (1 : Int32)))] [] σ))))) : X 5 [some (.inr (.inr (3, c))), some (.inr (.inr (5, x))), some (.inl s), some (.inl z), some (.inl q)] [] σ := am_run_ok emX0_rivalsOf hX [5] 400 (show (((σ 3 c 1) ≤ q) → K (some (.inl z)) σ) ∧ (¬ ((σ 3 c 1) ≤ q) → ((q = s) → X 5 [some (.inr (.inr (3, c))), some (.inr (.inr (5, x))), some (.inl s), some (.inl (z ||| (0 : Int32))), some (.inl (q + (1 : Int32)))] [] σ) ∧ (¬ (q = s) → (vp_in q 9) ∧ (2 ≤ 3 ∧ 1 ≤ 8 ∧ sX0_areAlike [.inr (.inr (5, x)), .inr (.inr (5, (9 * c + q.toNatClampNeg)))] σ (fun vv tt => am_run eX0_rivalsOf lX0_rivalsOf (some .int) K X [5] 386 32 [some (.inr (.inr (3, c))), some (.inr (.inr (5, x))), some (.inl s), some (.inl z), some (.inl q)] (vv.toList ++ [.inl z]) tt)))) from ⟨fun q0 => (h.1 q0), fun q0 => ⟨fun q1 => ((h.2 q0).1 q1), fun q1 => ⟨((h.2 q0).2 q1).1, ⟨am_le rfl, am_le rfl, tX0_areAlike (⟨fun q2 => (show (((1 : Int32) = (0 : Int32)) → _) ∧ (¬ ((1 : Int32) = (0 : Int32)) → X 5 [some (.inr (.inr (3, c))), some (.inr (.inr (5, x))), some (.inl s), some (.inl (z ||| ((1 : Int32) <<< (q &&& 31)))), some (.inl (q + (1 : Int32)))] [] σ) from ⟨fun q => absurd q (by decide), fun _ => (((h.2 q0).2 q1).2.1 q2)⟩), fun q2 => (show (((0 : Int32) = (0 : Int32)) → X 5 [some (.inr (.inr (3, c))), some (.inr (.inr (5, x))), some (.inl s), some (.inl (z ||| (0 : Int32))), some (.inl (q + (1 : Int32)))] [] σ) ∧ (¬ ((0 : Int32) = (0 : Int32)) → _) from ⟨fun _ => (((h.2 q0).2 q1).2.2 q2), fun q => absurd (by decide) q⟩)⟩)⟩⟩⟩⟩)
theorem tX0_rivalsOf {σ : am_M} {c x : Nat} {s : Int32} {K : am_K} (h : (c_ok σ c) ∧ (K (some (.inl (nI (c_riv σ c (σ 5 x) s)))) σ)) : sX0_rivalsOf [.inr (.inr (3, c)), .inr (.inr (5, x)), .inl s] σ K := by
  obtain ⟨ho, h⟩ := h
  obtain ⟨hn, h9⟩ := c_ok_e ho
  unfold c_riv at h
  generalize c_n σ c = n at hn h9 h
  refine ⟨am_le rfl, fun X hX => b_riv0 hX c x s ?_⟩
  refine q_dn (W := fun i => X 5 [some (.inr (.inr (3, c))), some (.inr (.inr (5, x))), some (.inl s), some (.inl (nI (q_set (fun q => !(decide (nI q = s)) && al (σ 5 x) (σ 5 (9 * c + q))) i))), some (.inl (nI i))] [] σ) (n := n) (fun i hi ih => ?_) ?_ 0 (Nat.zero_le _)
  · refine b_riv5 hX c x s _ (nI i) ?_
    rw [hn, nI_clamp (by omega), q_one i (by omega), q_or, q_or0, show nI i + (1 : Int32) = nI (i + 1) from nI_1 i]
    refine ⟨fun q => absurd q (nI_ge hi (by omega)), fun _ => ⟨fun q => ?_, fun q => ⟨q_in (by omega) (by decide), fun q2 => ?_, fun q2 => ?_⟩⟩⟩
    · rw [q_set_0 (by simp [q])] at ih
      exact ih
    · rw [q_set_1 (by simp [q, q2])] at ih
      exact ih
    · rw [q_set_0 (by simp [q, q2])] at ih
      exact ih
  · refine b_riv5 hX c x s _ (nI n) ⟨fun _ => h, fun q => absurd ?_ q⟩
    rw [hn]
    exact nI_le (Nat.le_refl _) (by omega)
set_option maxRecDepth 100000 in
set_option maxHeartbeats 400000 in
theorem b_riv0g {K : Option am_V → am_M → Prop} {X : Nat → am_L → List am_V → am_M → Prop} (hX : am_cl eX0_rivalsOf lX0_rivalsOf (some .int) K X) {σ : am_M} (c x : Nat) (s : Int32) (h : X 5 [some (.inr (.inr (3, c))), some (.inr (.inr (19, x))), some (.inl s), some (.inl (0 : Int32)), some (.inl (0 : Int32))] [] σ) : X 0 [some (.inr (.inr (3, c))), some (.inr (.inr (19, x))), some (.inl s), none, none] [] σ := am_run_ok emX0_rivalsOf hX [5] 400 (show X 5 [some (.inr (.inr (3, c))), some (.inr (.inr (19, x))), some (.inl s), some (.inl (0 : Int32)), some (.inl (0 : Int32))] [] σ from h)
set_option maxRecDepth 100000 in
set_option maxHeartbeats 400000 in
theorem b_riv5g {K : Option am_V → am_M → Prop} {X : Nat → am_L → List am_V → am_M → Prop} (hX : am_cl eX0_rivalsOf lX0_rivalsOf (some .int) K X) {σ : am_M} (c x : Nat) (s z q : Int32) (h : (((σ 3 c 1) ≤ q) → K (some (.inl z)) σ) ∧ (¬ ((σ 3 c 1) ≤ q) → ((q = s) → X 5 [some (.inr (.inr (3, c))), some (.inr (.inr (19, x))), some (.inl s), some (.inl (z ||| (0 : Int32))), some (.inl (q + (1 : Int32)))] [] σ) ∧ (¬ (q = s) → (vp_in q 9) ∧ (((al (σ 19 x) (σ 5 (9 * c + q.toNatClampNeg)) = true) → X 5 [some (.inr (.inr (3, c))), some (.inr (.inr (19, x))), some (.inl s), some (.inl (z ||| ((1 : Int32) <<< (q &&& 31)))), some (.inl (q + (1 : Int32)))] [] σ) ∧ (¬ (al (σ 19 x) (σ 5 (9 * c + q.toNatClampNeg)) = true) → X 5 [some (.inr (.inr (3, c))), some (.inr (.inr (19, x))), some (.inl s), some (.inl (z ||| (0 : Int32))), some (.inl (q + (1 : Int32)))] [] σ))))) : X 5 [some (.inr (.inr (3, c))), some (.inr (.inr (19, x))), some (.inl s), some (.inl z), some (.inl q)] [] σ := am_run_ok emX0_rivalsOf hX [5] 400 (show (((σ 3 c 1) ≤ q) → K (some (.inl z)) σ) ∧ (¬ ((σ 3 c 1) ≤ q) → ((q = s) → X 5 [some (.inr (.inr (3, c))), some (.inr (.inr (19, x))), some (.inl s), some (.inl (z ||| (0 : Int32))), some (.inl (q + (1 : Int32)))] [] σ) ∧ (¬ (q = s) → (vp_in q 9) ∧ (2 ≤ 3 ∧ 1 ≤ 8 ∧ sX0_areAlike [.inr (.inr (19, x)), .inr (.inr (5, (9 * c + q.toNatClampNeg)))] σ (fun vv tt => am_run eX0_rivalsOf lX0_rivalsOf (some .int) K X [5] 386 32 [some (.inr (.inr (3, c))), some (.inr (.inr (19, x))), some (.inl s), some (.inl z), some (.inl q)] (vv.toList ++ [.inl z]) tt)))) from ⟨fun q0 => (h.1 q0), fun q0 => ⟨fun q1 => ((h.2 q0).1 q1), fun q1 => ⟨((h.2 q0).2 q1).1, ⟨am_le rfl, am_le rfl, tX0_areAlikeg (⟨fun q2 => (show (((1 : Int32) = (0 : Int32)) → _) ∧ (¬ ((1 : Int32) = (0 : Int32)) → X 5 [some (.inr (.inr (3, c))), some (.inr (.inr (19, x))), some (.inl s), some (.inl (z ||| ((1 : Int32) <<< (q &&& 31)))), some (.inl (q + (1 : Int32)))] [] σ) from ⟨fun q => absurd q (by decide), fun _ => (((h.2 q0).2 q1).2.1 q2)⟩), fun q2 => (show (((0 : Int32) = (0 : Int32)) → X 5 [some (.inr (.inr (3, c))), some (.inr (.inr (19, x))), some (.inl s), some (.inl (z ||| (0 : Int32))), some (.inl (q + (1 : Int32)))] [] σ) ∧ (¬ ((0 : Int32) = (0 : Int32)) → _) from ⟨fun _ => (((h.2 q0).2 q1).2.2 q2), fun q => absurd (by decide) q⟩)⟩)⟩⟩⟩⟩)
theorem tX0_rivalsOfg {σ : am_M} {c x : Nat} {s : Int32} {K : am_K} (h : (c_ok σ c) ∧ (K (some (.inl (nI (c_riv σ c (σ 19 x) s)))) σ)) : sX0_rivalsOf [.inr (.inr (3, c)), .inr (.inr (19, x)), .inl s] σ K := by
  obtain ⟨ho, h⟩ := h
  obtain ⟨hn, h9⟩ := c_ok_e ho
  unfold c_riv at h
  generalize c_n σ c = n at hn h9 h
  refine ⟨am_le rfl, fun X hX => b_riv0g hX c x s ?_⟩
  refine q_dn (W := fun i => X 5 [some (.inr (.inr (3, c))), some (.inr (.inr (19, x))), some (.inl s), some (.inl (nI (q_set (fun q => !(decide (nI q = s)) && al (σ 19 x) (σ 5 (9 * c + q))) i))), some (.inl (nI i))] [] σ) (n := n) (fun i hi ih => ?_) ?_ 0 (Nat.zero_le _)
  · refine b_riv5g hX c x s _ (nI i) ?_
    rw [hn, nI_clamp (by omega), q_one i (by omega), q_or, q_or0, show nI i + (1 : Int32) = nI (i + 1) from nI_1 i]
    refine ⟨fun q => absurd q (nI_ge hi (by omega)), fun _ => ⟨fun q => ?_, fun q => ⟨q_in (by omega) (by decide), fun q2 => ?_, fun q2 => ?_⟩⟩⟩
    · rw [q_set_0 (by simp [q])] at ih
      exact ih
    · rw [q_set_1 (by simp [q, q2])] at ih
      exact ih
    · rw [q_set_0 (by simp [q, q2])] at ih
      exact ih
  · refine b_riv5g hX c x s _ (nI n) ⟨fun _ => h, fun q => absurd ?_ q⟩
    rw [hn]
    exact nI_le (Nat.le_refl _) (by omega)
