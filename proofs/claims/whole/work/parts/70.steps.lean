/-! the text, to the reference: tokens -/
def mb (σ : am_M) (x : Int32) : Int32 := if x < σ 20 0 7 then σ 23 0 x.toNatClampNeg else -4
theorem uX7_byteAt {σ : am_M} {x : Int32} {K : am_K} (h : (x < σ 20 0 7 → vp_in x 160) ∧ (K (some (.inl (mb σ x))) σ)) : sX7_byteAt [.inr (.inr (20, 0)), .inl x] σ K := by
  obtain ⟨h0, h⟩ := h
  unfold mb at h
  refine tX7_byteAt ⟨fun a => ?_, fun a => ⟨h0 ?_, ?_⟩⟩
  · rw [if_neg (by rw [Int32.lt_iff_toInt_lt]; rw [Int32.le_iff_toInt_le] at a; omega)] at h
    exact h
  · rw [Int32.le_iff_toInt_le] at a
    rw [Int32.lt_iff_toInt_lt]
    omega
  · rw [if_pos (by rw [Int32.lt_iff_toInt_lt]; rw [Int32.le_iff_toInt_le] at a; omega)] at h
    exact h
set_option maxRecDepth 100000 in
set_option maxHeartbeats 400000 in
theorem b_sp0 {K : Option am_V → am_M → Prop} {X : Nat → am_L → List am_V → am_M → Prop} (hX : am_cl eX7_step lX7_step none K X) {σ : am_M}  (h : (((σ 20 0 9) ≤ (0 : Int32)) → X 8 [some (.inr (.inr (20, 0))), none] [] σ) ∧ (¬ ((σ 20 0 9) ≤ (0 : Int32)) → K none σ)) : X 0 [some (.inr (.inr (20, 0))), none] [] σ := am_run_ok emX7_step hX [8] 400 (show (((σ 20 0 9) ≤ (0 : Int32)) → X 8 [some (.inr (.inr (20, 0))), none] [] σ) ∧ (¬ ((σ 20 0 9) ≤ (0 : Int32)) → K none σ) from ⟨fun q0 => (h.1 q0), fun q0 => (h.2 q0)⟩)
set_option maxRecDepth 100000 in
set_option maxHeartbeats 400000 in
theorem b_sp8 {K : Option am_V → am_M → Prop} {X : Nat → am_L → List am_V → am_M → Prop} (hX : am_cl eX7_step lX7_step none K X) {σ : am_M}  (h : ((σ 20 0 11) < (σ 20 0 7) → vp_in (σ 20 0 11) 160) ∧ ((((mb σ (σ 20 0 11)) = (32 : Int32)) → X 8 [some (.inr (.inr (20, 0))), none] [] (am_u σ 20 0 11 ((σ 20 0 11) + (1 : Int32)))) ∧ (¬ ((mb σ (σ 20 0 11)) = (32 : Int32)) → X 34 [some (.inr (.inr (20, 0))), none] [] σ))) : X 8 [some (.inr (.inr (20, 0))), none] [] σ := am_run_ok emX7_step hX [8, 34] 400 (show 2 ≤ 2 ∧ 0 ≤ 8 ∧ True ∧ sX7_byteAt [.inr (.inr (20, 0)), .inl (σ 20 0 11)] σ (fun vv tt => am_run eX7_step lX7_step none K X [8, 34] 396 16 [some (.inr (.inr (20, 0))), none] (vv.toList ++ []) tt) from ⟨am_le rfl, am_le rfl, trivial, uX7_byteAt (⟨h.1, (show (((mb σ (σ 20 0 11)) = (32 : Int32)) → X 8 [some (.inr (.inr (20, 0))), none] [] (am_u σ 20 0 11 ((σ 20 0 11) + (1 : Int32)))) ∧ (¬ ((mb σ (σ 20 0 11)) = (32 : Int32)) → X 34 [some (.inr (.inr (20, 0))), none] [] σ) from ⟨fun q0 => (h.2.1 q0), fun q0 => (h.2.2 q0)⟩)⟩)⟩)
set_option maxRecDepth 100000 in
set_option maxHeartbeats 400000 in
theorem b_sp34 {K : Option am_V → am_M → Prop} {X : Nat → am_L → List am_V → am_M → Prop} (hX : am_cl eX7_step lX7_step none K X) {σ : am_M}  (h : ((σ 20 0 11) < (σ 20 0 7) → vp_in (σ 20 0 11) 160) ∧ ((((mb (am_u σ 20 0 12 (σ 20 0 11)) (σ 20 0 11)) = (-4 : Int32)) → K none (am_u (am_u (am_u σ 20 0 12 (σ 20 0 11)) 20 0 14 (0 : Int32)) 20 0 13 (0 : Int32))) ∧ (¬ ((mb (am_u σ 20 0 12 (σ 20 0 11)) (σ 20 0 11)) = (-4 : Int32)) → X 70 [some (.inr (.inr (20, 0))), some (.inl (mb (am_u σ 20 0 12 (σ 20 0 11)) (σ 20 0 11)))] [] (am_u (am_u σ 20 0 12 (σ 20 0 11)) 20 0 14 (0 : Int32))))) : X 34 [some (.inr (.inr (20, 0))), none] [] σ := am_run_ok emX7_step hX [70] 400 (show 2 ≤ 2 ∧ 0 ≤ 8 ∧ True ∧ sX7_byteAt [.inr (.inr (20, 0)), .inl (σ 20 0 11)] (am_u σ 20 0 12 (σ 20 0 11)) (fun vv tt => am_run eX7_step lX7_step none K X [70] 392 50 [some (.inr (.inr (20, 0))), none] (vv.toList ++ []) tt) from ⟨am_le rfl, am_le rfl, trivial, uX7_byteAt (⟨h.1, (show (((mb (am_u σ 20 0 12 (σ 20 0 11)) (σ 20 0 11)) = (-4 : Int32)) → K none (am_u (am_u (am_u σ 20 0 12 (σ 20 0 11)) 20 0 14 (0 : Int32)) 20 0 13 (0 : Int32))) ∧ (¬ ((mb (am_u σ 20 0 12 (σ 20 0 11)) (σ 20 0 11)) = (-4 : Int32)) → X 70 [some (.inr (.inr (20, 0))), some (.inl (mb (am_u σ 20 0 12 (σ 20 0 11)) (σ 20 0 11)))] [] (am_u (am_u σ 20 0 12 (σ 20 0 11)) 20 0 14 (0 : Int32))) from ⟨fun q0 => (h.2.1 q0), fun q0 => (h.2.2 q0)⟩)⟩)⟩)
set_option maxRecDepth 100000 in
set_option maxHeartbeats 400000 in
theorem b_sp70 {K : Option am_V → am_M → Prop} {X : Nat → am_L → List am_V → am_M → Prop} (hX : am_cl eX7_step lX7_step none K X) {σ : am_M} (c : Int32) (h : ((c < (97 : Int32)) → X 126 [some (.inr (.inr (20, 0))), some (.inl c)] [] σ) ∧ (¬ (c < (97 : Int32)) → (((122 : Int32) < c) → X 126 [some (.inr (.inr (20, 0))), some (.inl c)] [] σ) ∧ (¬ ((122 : Int32) < c) → X 84 [some (.inr (.inr (20, 0))), some (.inl c)] [] σ))) : X 70 [some (.inr (.inr (20, 0))), some (.inl c)] [] σ := am_run_ok emX7_step hX [84, 126] 400 (show 3 ≤ 3 ∧ 0 ≤ 8 ∧ sX7_in [.inr (.inl (c).toInt64), .inr (.inl (97 : Int64)), .inr (.inl (122 : Int64))] σ (fun vv tt => am_run eX7_step lX7_step none K X [84, 126] 395 81 [some (.inr (.inr (20, 0))), some (.inl c)] (vv.toList ++ []) tt) from ⟨am_le rfl, am_le rfl, uX7_in (v := c) (a := (97 : Int32)) (b := (122 : Int32)) (⟨fun q0 => (show (((0 : Int32) = (0 : Int32)) → X 126 [some (.inr (.inr (20, 0))), some (.inl c)] [] σ) ∧ (¬ ((0 : Int32) = (0 : Int32)) → _) from ⟨fun _ => (h.1 q0), fun q => absurd (by decide) q⟩), fun q0 => ⟨fun q1 => (show (((0 : Int32) = (0 : Int32)) → X 126 [some (.inr (.inr (20, 0))), some (.inl c)] [] σ) ∧ (¬ ((0 : Int32) = (0 : Int32)) → _) from ⟨fun _ => ((h.2 q0).1 q1), fun q => absurd (by decide) q⟩), fun q1 => (show (((1 : Int32) = (0 : Int32)) → _) ∧ (¬ ((1 : Int32) = (0 : Int32)) → X 84 [some (.inr (.inr (20, 0))), some (.inl c)] [] σ) from ⟨fun q => absurd q (by decide), fun _ => ((h.2 q0).2 q1)⟩)⟩⟩)⟩)
set_option maxRecDepth 100000 in
set_option maxHeartbeats 400000 in
theorem b_sp84 {K : Option am_V → am_M → Prop} {X : Nat → am_L → List am_V → am_M → Prop} (hX : am_cl eX7_step lX7_step none K X) {σ : am_M} (c : Int32) (h : ((σ 20 0 11) < (σ 20 0 7) → vp_in (σ 20 0 11) 160) ∧ ((((mb σ (σ 20 0 11)) < (97 : Int32)) → K none (am_u σ 20 0 13 (1 : Int32))) ∧ (¬ ((mb σ (σ 20 0 11)) < (97 : Int32)) → (((122 : Int32) < (mb σ (σ 20 0 11))) → K none (am_u σ 20 0 13 (1 : Int32))) ∧ (¬ ((122 : Int32) < (mb σ (σ 20 0 11))) → X 84 [some (.inr (.inr (20, 0))), some (.inl c)] [] (am_u σ 20 0 11 ((σ 20 0 11) + (1 : Int32))))))) : X 84 [some (.inr (.inr (20, 0))), some (.inl c)] [] σ := am_run_ok emX7_step hX [84] 400 (show 2 ≤ 2 ∧ 0 ≤ 8 ∧ True ∧ sX7_byteAt [.inr (.inr (20, 0)), .inl (σ 20 0 11)] σ (fun vv tt => am_run eX7_step lX7_step none K X [84] 396 92 [some (.inr (.inr (20, 0))), some (.inl c)] (vv.toList ++ []) tt) from ⟨am_le rfl, am_le rfl, trivial, uX7_byteAt (⟨h.1, (show 3 ≤ 3 ∧ 0 ≤ 8 ∧ sX7_in [.inr (.inl ((mb σ (σ 20 0 11))).toInt64), .inr (.inl (97 : Int64)), .inr (.inl (122 : Int64))] σ (fun vv tt => am_run eX7_step lX7_step none K X [84] 392 102 [some (.inr (.inr (20, 0))), some (.inl c)] (vv.toList ++ []) tt) from ⟨am_le rfl, am_le rfl, uX7_in (v := (mb σ (σ 20 0 11))) (a := (97 : Int32)) (b := (122 : Int32)) (⟨fun q0 => (show (((0 : Int32) = (0 : Int32)) → K none (am_u σ 20 0 13 (1 : Int32))) ∧ (¬ ((0 : Int32) = (0 : Int32)) → _) from ⟨fun _ => (h.2.1 q0), fun q => absurd (by decide) q⟩), fun q0 => ⟨fun q1 => (show (((0 : Int32) = (0 : Int32)) → K none (am_u σ 20 0 13 (1 : Int32))) ∧ (¬ ((0 : Int32) = (0 : Int32)) → _) from ⟨fun _ => ((h.2.2 q0).1 q1), fun q => absurd (by decide) q⟩), fun q1 => (show (((1 : Int32) = (0 : Int32)) → _) ∧ (¬ ((1 : Int32) = (0 : Int32)) → X 84 [some (.inr (.inr (20, 0))), some (.inl c)] [] (am_u σ 20 0 11 ((σ 20 0 11) + (1 : Int32)))) from ⟨fun q => absurd q (by decide), fun _ => ((h.2.2 q0).2 q1)⟩)⟩⟩)⟩)⟩)⟩)
set_option maxRecDepth 100000 in
set_option maxHeartbeats 400000 in
theorem b_sp126 {K : Option am_V → am_M → Prop} {X : Nat → am_L → List am_V → am_M → Prop} (hX : am_cl eX7_step lX7_step none K X) {σ : am_M} (c : Int32) (h : ((c < (48 : Int32)) → X 243 [some (.inr (.inr (20, 0))), some (.inl c)] [] σ) ∧ (¬ (c < (48 : Int32)) → (((57 : Int32) < c) → X 243 [some (.inr (.inr (20, 0))), some (.inl c)] [] σ) ∧ (¬ ((57 : Int32) < c) → X 140 [some (.inr (.inr (20, 0))), some (.inl c)] [] σ))) : X 126 [some (.inr (.inr (20, 0))), some (.inl c)] [] σ := am_run_ok emX7_step hX [140, 243] 400 (show 3 ≤ 3 ∧ 0 ≤ 8 ∧ sX7_in [.inr (.inl (c).toInt64), .inr (.inl (48 : Int64)), .inr (.inl (57 : Int64))] σ (fun vv tt => am_run eX7_step lX7_step none K X [140, 243] 395 137 [some (.inr (.inr (20, 0))), some (.inl c)] (vv.toList ++ []) tt) from ⟨am_le rfl, am_le rfl, uX7_in (v := c) (a := (48 : Int32)) (b := (57 : Int32)) (⟨fun q0 => (show (((0 : Int32) = (0 : Int32)) → X 243 [some (.inr (.inr (20, 0))), some (.inl c)] [] σ) ∧ (¬ ((0 : Int32) = (0 : Int32)) → _) from ⟨fun _ => (h.1 q0), fun q => absurd (by decide) q⟩), fun q0 => ⟨fun q1 => (show (((0 : Int32) = (0 : Int32)) → X 243 [some (.inr (.inr (20, 0))), some (.inl c)] [] σ) ∧ (¬ ((0 : Int32) = (0 : Int32)) → _) from ⟨fun _ => ((h.2 q0).1 q1), fun q => absurd (by decide) q⟩), fun q1 => (show (((1 : Int32) = (0 : Int32)) → _) ∧ (¬ ((1 : Int32) = (0 : Int32)) → X 140 [some (.inr (.inr (20, 0))), some (.inl c)] [] σ) from ⟨fun q => absurd q (by decide), fun _ => ((h.2 q0).2 q1)⟩)⟩⟩)⟩)
set_option maxRecDepth 100000 in
set_option maxHeartbeats 400000 in
theorem b_sp140 {K : Option am_V → am_M → Prop} {X : Nat → am_L → List am_V → am_M → Prop} (hX : am_cl eX7_step lX7_step none K X) {σ : am_M} (c : Int32) (h : ((σ 20 0 11) < (σ 20 0 7) → vp_in (σ 20 0 11) 160) ∧ ((((mb σ (σ 20 0 11)) < (48 : Int32)) → X 217 [some (.inr (.inr (20, 0))), some (.inl c)] [] σ) ∧ (¬ ((mb σ (σ 20 0 11)) < (48 : Int32)) → (((57 : Int32) < (mb σ (σ 20 0 11))) → X 217 [some (.inr (.inr (20, 0))), some (.inl c)] [] σ) ∧ (¬ ((57 : Int32) < (mb σ (σ 20 0 11))) → (((2 : Int32) ≤ ((σ 20 0 11) - (σ 20 0 12))) → X 140 [some (.inr (.inr (20, 0))), some (.inl c)] [] (am_u (am_u σ 20 0 14 (σ 20 0 14)) 20 0 11 ((σ 20 0 11) + (1 : Int32)))) ∧ (¬ ((2 : Int32) ≤ ((σ 20 0 11) - (σ 20 0 12))) → ((σ 20 0 11) < (σ 20 0 7) → vp_in (σ 20 0 11) 160) ∧ (X 140 [some (.inr (.inr (20, 0))), some (.inl c)] [] (am_u (am_u σ 20 0 14 ((((10 : Int32) * (σ 20 0 14)) + (mb σ (σ 20 0 11))) - (48 : Int32))) 20 0 11 ((σ 20 0 11) + (1 : Int32))))))))) : X 140 [some (.inr (.inr (20, 0))), some (.inl c)] [] σ := am_run_ok emX7_step hX [140, 217] 400 (show 2 ≤ 2 ∧ 0 ≤ 8 ∧ True ∧ sX7_byteAt [.inr (.inr (20, 0)), .inl (σ 20 0 11)] σ (fun vv tt => am_run eX7_step lX7_step none K X [140, 217] 396 148 [some (.inr (.inr (20, 0))), some (.inl c)] (vv.toList ++ []) tt) from ⟨am_le rfl, am_le rfl, trivial, uX7_byteAt (⟨h.1, (show 3 ≤ 3 ∧ 0 ≤ 8 ∧ sX7_in [.inr (.inl ((mb σ (σ 20 0 11))).toInt64), .inr (.inl (48 : Int64)), .inr (.inl (57 : Int64))] σ (fun vv tt => am_run eX7_step lX7_step none K X [140, 217] 392 158 [some (.inr (.inr (20, 0))), some (.inl c)] (vv.toList ++ []) tt) from ⟨am_le rfl, am_le rfl, uX7_in (v := (mb σ (σ 20 0 11))) (a := (48 : Int32)) (b := (57 : Int32)) (⟨fun q0 => (show (((0 : Int32) = (0 : Int32)) → X 217 [some (.inr (.inr (20, 0))), some (.inl c)] [] σ) ∧ (¬ ((0 : Int32) = (0 : Int32)) → _) from ⟨fun _ => (h.2.1 q0), fun q => absurd (by decide) q⟩), fun q0 => ⟨fun q1 => (show (((0 : Int32) = (0 : Int32)) → X 217 [some (.inr (.inr (20, 0))), some (.inl c)] [] σ) ∧ (¬ ((0 : Int32) = (0 : Int32)) → _) from ⟨fun _ => ((h.2.2 q0).1 q1), fun q => absurd (by decide) q⟩), fun q1 => (show (((1 : Int32) = (0 : Int32)) → _) ∧ (¬ ((1 : Int32) = (0 : Int32)) → (((2 : Int32) ≤ ((σ 20 0 11) - (σ 20 0 12))) → X 140 [some (.inr (.inr (20, 0))), some (.inl c)] [] (am_u (am_u σ 20 0 14 (σ 20 0 14)) 20 0 11 ((σ 20 0 11) + (1 : Int32)))) ∧ (¬ ((2 : Int32) ≤ ((σ 20 0 11) - (σ 20 0 12))) → 2 ≤ 4 ∧ 2 ≤ 8 ∧ True ∧ sX7_byteAt [.inr (.inr (20, 0)), .inl (σ 20 0 11)] σ (fun vv tt => am_run eX7_step lX7_step none K X [140, 217] 375 190 [some (.inr (.inr (20, 0))), some (.inl c)] (vv.toList ++ [.inl ((10 : Int32) * (σ 20 0 14)), .inr (.inr (20, 0))]) tt))) from ⟨fun q => absurd q (by decide), fun _ => ⟨fun q2 => (((h.2.2 q0).2 q1).1 q2), fun q2 => ⟨am_le rfl, am_le rfl, trivial, uX7_byteAt (⟨(((h.2.2 q0).2 q1).2 q2).1, (show X 140 [some (.inr (.inr (20, 0))), some (.inl c)] [] (am_u (am_u σ 20 0 14 ((((10 : Int32) * (σ 20 0 14)) + (mb σ (σ 20 0 11))) - (48 : Int32))) 20 0 11 ((σ 20 0 11) + (1 : Int32))) from (((h.2.2 q0).2 q1).2 q2).2)⟩)⟩⟩⟩)⟩⟩)⟩)⟩)⟩)
set_option maxRecDepth 100000 in
set_option maxHeartbeats 400000 in
theorem b_sp217 {K : Option am_V → am_M → Prop} {X : Nat → am_L → List am_V → am_M → Prop} (hX : am_cl eX7_step lX7_step none K X) {σ : am_M} (c : Int32) (h : ((((σ 20 0 11) - (σ 20 0 12)) ≤ (2 : Int32)) → K none (am_u σ 20 0 13 (2 : Int32))) ∧ (¬ (((σ 20 0 11) - (σ 20 0 12)) ≤ (2 : Int32)) → (((σ 20 0 9) = (0 : Int32)) → K none (am_u (am_u (am_u σ 20 0 13 (2 : Int32)) 20 0 9 (1 : Int32)) 20 0 10 (σ 20 0 12))) ∧ (¬ ((σ 20 0 9) = (0 : Int32)) → K none (am_u σ 20 0 13 (2 : Int32))))) : X 217 [some (.inr (.inr (20, 0))), some (.inl c)] [] σ := am_run_ok emX7_step hX [] 400 (show ((((σ 20 0 11) - (σ 20 0 12)) ≤ (2 : Int32)) → K none (am_u σ 20 0 13 (2 : Int32))) ∧ (¬ (((σ 20 0 11) - (σ 20 0 12)) ≤ (2 : Int32)) → 2 ≤ 2 ∧ 0 ≤ 8 ∧ True ∧ sX7_fails [.inr (.inr (20, 0)), .inl (1 : Int32)] (am_u σ 20 0 13 (2 : Int32)) (fun vv tt => am_run eX7_step lX7_step none K X [] 387 240 [some (.inr (.inr (20, 0))), some (.inl c)] (vv.toList ++ []) tt)) from ⟨fun q0 => (h.1 q0), fun q0 => ⟨am_le rfl, am_le rfl, trivial, tX7_fails (⟨fun q1 => (show K none (am_u (am_u (am_u σ 20 0 13 (2 : Int32)) 20 0 9 (1 : Int32)) 20 0 10 (σ 20 0 12)) from ((h.2 q0).1 q1)), fun q1 => (show K none (am_u σ 20 0 13 (2 : Int32)) from ((h.2 q0).2 q1))⟩)⟩⟩)
set_option maxRecDepth 100000 in
set_option maxHeartbeats 400000 in
theorem b_sp243 {K : Option am_V → am_M → Prop} {X : Nat → am_L → List am_V → am_M → Prop} (hX : am_cl eX7_step lX7_step none K X) {σ : am_M} (c : Int32) (h : ((c = (59 : Int32)) → K none (am_u (am_u σ 20 0 13 (3 : Int32)) 20 0 11 ((σ 20 0 11) + (1 : Int32)))) ∧ (¬ (c = (59 : Int32)) → (((σ 20 0 9) = (0 : Int32)) → K none (am_u (am_u (am_u (am_u σ 20 0 13 (3 : Int32)) 20 0 11 ((σ 20 0 11) + (1 : Int32))) 20 0 9 (1 : Int32)) 20 0 10 (σ 20 0 12))) ∧ (¬ ((σ 20 0 9) = (0 : Int32)) → K none (am_u (am_u σ 20 0 13 (3 : Int32)) 20 0 11 ((σ 20 0 11) + (1 : Int32)))))) : X 243 [some (.inr (.inr (20, 0))), some (.inl c)] [] σ := am_run_ok emX7_step hX [] 400 (show ((c = (59 : Int32)) → K none (am_u (am_u σ 20 0 13 (3 : Int32)) 20 0 11 ((σ 20 0 11) + (1 : Int32)))) ∧ (¬ (c = (59 : Int32)) → 2 ≤ 2 ∧ 0 ≤ 8 ∧ True ∧ sX7_fails [.inr (.inr (20, 0)), .inl (1 : Int32)] (am_u (am_u σ 20 0 13 (3 : Int32)) 20 0 11 ((σ 20 0 11) + (1 : Int32))) (fun vv tt => am_run eX7_step lX7_step none K X [] 385 269 [some (.inr (.inr (20, 0))), some (.inl c)] (vv.toList ++ []) tt)) from ⟨fun q0 => (h.1 q0), fun q0 => ⟨am_le rfl, am_le rfl, trivial, tX7_fails (⟨fun q1 => (show K none (am_u (am_u (am_u (am_u σ 20 0 13 (3 : Int32)) 20 0 11 ((σ 20 0 11) + (1 : Int32))) 20 0 9 (1 : Int32)) 20 0 10 (σ 20 0 12)) from ((h.2 q0).1 q1)), fun q1 => (show K none (am_u (am_u σ 20 0 13 (3 : Int32)) 20 0 11 ((σ 20 0 11) + (1 : Int32))) from ((h.2 q0).2 q1))⟩)⟩⟩)
set_option maxRecDepth 100000 in
set_option maxHeartbeats 400000 in
theorem b_nh0 {K : Option am_V → am_M → Prop} {X : Nat → am_L → List am_V → am_M → Prop} (hX : am_cl eX7_nameHere lX7_nameHere (some .int) K X) {σ : am_M}  (h : X 2 [some (.inr (.inr (20, 0))), some (.inl (0 : Int32)), none, none] [] σ) : X 0 [some (.inr (.inr (20, 0))), none, none, none] [] σ := am_run_ok emX7_nameHere hX [2] 400 (show X 2 [some (.inr (.inr (20, 0))), some (.inl (0 : Int32)), none, none] [] σ from h)
set_option maxRecDepth 100000 in
set_option maxHeartbeats 400000 in
theorem b_nh2 {K : Option am_V → am_M → Prop} {X : Nat → am_L → List am_V → am_M → Prop} (hX : am_cl eX7_nameHere lX7_nameHere (some .int) K X) {σ : am_M} (n : Nat) (h : (((8 : Int32) ≤ (nI n)) → K (some (.inl (-4 : Int32))) σ) ∧ (¬ ((8 : Int32) ≤ (nI n)) → (((σ 20 0 13) = (1 : Int32)) → (vp_in ((nI n) + (1 : Int32)) 9) ∧ ((vp_in (nI n) 9) ∧ (((((σ 20 0 11) - (σ 20 0 12)) = ((σ 24 0 ((nI n) + (1 : Int32)).toNatClampNeg) - (σ 24 0 (nI n).toNatClampNeg))) → X 51 [some (.inr (.inr (20, 0))), some (.inl (nI n)), some (.inl (1 : Int32)), some (.inl (0 : Int32))] [] σ) ∧ (¬ (((σ 20 0 11) - (σ 20 0 12)) = ((σ 24 0 ((nI n) + (1 : Int32)).toNatClampNeg) - (σ 24 0 (nI n).toNatClampNeg))) → X 51 [some (.inr (.inr (20, 0))), some (.inl (nI n)), some (.inl (0 : Int32)), some (.inl (0 : Int32))] [] σ)))) ∧ (¬ ((σ 20 0 13) = (1 : Int32)) → K (some (.inl (-4 : Int32))) σ))) : X 2 [some (.inr (.inr (20, 0))), some (.inl (nI n)), none, none] [] σ := am_run_ok emX7_nameHere hX [51] 400 (show (((8 : Int32) ≤ (nI n)) → K (some (.inl (-4 : Int32))) σ) ∧ (¬ ((8 : Int32) ≤ (nI n)) → (((σ 20 0 13) = (1 : Int32)) → (vp_in ((nI n) + (1 : Int32)) 9) ∧ ((vp_in (nI n) 9) ∧ (((((σ 20 0 11) - (σ 20 0 12)) = ((σ 24 0 ((nI n) + (1 : Int32)).toNatClampNeg) - (σ 24 0 (nI n).toNatClampNeg))) → X 51 [some (.inr (.inr (20, 0))), some (.inl (nI n)), some (.inl (1 : Int32)), some (.inl (0 : Int32))] [] σ) ∧ (¬ (((σ 20 0 11) - (σ 20 0 12)) = ((σ 24 0 ((nI n) + (1 : Int32)).toNatClampNeg) - (σ 24 0 (nI n).toNatClampNeg))) → X 51 [some (.inr (.inr (20, 0))), some (.inl (nI n)), some (.inl (0 : Int32)), some (.inl (0 : Int32))] [] σ)))) ∧ (¬ ((σ 20 0 13) = (1 : Int32)) → K (some (.inl (-4 : Int32))) σ)) from ⟨fun q0 => (h.1 q0), fun q0 => ⟨fun q1 => ⟨((h.2 q0).1 q1).1, ⟨((h.2 q0).1 q1).2.1, ⟨fun q2 => (((h.2 q0).1 q1).2.2.1 q2), fun q2 => (((h.2 q0).1 q1).2.2.2 q2)⟩⟩⟩, fun q1 => ((h.2 q0).2 q1)⟩⟩)
set_option maxRecDepth 100000 in
set_option maxHeartbeats 400000 in
theorem b_nh51 {K : Option am_V → am_M → Prop} {X : Nat → am_L → List am_V → am_M → Prop} (hX : am_cl eX7_nameHere lX7_nameHere (some .int) K X) {σ : am_M} (n k : Nat) (b : Int32) (h : ((b = (0 : Int32)) → X 106 [some (.inr (.inr (20, 0))), some (.inl (nI n)), some (.inl b), some (.inl (nI k))] [] σ) ∧ (¬ (b = (0 : Int32)) → ((((σ 20 0 11) - (σ 20 0 12)) ≤ (nI k)) → X 106 [some (.inr (.inr (20, 0))), some (.inl (nI n)), some (.inl b), some (.inl (nI k))] [] σ) ∧ (¬ (((σ 20 0 11) - (σ 20 0 12)) ≤ (nI k)) → (((σ 20 0 12) + (nI k)) < (σ 20 0 7) → vp_in ((σ 20 0 12) + (nI k)) 160) ∧ ((vp_in (nI n) 9) ∧ ((vp_in ((σ 24 0 (nI n).toNatClampNeg) + (nI k)) 41) ∧ ((((mb σ ((σ 20 0 12) + (nI k))) = (σ 25 0 ((σ 24 0 (nI n).toNatClampNeg) + (nI k)).toNatClampNeg)) → X 51 [some (.inr (.inr (20, 0))), some (.inl (nI n)), some (.inl (1 : Int32)), some (.inl ((nI k) + (1 : Int32)))] [] σ) ∧ (¬ ((mb σ ((σ 20 0 12) + (nI k))) = (σ 25 0 ((σ 24 0 (nI n).toNatClampNeg) + (nI k)).toNatClampNeg)) → X 51 [some (.inr (.inr (20, 0))), some (.inl (nI n)), some (.inl (0 : Int32)), some (.inl ((nI k) + (1 : Int32)))] [] σ))))))) : X 51 [some (.inr (.inr (20, 0))), some (.inl (nI n)), some (.inl b), some (.inl (nI k))] [] σ := am_run_ok emX7_nameHere hX [51, 106] 400 (show ((b = (0 : Int32)) → X 106 [some (.inr (.inr (20, 0))), some (.inl (nI n)), some (.inl b), some (.inl (nI k))] [] σ) ∧ (¬ (b = (0 : Int32)) → ((((σ 20 0 11) - (σ 20 0 12)) ≤ (nI k)) → X 106 [some (.inr (.inr (20, 0))), some (.inl (nI n)), some (.inl b), some (.inl (nI k))] [] σ) ∧ (¬ (((σ 20 0 11) - (σ 20 0 12)) ≤ (nI k)) → 2 ≤ 2 ∧ 0 ≤ 8 ∧ True ∧ sX7_byteAt [.inr (.inr (20, 0)), .inl ((σ 20 0 12) + (nI k))] σ (fun vv tt => am_run eX7_nameHere lX7_nameHere (some .int) K X [51, 106] 385 78 [some (.inr (.inr (20, 0))), some (.inl (nI n)), some (.inl b), some (.inl (nI k))] (vv.toList ++ []) tt))) from ⟨fun q0 => (h.1 q0), fun q0 => ⟨fun q1 => ((h.2 q0).1 q1), fun q1 => ⟨am_le rfl, am_le rfl, trivial, uX7_byteAt (⟨((h.2 q0).2 q1).1, (show (vp_in (nI n) 9) ∧ ((vp_in ((σ 24 0 (nI n).toNatClampNeg) + (nI k)) 41) ∧ ((((mb σ ((σ 20 0 12) + (nI k))) = (σ 25 0 ((σ 24 0 (nI n).toNatClampNeg) + (nI k)).toNatClampNeg)) → X 51 [some (.inr (.inr (20, 0))), some (.inl (nI n)), some (.inl (1 : Int32)), some (.inl ((nI k) + (1 : Int32)))] [] σ) ∧ (¬ ((mb σ ((σ 20 0 12) + (nI k))) = (σ 25 0 ((σ 24 0 (nI n).toNatClampNeg) + (nI k)).toNatClampNeg)) → X 51 [some (.inr (.inr (20, 0))), some (.inl (nI n)), some (.inl (0 : Int32)), some (.inl ((nI k) + (1 : Int32)))] [] σ))) from ⟨((h.2 q0).2 q1).2.1, ⟨((h.2 q0).2 q1).2.2.1, ⟨fun q2 => (((h.2 q0).2 q1).2.2.2.1 q2), fun q2 => (((h.2 q0).2 q1).2.2.2.2 q2)⟩⟩⟩)⟩)⟩⟩⟩)
set_option maxRecDepth 100000 in
set_option maxHeartbeats 400000 in
theorem b_nh106 {K : Option am_V → am_M → Prop} {X : Nat → am_L → List am_V → am_M → Prop} (hX : am_cl eX7_nameHere lX7_nameHere (some .int) K X) {σ : am_M} (n : Nat) (b : Int32) (h : ((b = (0 : Int32)) → X 2 [some (.inr (.inr (20, 0))), some (.inl ((nI n) + (1 : Int32))), some (.inl b), none] [] σ) ∧ (¬ (b = (0 : Int32)) → K (some (.inl (nI n))) σ)) : X 106 [some (.inr (.inr (20, 0))), some (.inl (nI n)), some (.inl b), none] [] σ := am_run_ok emX7_nameHere hX [2] 400 (show ((b = (0 : Int32)) → X 2 [some (.inr (.inr (20, 0))), some (.inl ((nI n) + (1 : Int32))), some (.inl b), none] [] σ) ∧ (¬ (b = (0 : Int32)) → K (some (.inl (nI n))) σ) from ⟨fun q0 => (h.1 q0), fun q0 => (h.2 q0)⟩)
set_option maxRecDepth 100000 in
set_option maxHeartbeats 400000 in
theorem b_ot0 {K : Option am_V → am_M → Prop} {X : Nat → am_L → List am_V → am_M → Prop} (hX : am_cl eX7_other lX7_other (some .int) K X) {σ : am_M} (lo hi s : Int32) (h : (((σ 20 0 9) = (0 : Int32)) → (((σ 20 0 13) = (2 : Int32)) → X 20 [some (.inr (.inr (20, 0))), some (.inl lo), some (.inl hi), some (.inl s), none] [] σ) ∧ (¬ ((σ 20 0 13) = (2 : Int32)) → (((σ 20 0 9) = (0 : Int32)) → X 20 [some (.inr (.inr (20, 0))), some (.inl lo), some (.inl hi), some (.inl s), none] [] (am_u (am_u σ 20 0 9 (2 : Int32)) 20 0 10 (σ 20 0 12))) ∧ (¬ ((σ 20 0 9) = (0 : Int32)) → X 20 [some (.inr (.inr (20, 0))), some (.inl lo), some (.inl hi), some (.inl s), none] [] σ))) ∧ (¬ ((σ 20 0 9) = (0 : Int32)) → X 20 [some (.inr (.inr (20, 0))), some (.inl lo), some (.inl hi), some (.inl s), none] [] σ)) : X 0 [some (.inr (.inr (20, 0))), some (.inl lo), some (.inl hi), some (.inl s), none] [] σ := am_run_ok emX7_other hX [20] 400 (show (((σ 20 0 9) = (0 : Int32)) → (((σ 20 0 13) = (2 : Int32)) → X 20 [some (.inr (.inr (20, 0))), some (.inl lo), some (.inl hi), some (.inl s), none] [] σ) ∧ (¬ ((σ 20 0 13) = (2 : Int32)) → 2 ≤ 2 ∧ 0 ≤ 8 ∧ True ∧ sX7_fails [.inr (.inr (20, 0)), .inl (2 : Int32)] σ (fun vv tt => X 20 [some (.inr (.inr (20, 0))), some (.inl lo), some (.inl hi), some (.inl s), none] (vv.toList ++ []) tt))) ∧ (¬ ((σ 20 0 9) = (0 : Int32)) → X 20 [some (.inr (.inr (20, 0))), some (.inl lo), some (.inl hi), some (.inl s), none] [] σ) from ⟨fun q0 => ⟨fun q1 => ((h.1 q0).1 q1), fun q1 => ⟨am_le rfl, am_le rfl, trivial, tX7_fails (⟨fun q2 => (show X 20 [some (.inr (.inr (20, 0))), some (.inl lo), some (.inl hi), some (.inl s), none] [] (am_u (am_u σ 20 0 9 (2 : Int32)) 20 0 10 (σ 20 0 12)) from (((h.1 q0).2 q1).1 q2)), fun q2 => (show X 20 [some (.inr (.inr (20, 0))), some (.inl lo), some (.inl hi), some (.inl s), none] [] σ from (((h.1 q0).2 q1).2 q2))⟩)⟩⟩, fun q0 => (h.2 q0)⟩)
set_option maxRecDepth 100000 in
set_option maxHeartbeats 400000 in
theorem b_ot20 {K : Option am_V → am_M → Prop} {X : Nat → am_L → List am_V → am_M → Prop} (hX : am_cl eX7_other lX7_other (some .int) K X) {σ : am_M} (lo hi s : Int32) (h : (((σ 20 0 9) = (0 : Int32)) → (((σ 20 0 14) < lo) → (((σ 20 0 9) = (0 : Int32)) → X 47 [some (.inr (.inr (20, 0))), some (.inl lo), some (.inl hi), some (.inl s), none] [] (am_u (am_u σ 20 0 9 (3 : Int32)) 20 0 10 (σ 20 0 12))) ∧ (¬ ((σ 20 0 9) = (0 : Int32)) → X 47 [some (.inr (.inr (20, 0))), some (.inl lo), some (.inl hi), some (.inl s), none] [] σ)) ∧ (¬ ((σ 20 0 14) < lo) → ((hi < (σ 20 0 14)) → (((σ 20 0 9) = (0 : Int32)) → X 47 [some (.inr (.inr (20, 0))), some (.inl lo), some (.inl hi), some (.inl s), none] [] (am_u (am_u σ 20 0 9 (3 : Int32)) 20 0 10 (σ 20 0 12))) ∧ (¬ ((σ 20 0 9) = (0 : Int32)) → X 47 [some (.inr (.inr (20, 0))), some (.inl lo), some (.inl hi), some (.inl s), none] [] σ)) ∧ (¬ (hi < (σ 20 0 14)) → X 47 [some (.inr (.inr (20, 0))), some (.inl lo), some (.inl hi), some (.inl s), none] [] σ))) ∧ (¬ ((σ 20 0 9) = (0 : Int32)) → X 47 [some (.inr (.inr (20, 0))), some (.inl lo), some (.inl hi), some (.inl s), none] [] σ)) : X 20 [some (.inr (.inr (20, 0))), some (.inl lo), some (.inl hi), some (.inl s), none] [] σ := am_run_ok emX7_other hX [47] 400 (show (((σ 20 0 9) = (0 : Int32)) → 3 ≤ 3 ∧ 0 ≤ 8 ∧ sX7_in [.inr (.inl ((σ 20 0 14)).toInt64), .inr (.inl (lo).toInt64), .inr (.inl (hi).toInt64)] σ (fun vv tt => am_run eX7_other lX7_other (some .int) K X [47] 389 39 [some (.inr (.inr (20, 0))), some (.inl lo), some (.inl hi), some (.inl s), none] (vv.toList ++ []) tt)) ∧ (¬ ((σ 20 0 9) = (0 : Int32)) → X 47 [some (.inr (.inr (20, 0))), some (.inl lo), some (.inl hi), some (.inl s), none] [] σ) from ⟨fun q0 => ⟨am_le rfl, am_le rfl, uX7_in (v := (σ 20 0 14)) (a := lo) (b := hi) (⟨fun q1 => (show (((0 : Int32) = (0 : Int32)) → 2 ≤ 2 ∧ 0 ≤ 8 ∧ True ∧ sX7_fails [.inr (.inr (20, 0)), .inl (3 : Int32)] σ (fun vv tt => X 47 [some (.inr (.inr (20, 0))), some (.inl lo), some (.inl hi), some (.inl s), none] (vv.toList ++ []) tt)) ∧ (¬ ((0 : Int32) = (0 : Int32)) → _) from ⟨fun _ => ⟨am_le rfl, am_le rfl, trivial, tX7_fails (⟨fun q2 => (show X 47 [some (.inr (.inr (20, 0))), some (.inl lo), some (.inl hi), some (.inl s), none] [] (am_u (am_u σ 20 0 9 (3 : Int32)) 20 0 10 (σ 20 0 12)) from (((h.1 q0).1 q1).1 q2)), fun q2 => (show X 47 [some (.inr (.inr (20, 0))), some (.inl lo), some (.inl hi), some (.inl s), none] [] σ from (((h.1 q0).1 q1).2 q2))⟩)⟩, fun q => absurd (by decide) q⟩), fun q1 => ⟨fun q2 => (show (((0 : Int32) = (0 : Int32)) → 2 ≤ 2 ∧ 0 ≤ 8 ∧ True ∧ sX7_fails [.inr (.inr (20, 0)), .inl (3 : Int32)] σ (fun vv tt => X 47 [some (.inr (.inr (20, 0))), some (.inl lo), some (.inl hi), some (.inl s), none] (vv.toList ++ []) tt)) ∧ (¬ ((0 : Int32) = (0 : Int32)) → _) from ⟨fun _ => ⟨am_le rfl, am_le rfl, trivial, tX7_fails (⟨fun q3 => (show X 47 [some (.inr (.inr (20, 0))), some (.inl lo), some (.inl hi), some (.inl s), none] [] (am_u (am_u σ 20 0 9 (3 : Int32)) 20 0 10 (σ 20 0 12)) from ((((h.1 q0).2 q1).1 q2).1 q3)), fun q3 => (show X 47 [some (.inr (.inr (20, 0))), some (.inl lo), some (.inl hi), some (.inl s), none] [] σ from ((((h.1 q0).2 q1).1 q2).2 q3))⟩)⟩, fun q => absurd (by decide) q⟩), fun q2 => (show (((1 : Int32) = (0 : Int32)) → _) ∧ (¬ ((1 : Int32) = (0 : Int32)) → X 47 [some (.inr (.inr (20, 0))), some (.inl lo), some (.inl hi), some (.inl s), none] [] σ) from ⟨fun q => absurd q (by decide), fun _ => (((h.1 q0).2 q1).2 q2)⟩)⟩⟩)⟩, fun q0 => (h.2 q0)⟩)
set_option maxRecDepth 100000 in
set_option maxHeartbeats 400000 in
theorem b_ot47 {K : Option am_V → am_M → Prop} {X : Nat → am_L → List am_V → am_M → Prop} (hX : am_cl eX7_other lX7_other (some .int) K X) {σ : am_M} (lo hi s : Int32) (h : (((σ 20 0 9) = (0 : Int32)) → ((((s >>> ((σ 20 0 14) &&& 31)) &&& (1 : Int32)) = (1 : Int32)) → (((σ 20 0 9) = (0 : Int32)) → X 71 [some (.inr (.inr (20, 0))), some (.inl lo), some (.inl hi), some (.inl s), none] [] (am_u (am_u σ 20 0 9 (4 : Int32)) 20 0 10 (σ 20 0 12))) ∧ (¬ ((σ 20 0 9) = (0 : Int32)) → X 71 [some (.inr (.inr (20, 0))), some (.inl lo), some (.inl hi), some (.inl s), none] [] σ)) ∧ (¬ (((s >>> ((σ 20 0 14) &&& 31)) &&& (1 : Int32)) = (1 : Int32)) → X 71 [some (.inr (.inr (20, 0))), some (.inl lo), some (.inl hi), some (.inl s), none] [] σ)) ∧ (¬ ((σ 20 0 9) = (0 : Int32)) → X 71 [some (.inr (.inr (20, 0))), some (.inl lo), some (.inl hi), some (.inl s), none] [] σ)) : X 47 [some (.inr (.inr (20, 0))), some (.inl lo), some (.inl hi), some (.inl s), none] [] σ := am_run_ok emX7_other hX [71] 400 (show (((σ 20 0 9) = (0 : Int32)) → ((((s >>> ((σ 20 0 14) &&& 31)) &&& (1 : Int32)) = (1 : Int32)) → 2 ≤ 2 ∧ 0 ≤ 8 ∧ True ∧ sX7_fails [.inr (.inr (20, 0)), .inl (4 : Int32)] σ (fun vv tt => X 71 [some (.inr (.inr (20, 0))), some (.inl lo), some (.inl hi), some (.inl s), none] (vv.toList ++ []) tt)) ∧ (¬ (((s >>> ((σ 20 0 14) &&& 31)) &&& (1 : Int32)) = (1 : Int32)) → X 71 [some (.inr (.inr (20, 0))), some (.inl lo), some (.inl hi), some (.inl s), none] [] σ)) ∧ (¬ ((σ 20 0 9) = (0 : Int32)) → X 71 [some (.inr (.inr (20, 0))), some (.inl lo), some (.inl hi), some (.inl s), none] [] σ) from ⟨fun q0 => ⟨fun q1 => ⟨am_le rfl, am_le rfl, trivial, tX7_fails (⟨fun q2 => (show X 71 [some (.inr (.inr (20, 0))), some (.inl lo), some (.inl hi), some (.inl s), none] [] (am_u (am_u σ 20 0 9 (4 : Int32)) 20 0 10 (σ 20 0 12)) from (((h.1 q0).1 q1).1 q2)), fun q2 => (show X 71 [some (.inr (.inr (20, 0))), some (.inl lo), some (.inl hi), some (.inl s), none] [] σ from (((h.1 q0).1 q1).2 q2))⟩)⟩, fun q1 => ((h.1 q0).2 q1)⟩, fun q0 => (h.2 q0)⟩)
set_option maxRecDepth 100000 in
set_option maxHeartbeats 400000 in
theorem b_ot71 {K : Option am_V → am_M → Prop} {X : Nat → am_L → List am_V → am_M → Prop} (hX : am_cl eX7_other lX7_other (some .int) K X) {σ : am_M} (lo hi s : Int32) (h : (((σ 20 0 9) = (0 : Int32)) → sX7_step [.inr (.inr (20, 0))] σ (fun vv tt => X 92 [some (.inr (.inr (20, 0))), some (.inl lo), some (.inl hi), some (.inl s), some (.inl (σ 20 0 14))] (vv.toList ++ []) tt)) ∧ (¬ ((σ 20 0 9) = (0 : Int32)) → sX7_step [.inr (.inr (20, 0))] σ (fun vv tt => X 92 [some (.inr (.inr (20, 0))), some (.inl lo), some (.inl hi), some (.inl s), some (.inl lo)] (vv.toList ++ []) tt))) : X 71 [some (.inr (.inr (20, 0))), some (.inl lo), some (.inl hi), some (.inl s), none] [] σ := am_run_ok emX7_other hX [92] 400 (show (((σ 20 0 9) = (0 : Int32)) → 1 ≤ 1 ∧ 0 ≤ 8 ∧ True ∧ sX7_step [.inr (.inr (20, 0))] σ (fun vv tt => X 92 [some (.inr (.inr (20, 0))), some (.inl lo), some (.inl hi), some (.inl s), some (.inl (σ 20 0 14))] (vv.toList ++ []) tt)) ∧ (¬ ((σ 20 0 9) = (0 : Int32)) → 1 ≤ 1 ∧ 0 ≤ 8 ∧ True ∧ sX7_step [.inr (.inr (20, 0))] σ (fun vv tt => X 92 [some (.inr (.inr (20, 0))), some (.inl lo), some (.inl hi), some (.inl s), some (.inl lo)] (vv.toList ++ []) tt)) from ⟨fun q0 => ⟨am_le rfl, am_le rfl, trivial, (h.1 q0)⟩, fun q0 => ⟨am_le rfl, am_le rfl, trivial, (h.2 q0)⟩⟩)
set_option maxRecDepth 100000 in
set_option maxHeartbeats 400000 in
theorem b_ot92 {K : Option am_V → am_M → Prop} {X : Nat → am_L → List am_V → am_M → Prop} (hX : am_cl eX7_other lX7_other (some .int) K X) {σ : am_M} (lo hi s : Int32) (v : Int32) (h : K (some (.inl v)) σ) : X 92 [some (.inr (.inr (20, 0))), some (.inl lo), some (.inl hi), some (.inl s), some (.inl v)] [] σ := am_run_ok emX7_other hX [] 400 (show K (some (.inl v)) σ from h)
/-- the tape, to the reference -/
def tm (σ : am_M) (t : Nat) (b : Nat → Nat) : Prop := t ≤ 160 ∧ σ 20 0 7 = nI t ∧ ∀ i, i < t → σ 23 0 i = nI (b i) ∧ b i ≤ 127
theorem tm_in {σ : am_M} {t i : Nat} {b : Nat → Nat} (h : tm σ t b) (hi : i < 2 ^ 31) : nI i < σ 20 0 7 → vp_in (nI i) 160 := by
  have := h.1
  rw [h.2.1, nI_ltI hi (by omega)]
  exact fun q => q_in (by omega) (by decide)
theorem tm_mb {σ : am_M} {t i : Nat} {b : Nat → Nat} (h : tm σ t b) (hi : i < 2 ^ 31) : mb σ (nI i) = if i < t then nI (b i) else -4 := by
  have h1 := h.1
  unfold mb
  rw [h.2.1, nI_clamp hi]
  by_cases c : i < t
  · rw [if_pos (nI_lt c (by omega)), if_pos c, (h.2.2 i c).1]
  · rw [if_neg (nI_nlt (by omega) hi), if_neg c]
def d20 (σ τ : am_M) : Prop := (∀ k, k ≠ 20 → τ k = σ k) ∧ ∀ j, j < 9 ∨ 14 < j → τ 20 0 j = σ 20 0 j
theorem d20_refl {σ : am_M} : d20 σ σ := ⟨fun _ _ => rfl, fun _ _ => rfl⟩
theorem d20_u {σ τ : am_M} {c : Nat} {v : Int32} (h : d20 σ τ) (h1 : 9 ≤ c) (h2 : c ≤ 14) : d20 σ (am_u τ 20 0 c v) := ⟨fun k hk => by rw [am_u_k hk, h.1 k hk], fun j hj => by rw [am_u_j (by omega), h.2 j hj]⟩
theorem d20_trans {σ τ υ : am_M} (h1 : d20 σ τ) (h2 : d20 τ υ) : d20 σ υ := ⟨fun k hk => by rw [h2.1 k hk, h1.1 k hk], fun j hj => by rw [h2.2 j hj, h1.2 j hj]⟩
theorem d20_tm {σ τ : am_M} {t : Nat} {b : Nat → Nat} (h : d20 σ τ) (h2 : tm σ t b) : tm τ t b := by
  unfold tm
  rw [h.2 7 (by decide), h.1 23 (by decide)]
  exact h2
def dvl (b : Nat → Nat) (s n : Nat) : Nat := if n = 0 then 0 else if n = 1 then b s - 48 else 10 * (b s - 48) + (b (s + 1) - 48)
theorem tX7_step_b {σ : am_M} {c : Nat} {K : am_K} (h9 : σ 20 0 9 = nI c) (h1 : 1 ≤ c) (h6 : c ≤ 6) (h : K none σ) : sX7_step [.inr (.inr (20, 0))] σ K := ⟨am_le rfl, fun X hX => b_sp0 hX ⟨fun q => absurd q (by rw [h9]; exact nI_nle (by omega) (by omega)), fun _ => h⟩⟩
theorem tX7_step {σ : am_M} {t i : Nat} {b : Nat → Nat} {K : am_K} (ht : tm σ t b) (h9 : σ 20 0 9 = 0) (hi : σ 20 0 11 = nI i) (hit : i ≤ t) (h1 : tkB b t i = false → ∀ τ, d20 σ τ → τ 20 0 9 = 0 → τ 20 0 11 = nI (tkE b t i) → τ 20 0 12 = nI (tkS b t i) → τ 20 0 13 = nI (tkK b t i) → (tkK b t i = 2 → τ 20 0 14 = nI (tkV b t i)) → K none τ) (h0 : tkB b t i = true → ∀ τ, d20 σ τ → τ 20 0 9 = 1 → τ 20 0 10 = nI (tkS b t i) → K none τ) : sX7_step [.inr (.inr (20, 0))] σ K := by
  have t160 := ht.1
  refine ⟨am_le rfl, fun X hX => b_sp0 hX ⟨fun _ => ?_, fun q => absurd (by rw [h9]; decide) q⟩⟩
  have sb := tkS_b (b := b) hit
  have main : X 34 [some (.inr (.inr (20, 0))), none] [] (am_u σ 20 0 11 (nI (tkS b t i))) := by
    unfold tkB tkK tkE tkV at h1
    unfold tkB tkK at h0
    generalize tkS b t i = s at sb h1 h0 ⊢
    have hs : s < 2 ^ 31 := by omega
    have dd : d20 σ (am_u σ 20 0 11 (nI s)) := d20_u d20_refl (by decide) (by decide)
    refine b_sp34 hX ?_
    have tma : tm (am_u (am_u σ 20 0 11 (nI s)) 20 0 12 (nI s)) t b := ht
    have e0 := tm_mb tma hs
    rw [show am_u σ 20 0 11 (nI s) 20 0 11 = nI s from rfl, e0]
    refine ⟨tm_in tma hs, ?_⟩
    by_cases c0 : t ≤ s
    · rw [if_neg (by omega)]
      rw [if_pos c0] at h1
      rw [if_pos c0] at h1
      refine ⟨fun _ => h1 rfl _ (d20_u (d20_u (d20_u dd (by decide) (by decide)) (by decide) (by decide)) (by decide) (by decide)) h9 rfl rfl rfl (fun q => absurd q (by omega)), fun q => absurd rfl q⟩
    rw [if_neg c0] at h1 h0
    rw [if_neg c0] at h1
    have hst : s < t := by omega
    have bs := (ht.2.2 s hst).2
    rw [if_pos hst]
    have dd2 : d20 σ (am_u (am_u (am_u σ 20 0 11 (nI s)) 20 0 12 (nI s)) 20 0 14 (0 : Int32)) := d20_u (d20_u dd (by decide) (by decide)) (by decide) (by decide)
    have isl : isL (b s) = true ↔ ¬ nI (b s) < (97 : Int32) ∧ ¬ (122 : Int32) < nI (b s) := by
      rw [show (nI (b s) < (97 : Int32) ↔ b s < 97) from nI_ltI (b := 97) (by omega) (by decide), show ((122 : Int32) < nI (b s) ↔ 122 < b s) from nI_ltI (a := 122) (by decide) (by omega)]
      unfold isL
      rw [Bool.and_eq_true, decide_eq_true_iff, decide_eq_true_iff]
      omega
    have isf : isF (b s) = true ↔ ¬ nI (b s) < (48 : Int32) ∧ ¬ (57 : Int32) < nI (b s) := by
      rw [show (nI (b s) < (48 : Int32) ↔ b s < 48) from nI_ltI (b := 48) (by omega) (by decide), show ((57 : Int32) < nI (b s) ↔ 57 < b s) from nI_ltI (a := 57) (by decide) (by omega)]
      unfold isF
      rw [Bool.and_eq_true, decide_eq_true_iff, decide_eq_true_iff]
      omega
    have e59 : nI (b s) = (59 : Int32) ↔ b s = 59 := nI_eq (b := 59) (by omega) (by decide)
    refine ⟨fun q => absurd q (q_m4 (by omega)), fun _ => b_sp70 hX _ ?_⟩
    have n126 : ¬ isL (b s) = true → X 126 [some (.inr (.inr (20, 0))), some (.inl (nI (b s)))] [] (am_u (am_u (am_u σ 20 0 11 (nI s)) 20 0 12 (nI s)) 20 0 14 (0 : Int32)) := by
      intro c2
      rw [if_neg c2] at h1 h0
      rw [if_neg c2] at h1
      refine b_sp126 hX _ ?_
      have n243 : ¬ isF (b s) = true → X 243 [some (.inr (.inr (20, 0))), some (.inl (nI (b s)))] [] (am_u (am_u (am_u σ 20 0 11 (nI s)) 20 0 12 (nI s)) 20 0 14 (0 : Int32)) := by
        intro c3
        rw [if_neg c3] at h1 h0
        refine b_sp243 hX _ ?_
        rw [e59, show am_u (am_u (am_u σ 20 0 11 (nI s)) 20 0 12 (nI s)) 20 0 14 (0 : Int32) 20 0 11 = nI s from rfl, show nI s + (1 : Int32) = nI (s + 1) from nI_add s 1]
        refine ⟨fun c1 => ?_, fun c1 => ⟨fun _ => ?_, fun q => absurd h9 q⟩⟩
        · rw [if_pos c1] at h1
          rw [if_pos c1] at h1
          exact h1 rfl _ (d20_u (d20_u dd2 (by decide) (by decide)) (by decide) (by decide)) h9 rfl rfl rfl (fun q => absurd q (by omega))
        · rw [if_neg c1] at h0
          exact h0 rfl _ (d20_u (d20_u (d20_u (d20_u dd2 (by decide) (by decide)) (by decide) (by decide)) (by decide) (by decide)) (by decide) (by decide)) rfl rfl
      refine ⟨fun c => n243 fun q => (isf.1 q).1 c, fun ca => ⟨fun c => n243 fun q => (isf.1 q).2 c, fun cb => ?_⟩⟩
      have c3 : isF (b s) = true := isf.2 ⟨ca, cb⟩
      have c1 : ¬ b s = 59 := fun q => by
        rw [q] at c3
        exact absurd c3 (by decide)
      rw [if_neg c1, if_pos c3, if_pos rfl] at h0
      rw [if_neg c1, if_pos c3] at h1
      rw [if_pos rfl, if_neg c1] at h1
      have ef : fs (fun j => isF (b j)) t s = fs (fun j => isF (b j)) t (s + 1) := fs_y hst c3
      have fin : ∀ (j : Nat) (τ : am_M), j = fs (fun j => isF (b j)) t s → d20 σ τ → τ 20 0 9 = 0 → τ 20 0 11 = nI j → τ 20 0 12 = nI s → τ 20 0 14 = nI (dvl b s (j - s)) → X 217 [some (.inr (.inr (20, 0))), some (.inl (nI (b s)))] [] τ := by
        intro j τ ej dτ g9 g11 g12 g14
        have hjt : j ≤ t := by
          rw [ej]
          exact fs_le (by omega)
        have hsj : s + 1 ≤ j := by
          rw [ej, ef]
          exact fs_ge
        refine b_sp217 hX _ ?_
        rw [g11, g12, g9, pk_sub (by omega), show (nI (j - s) ≤ (2 : Int32) ↔ j - s ≤ 2) from nI_leI (b := 2) (by omega) (by decide)]
        have h1a : fgA b t (s + 1) = true ↔ s + 2 ≤ j := by
          unfold fgA
          rw [Bool.and_eq_true, decide_eq_true_iff]
          constructor
          · rintro ⟨q1, q2⟩
            rw [ej, ef, fs_y q1 q2]
            exact fs_ge
          · intro q
            have q1 : s + 1 < t := by omega
            refine ⟨q1, ?_⟩
            cases c : isF (b (s + 1))
            · rw [ef, fs_n (P := fun j => isF (b j)) (Or.inr c)] at ej
              omega
            · rfl
        have h2a : fgA b t (s + 1) = true → (fgA b t (s + 2) = true ↔ s + 3 ≤ j) := by
          intro q0
          unfold fgA at q0 ⊢
          rw [Bool.and_eq_true, decide_eq_true_iff] at q0 ⊢
          have e2 : j = fs (fun j => isF (b j)) t (s + 2) := by rw [ej, ef, fs_y q0.1 q0.2]
          constructor
          · rintro ⟨q1, q2⟩
            rw [e2, fs_y q1 q2]
            exact fs_ge
          · intro q
            have q1 : s + 2 < t := by omega
            refine ⟨q1, ?_⟩
            cases c : isF (b (s + 2))
            · rw [fs_n (P := fun j => isF (b j)) (Or.inr c)] at e2
              omega
            · rfl
        refine ⟨fun c => ?_, fun c => ⟨fun _ => ?_, fun q => absurd rfl q⟩⟩
        · by_cases c4 : fgA b t (s + 1) = true
          · have c5 : fgA b t (s + 2) = false := by
              cases q : fgA b t (s + 2)
              · rfl
              · exact absurd ((h2a c4).1 q) (by omega)
            have ej2 : j = s + 2 := by
              have := h1a.1 c4
              omega
            rw [c4, c5, if_pos rfl, if_pos rfl] at h1
            refine h1 rfl _ (d20_u dτ (by decide) (by decide)) g9 ?_ g12 rfl (fun _ => ?_)
            · show τ 20 0 11 = _
              rw [g11, ej2]
            · show τ 20 0 14 = _
              rw [g14, show j - s = 2 by omega]
              rfl
          · have ej2 : j = s + 1 := by
              have : ¬ s + 2 ≤ j := fun q => c4 (h1a.2 q)
              omega
            have c4 := Bool.eq_false_iff.mpr c4
            rw [c4, if_neg (by decide), if_neg (by decide)] at h1
            refine h1 rfl _ (d20_u dτ (by decide) (by decide)) g9 ?_ g12 rfl (fun _ => ?_)
            · show τ 20 0 11 = _
              rw [g11, ej2]
            · show τ 20 0 14 = _
              rw [g14, show j - s = 1 by omega]
              rfl
        · have c4 : fgA b t (s + 1) = true := h1a.2 (by omega)
          have c5 : fgA b t (s + 2) = true := (h2a c4).2 (by omega)
          rw [c4, c5] at h0
          refine h0 rfl _ (d20_u (d20_u (d20_u dτ (by decide) (by decide)) (by decide) (by decide)) (by decide) (by decide)) rfl ?_
          rfl
      have loop : ∀ d j τ, j + d = t → s ≤ j → (∀ k, s ≤ k → k < j → isF (b k) = true) → fs (fun j => isF (b j)) t s = fs (fun j => isF (b j)) t j → d20 σ τ → τ 20 0 9 = 0 → τ 20 0 11 = nI j → τ 20 0 12 = nI s → τ 20 0 14 = nI (dvl b s (j - s)) → X 140 [some (.inr (.inr (20, 0))), some (.inl (nI (b s)))] [] τ := by
        intro d
        induction d with
        | zero =>
          intro j τ hj sj ha e dτ g9 g11 g12 g14
          have tmτ := d20_tm dτ ht
          have hjt : ¬ j < t := by omega
          refine b_sp140 hX _ ?_
          rw [g11, tm_mb tmτ (by omega), if_neg hjt]
          refine ⟨tm_in tmτ (by omega), fun _ => fin j τ ?_ dτ g9 g11 g12 g14, fun q => absurd (by decide) q⟩
          rw [e, fs_n (Or.inl (by omega))]
        | succ d ih =>
          intro j τ hj sj ha e dτ g9 g11 g12 g14
          have tmτ := d20_tm dτ ht
          have hjt : j < t := by omega
          have bj := (ht.2.2 j hjt).2
          refine b_sp140 hX _ ?_
          rw [g11, g12, g14, tm_mb tmτ (by omega), if_pos hjt, show (nI (b j) < (48 : Int32) ↔ b j < 48) from nI_ltI (b := 48) (by omega) (by decide), show ((57 : Int32) < nI (b j) ↔ 57 < b j) from nI_ltI (a := 57) (by decide) (by omega), pk_sub sj, show ((2 : Int32) ≤ nI (j - s) ↔ 2 ≤ j - s) from nI_leI (a := 2) (by decide) (by omega), show nI j + (1 : Int32) = nI (j + 1) from nI_add j 1]
          have stop : ¬ isF (b j) = true → X 217 [some (.inr (.inr (20, 0))), some (.inl (nI (b s)))] [] τ := fun q => fin j τ (by rw [e, fs_n (Or.inr (by simpa using q))]) dτ g9 g11 g12 g14
          have nf : b j < 48 ∨ 57 < b j → ¬ isF (b j) = true := fun q w => by
            have := isF_b w
            omega
          refine ⟨tm_in tmτ (by omega), fun c => stop (nf (Or.inl c)), fun ca => ⟨fun c => stop (nf (Or.inr c)), fun cb => ?_⟩⟩
          have yes : isF (b j) = true := by
            unfold isF
            rw [Bool.and_eq_true, decide_eq_true_iff, decide_eq_true_iff]
            omega
          have ha' : ∀ k, s ≤ k → k < j + 1 → isF (b k) = true := fun k k1 k2 => by
            by_cases q : k = j
            · rw [q]
              exact yes
            · exact ha k k1 (by omega)
          have e' := e.trans (fs_y (P := fun j => isF (b j)) hjt yes)
          refine ⟨fun c => ih (j + 1) _ (by omega) (by omega) ha' e' (d20_u (d20_u dτ (by decide) (by decide)) (by decide) (by decide)) g9 rfl g12 ?_, fun c => ⟨tm_in tmτ (by omega), ih (j + 1) _ (by omega) (by omega) ha' e' (d20_u (d20_u dτ (by decide) (by decide)) (by decide) (by decide)) g9 rfl g12 ?_⟩⟩
          · show nI (dvl b s (j - s)) = _
            unfold dvl
            rw [if_neg (by omega), if_neg (by omega), if_neg (by omega), if_neg (by omega)]
          · show (10 : Int32) * nI (dvl b s (j - s)) + nI (b j) - (48 : Int32) = nI (dvl b s (j + 1 - s))
            have b48 : 48 ≤ b j := by omega
            have key : 10 * dvl b s (j - s) + b j - 48 = dvl b s (j + 1 - s) := by
              unfold dvl
              rcases (by omega : j = s ∨ j = s + 1) with q | q
              · rw [q, show s - s = 0 by omega, show s + 1 - s = 1 by omega, if_pos rfl, if_neg (by decide), if_pos rfl]
                omega
              · rw [q, show s + 1 - s = 1 by omega, show s + 1 + 1 - s = 2 by omega, if_neg (by decide), if_pos rfl, if_neg (by decide), if_neg (by decide)]
                rw [q] at b48
                omega
            rw [show (10 : Int32) * nI (dvl b s (j - s)) = nI (10 * dvl b s (j - s)) from pk_mul 10 _, nI_add, show nI (10 * dvl b s (j - s) + b j) - (48 : Int32) = nI (10 * dvl b s (j - s) + b j - 48) from pk_sub (b := 48) (by omega), key]
      refine loop (t - s) s _ (by omega) (Nat.le_refl _) (fun k k1 k2 => absurd k2 (by omega)) rfl dd2 h9 rfl rfl ?_
      show (0 : Int32) = nI (dvl b s (s - s))
      rw [show s - s = 0 by omega]
      rfl
    refine ⟨fun c => n126 fun q => (isl.1 q).1 c, fun ca => ⟨fun c => n126 fun q => (isl.1 q).2 c, fun cb => ?_⟩⟩
    have c2 : isL (b s) = true := isl.2 ⟨ca, cb⟩
    have c1 : ¬ b s = 59 := fun q => by
      rw [q] at c2
      exact absurd c2 (by decide)
    rw [if_neg c1, if_pos c2] at h1
    rw [if_neg c1, if_pos c2] at h1
    have h1 := h1 rfl
    have loop : ∀ d j τ, j + d = t → s ≤ j → fs (fun j => isL (b j)) t (s + 1) = fs (fun j => isL (b j)) t j → d20 σ τ → τ 20 0 9 = 0 → τ 20 0 11 = nI j → τ 20 0 12 = nI s → X 84 [some (.inr (.inr (20, 0))), some (.inl (nI (b s)))] [] τ := by
      intro d
      induction d with
      | zero =>
        intro j τ hj sj e dτ g9 g11 g12
        have tmτ := d20_tm dτ ht
        have hjt : ¬ j < t := by omega
        refine b_sp84 hX _ ?_
        rw [g11, tm_mb tmτ (by omega), if_neg hjt]
        refine ⟨tm_in tmτ (by omega), fun _ => h1 _ (d20_u dτ (by decide) (by decide)) g9 ?_ g12 rfl (fun q => absurd q (by decide)), fun q => absurd (by decide) q⟩
        show τ 20 0 11 = _
        rw [g11, e, fs_n (Or.inl (by omega))]
      | succ d ih =>
        intro j τ hj sj e dτ g9 g11 g12
        have tmτ := d20_tm dτ ht
        have hjt : j < t := by omega
        have bj := (ht.2.2 j hjt).2
        refine b_sp84 hX _ ?_
        rw [g11, tm_mb tmτ (by omega), if_pos hjt, show (nI (b j) < (97 : Int32) ↔ b j < 97) from nI_ltI (b := 97) (by omega) (by decide), show ((122 : Int32) < nI (b j) ↔ 122 < b j) from nI_ltI (a := 122) (by decide) (by omega), show nI j + (1 : Int32) = nI (j + 1) from nI_add j 1]
        have stop : b j < 97 ∨ 122 < b j → K none (am_u τ 20 0 13 (1 : Int32)) := fun q => by
          have nl : isL (b j) = false := by
            cases w : isL (b j)
            · rfl
            · unfold isL at w
              rw [Bool.and_eq_true, decide_eq_true_iff, decide_eq_true_iff] at w
              omega
          refine h1 _ (d20_u dτ (by decide) (by decide)) g9 ?_ g12 rfl (fun q => absurd q (by decide))
          show τ 20 0 11 = _
          rw [g11, e, fs_n (P := fun j => isL (b j)) (Or.inr nl)]
        refine ⟨tm_in tmτ (by omega), fun c => stop (Or.inl c), fun ca => ⟨fun c => stop (Or.inr c), fun cb => ?_⟩⟩
        have yes : isL (b j) = true := by
          unfold isL
          rw [Bool.and_eq_true, decide_eq_true_iff, decide_eq_true_iff]
          omega
        exact ih (j + 1) _ (by omega) (by omega) (e.trans (fs_y (P := fun j => isL (b j)) hjt yes)) (d20_u dτ (by decide) (by decide)) g9 rfl g12
    refine loop (t - s) s _ (by omega) (Nat.le_refl _) (fs_y (P := fun j => isL (b j)) hst c2).symm dd2 h9 rfl rfl
  have loop : ∀ d j, j + d = t → tkS b t i = fs (fun j => decide (b j = 32)) t j → X 8 [some (.inr (.inr (20, 0))), none] [] (am_u σ 20 0 11 (nI j)) := by
    intro d
    induction d with
    | zero =>
      intro j hj e
      rw [fs_n (Or.inl (by omega))] at e
      rw [e] at main
      refine b_sp8 hX ?_
      rw [show am_u σ 20 0 11 (nI j) 20 0 11 = nI j from rfl, tm_mb (σ := am_u σ 20 0 11 (nI j)) (b := b) (t := t) ht (by omega), if_neg (by omega)]
      exact ⟨tm_in (σ := am_u σ 20 0 11 (nI j)) (b := b) (t := t) ht (by omega), fun q => absurd q (by decide), fun _ => main⟩
    | succ d ih =>
      intro j hj e
      have hjt : j < t := by omega
      have bj := (ht.2.2 j hjt).2
      refine b_sp8 hX ?_
      rw [show am_u σ 20 0 11 (nI j) 20 0 11 = nI j from rfl, tm_mb (σ := am_u σ 20 0 11 (nI j)) (b := b) (t := t) ht (by omega), if_pos hjt, show (nI (b j) = (32 : Int32) ↔ b j = 32) from nI_eq (b := 32) (by omega) (by decide), am_uu, show nI j + (1 : Int32) = nI (j + 1) from nI_add j 1]
      refine ⟨tm_in (σ := am_u σ 20 0 11 (nI j)) (b := b) (t := t) ht (by omega), fun g => ih (j + 1) (by omega) (by rw [e]; exact fs_y hjt (decide_eq_true g)), fun g => ?_⟩
      rw [fs_n (Or.inr (decide_eq_false g))] at e
      rw [e] at main
      exact main
  have eσ : σ = am_u σ 20 0 11 (nI i) := by
    funext k' i' j'
    unfold am_u
    by_cases c : k' = 20
    · by_cases d : j' = 11
      · by_cases e : i' = 0
        · simp [c, d, e, hi]
        · simp [c, d, e]
      · simp [d]
    · simp [c]
  rw [eσ]
  exact loop (t - i) i (by omega) rfl
