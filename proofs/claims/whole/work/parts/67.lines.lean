/-! the text: lines, to the class -/
set_option maxRecDepth 100000 in
set_option maxHeartbeats 400000 in
theorem b_tn0 {K : Option am_V → am_M → Prop} {X : Nat → am_L → List am_V → am_M → Prop} (hX : am_cl eX1_takeNumber lX1_takeNumber (some .boolean) K X) {σ : am_M} (x y : Int32) (h : sX1_takeToken [.inr (.inr (6, 0))] σ (fun vv tt => X 4 [some (.inr (.inr (6, 0))), some (.inl x), some (.inl y)] (vv.toList ++ []) tt)) : X 0 [some (.inr (.inr (6, 0))), some (.inl x), some (.inl y)] [] σ := am_run_ok emX1_takeNumber hX [4] 400 (show 1 ≤ 1 ∧ 0 ≤ 8 ∧ True ∧ sX1_takeToken [.inr (.inr (6, 0))] σ (fun vv tt => X 4 [some (.inr (.inr (6, 0))), some (.inl x), some (.inl y)] (vv.toList ++ []) tt) from ⟨am_le rfl, am_le rfl, trivial, h⟩)
set_option maxRecDepth 100000 in
set_option maxHeartbeats 400000 in
theorem b_tn4 {K : Option am_V → am_M → Prop} {X : Nat → am_L → List am_V → am_M → Prop} (hX : am_cl eX1_takeNumber lX1_takeNumber (some .boolean) K X) {σ : am_M} (x y v : Int32) (h : ((v = (0 : Int32)) → K (some (.inl (0 : Int32))) σ) ∧ (¬ (v = (0 : Int32)) → (((σ 6 0 5) = (2 : Int32)) → sX1_number [.inr (.inr (6, 0))] σ (fun vv tt => X 31 [some (.inr (.inr (6, 0))), some (.inl x), some (.inl y)] (vv.toList ++ []) tt)) ∧ (¬ ((σ 6 0 5) = (2 : Int32)) → K (some (.inl (0 : Int32))) (am_u (am_u σ 6 0 3 (2 : Int32)) 6 0 4 (σ 6 0 6))))) : X 4 [some (.inr (.inr (6, 0))), some (.inl x), some (.inl y)] [.inl v] σ := am_run_ok emX1_takeNumber hX [31] 400 (show ((v = (0 : Int32)) → (narrow .boolean (.int (0 : Int32)) = .int (0 : Int32)) ∧ (K (some (.inl (0 : Int32))) σ)) ∧ (¬ (v = (0 : Int32)) → (((σ 6 0 5) = (2 : Int32)) → 1 ≤ 1 ∧ 0 ≤ 8 ∧ True ∧ sX1_number [.inr (.inr (6, 0))] σ (fun vv tt => X 31 [some (.inr (.inr (6, 0))), some (.inl x), some (.inl y)] (vv.toList ++ []) tt)) ∧ (¬ ((σ 6 0 5) = (2 : Int32)) → 3 ≤ 3 ∧ 0 ≤ 8 ∧ True ∧ sX1_fail [.inr (.inr (6, 0)), .inl (2 : Int32), .inl (σ 6 0 6)] σ (fun vv tt => am_run eX1_takeNumber lX1_takeNumber (some .boolean) K X [31] 390 26 [some (.inr (.inr (6, 0))), some (.inl x), some (.inl y)] (vv.toList ++ []) tt))) from ⟨fun q0 => ⟨rfl, (h.1 q0)⟩, fun q0 => ⟨fun q1 => ⟨am_le rfl, am_le rfl, trivial, ((h.2 q0).1 q1)⟩, fun q1 => ⟨am_le rfl, am_le rfl, trivial, tX1_fail ((show (narrow .boolean (.int (0 : Int32)) = .int (0 : Int32)) ∧ (K (some (.inl (0 : Int32))) (am_u (am_u σ 6 0 3 (2 : Int32)) 6 0 4 (σ 6 0 6))) from ⟨rfl, ((h.2 q0).2 q1)⟩))⟩⟩⟩)
set_option maxRecDepth 100000 in
set_option maxHeartbeats 400000 in
theorem b_tn31 {K : Option am_V → am_M → Prop} {X : Nat → am_L → List am_V → am_M → Prop} (hX : am_cl eX1_takeNumber lX1_takeNumber (some .boolean) K X) {σ : am_M} (x y v : Int32) (h : ((v < x) → K (some (.inl (0 : Int32))) (am_u (am_u σ 6 0 3 (3 : Int32)) 6 0 4 (σ 6 0 6))) ∧ (¬ (v < x) → ((y < v) → K (some (.inl (0 : Int32))) (am_u (am_u σ 6 0 3 (3 : Int32)) 6 0 4 (σ 6 0 6))) ∧ (¬ (y < v) → K (some (.inl (1 : Int32))) σ))) : X 31 [some (.inr (.inr (6, 0))), some (.inl x), some (.inl y)] [.inl v] σ := am_run_ok emX1_takeNumber hX [] 400 (show 3 ≤ 3 ∧ 0 ≤ 8 ∧ sX6_isWithin [.inl v, .inl x, .inl y] σ (fun vv tt => am_run eX1_takeNumber lX1_takeNumber (some .boolean) K X [] 397 36 [some (.inr (.inr (6, 0))), some (.inl x), some (.inl y)] (vv.toList ++ []) tt) from ⟨am_le rfl, am_le rfl, tX6_isWithin (⟨fun q0 => (show (((0 : Int32) = (0 : Int32)) → 3 ≤ 3 ∧ 0 ≤ 8 ∧ True ∧ sX1_fail [.inr (.inr (6, 0)), .inl (3 : Int32), .inl (σ 6 0 6)] σ (fun vv tt => am_run eX1_takeNumber lX1_takeNumber (some .boolean) K X [] 391 48 [some (.inr (.inr (6, 0))), some (.inl x), some (.inl y)] (vv.toList ++ []) tt)) ∧ (¬ ((0 : Int32) = (0 : Int32)) → _) from ⟨fun _ => ⟨am_le rfl, am_le rfl, trivial, tX1_fail ((show (((0 : Int32) = (0 : Int32)) → (narrow .boolean (.int (0 : Int32)) = .int (0 : Int32)) ∧ (K (some (.inl (0 : Int32))) (am_u (am_u σ 6 0 3 (3 : Int32)) 6 0 4 (σ 6 0 6)))) ∧ (¬ ((0 : Int32) = (0 : Int32)) → _) from ⟨fun _ => ⟨rfl, (h.1 q0)⟩, fun q => absurd (by decide) q⟩))⟩, fun q => absurd (by decide) q⟩), fun q0 => ⟨fun q1 => (show (((0 : Int32) = (0 : Int32)) → 3 ≤ 3 ∧ 0 ≤ 8 ∧ True ∧ sX1_fail [.inr (.inr (6, 0)), .inl (3 : Int32), .inl (σ 6 0 6)] σ (fun vv tt => am_run eX1_takeNumber lX1_takeNumber (some .boolean) K X [] 391 48 [some (.inr (.inr (6, 0))), some (.inl x), some (.inl y)] (vv.toList ++ []) tt)) ∧ (¬ ((0 : Int32) = (0 : Int32)) → _) from ⟨fun _ => ⟨am_le rfl, am_le rfl, trivial, tX1_fail ((show (((0 : Int32) = (0 : Int32)) → (narrow .boolean (.int (0 : Int32)) = .int (0 : Int32)) ∧ (K (some (.inl (0 : Int32))) (am_u (am_u σ 6 0 3 (3 : Int32)) 6 0 4 (σ 6 0 6)))) ∧ (¬ ((0 : Int32) = (0 : Int32)) → _) from ⟨fun _ => ⟨rfl, ((h.2 q0).1 q1)⟩, fun q => absurd (by decide) q⟩))⟩, fun q => absurd (by decide) q⟩), fun q1 => (show (((1 : Int32) = (0 : Int32)) → _) ∧ (¬ ((1 : Int32) = (0 : Int32)) → (narrow .boolean (.int (1 : Int32)) = .int (1 : Int32)) ∧ (K (some (.inl (1 : Int32))) σ)) from ⟨fun q => absurd q (by decide), fun _ => ⟨rfl, ((h.2 q0).2 q1)⟩⟩)⟩⟩)⟩)
set_option maxRecDepth 100000 in
set_option maxHeartbeats 400000 in
theorem b_tsp0 {K : Option am_V → am_M → Prop} {X : Nat → am_L → List am_V → am_M → Prop} (hX : am_cl eX1_takeStop lX1_takeStop (some .boolean) K X) {σ : am_M}  (h : sX1_takeToken [.inr (.inr (6, 0))] σ (fun vv tt => X 4 [some (.inr (.inr (6, 0)))] (vv.toList ++ []) tt)) : X 0 [some (.inr (.inr (6, 0)))] [] σ := am_run_ok emX1_takeStop hX [4] 400 (show 1 ≤ 1 ∧ 0 ≤ 8 ∧ True ∧ sX1_takeToken [.inr (.inr (6, 0))] σ (fun vv tt => X 4 [some (.inr (.inr (6, 0)))] (vv.toList ++ []) tt) from ⟨am_le rfl, am_le rfl, trivial, h⟩)
set_option maxRecDepth 100000 in
set_option maxHeartbeats 400000 in
theorem b_tsp4 {K : Option am_V → am_M → Prop} {X : Nat → am_L → List am_V → am_M → Prop} (hX : am_cl eX1_takeStop lX1_takeStop (some .boolean) K X) {σ : am_M} (v : Int32) (h : ((v = (0 : Int32)) → K (some (.inl (0 : Int32))) σ) ∧ (¬ (v = (0 : Int32)) → (((σ 6 0 5) = (3 : Int32)) → K (some (.inl (1 : Int32))) σ) ∧ (¬ ((σ 6 0 5) = (3 : Int32)) → K (some (.inl (0 : Int32))) (am_u (am_u σ 6 0 3 (2 : Int32)) 6 0 4 (σ 6 0 6))))) : X 4 [some (.inr (.inr (6, 0)))] [.inl v] σ := am_run_ok emX1_takeStop hX [] 400 (show ((v = (0 : Int32)) → (narrow .boolean (.int (0 : Int32)) = .int (0 : Int32)) ∧ (K (some (.inl (0 : Int32))) σ)) ∧ (¬ (v = (0 : Int32)) → (((σ 6 0 5) = (3 : Int32)) → (narrow .boolean (.int (1 : Int32)) = .int (1 : Int32)) ∧ (K (some (.inl (1 : Int32))) σ)) ∧ (¬ ((σ 6 0 5) = (3 : Int32)) → 3 ≤ 3 ∧ 0 ≤ 8 ∧ True ∧ sX1_fail [.inr (.inr (6, 0)), .inl (2 : Int32), .inl (σ 6 0 6)] σ (fun vv tt => am_run eX1_takeStop lX1_takeStop (some .boolean) K X [] 390 26 [some (.inr (.inr (6, 0)))] (vv.toList ++ []) tt))) from ⟨fun q0 => ⟨rfl, (h.1 q0)⟩, fun q0 => ⟨fun q1 => ⟨rfl, ((h.2 q0).1 q1)⟩, fun q1 => ⟨am_le rfl, am_le rfl, trivial, tX1_fail ((show (((0 : Int32) = (0 : Int32)) → (narrow .boolean (.int (0 : Int32)) = .int (0 : Int32)) ∧ (K (some (.inl (0 : Int32))) (am_u (am_u σ 6 0 3 (2 : Int32)) 6 0 4 (σ 6 0 6)))) ∧ (¬ ((0 : Int32) = (0 : Int32)) → _) from ⟨fun _ => ⟨rfl, ((h.2 q0).2 q1)⟩, fun q => absurd (by decide) q⟩))⟩⟩⟩)
set_option maxRecDepth 100000 in
set_option maxHeartbeats 400000 in
theorem b_ta0 {K : Option am_V → am_M → Prop} {X : Nat → am_L → List am_V → am_M → Prop} (hX : am_cl eX1_takeSeats lX1_takeSeats (some .boolean) K X) {σ : am_M}  (h : (((σ 6 0 9) = (0 : Int32)) → sX1_takeNumber [.inr (.inr (6, 0)), .inl (2 : Int32), .inl (5 : Int32)] (am_u σ 6 0 9 (1 : Int32)) (fun vv tt => X 28 [some (.inr (.inr (6, 0)))] (vv.toList ++ []) tt)) ∧ (¬ ((σ 6 0 9) = (0 : Int32)) → K (some (.inl (0 : Int32))) (am_u (am_u σ 6 0 3 (4 : Int32)) 6 0 4 (σ 6 0 6)))) : X 0 [some (.inr (.inr (6, 0)))] [] σ := am_run_ok emX1_takeSeats hX [28] 400 (show (((σ 6 0 9) = (0 : Int32)) → (((1 : Int32) = 0 ∨ (1 : Int32) = 1)) ∧ (3 ≤ 3 ∧ 0 ≤ 8 ∧ True ∧ sX1_takeNumber [.inr (.inr (6, 0)), .inl (2 : Int32), .inl (5 : Int32)] (am_u σ 6 0 9 (1 : Int32)) (fun vv tt => X 28 [some (.inr (.inr (6, 0)))] (vv.toList ++ []) tt))) ∧ (¬ ((σ 6 0 9) = (0 : Int32)) → 3 ≤ 3 ∧ 0 ≤ 8 ∧ True ∧ sX1_fail [.inr (.inr (6, 0)), .inl (4 : Int32), .inl (σ 6 0 6)] σ (fun vv tt => am_run eX1_takeSeats lX1_takeSeats (some .boolean) K X [28] 392 16 [some (.inr (.inr (6, 0)))] (vv.toList ++ []) tt)) from ⟨fun q0 => ⟨(by decide), ⟨am_le rfl, am_le rfl, trivial, (h.1 q0)⟩⟩, fun q0 => ⟨am_le rfl, am_le rfl, trivial, tX1_fail ((show (narrow .boolean (.int (0 : Int32)) = .int (0 : Int32)) ∧ (K (some (.inl (0 : Int32))) (am_u (am_u σ 6 0 3 (4 : Int32)) 6 0 4 (σ 6 0 6))) from ⟨rfl, (h.2 q0)⟩))⟩⟩)
set_option maxRecDepth 100000 in
set_option maxHeartbeats 400000 in
theorem b_ta28 {K : Option am_V → am_M → Prop} {X : Nat → am_L → List am_V → am_M → Prop} (hX : am_cl eX1_takeSeats lX1_takeSeats (some .boolean) K X) {σ : am_M} (v : Int32) (h : ((v = (0 : Int32)) → K (some (.inl (0 : Int32))) σ) ∧ (¬ (v = (0 : Int32)) → sX1_number [.inr (.inr (6, 0))] σ (fun vv tt => X 41 [some (.inr (.inr (6, 0)))] (vv.toList ++ [.inr (.inr (3, 4))]) tt))) : X 28 [some (.inr (.inr (6, 0)))] [.inl v] σ := am_run_ok emX1_takeSeats hX [41] 400 (show ((v = (0 : Int32)) → (narrow .boolean (.int (0 : Int32)) = .int (0 : Int32)) ∧ (K (some (.inl (0 : Int32))) σ)) ∧ (¬ (v = (0 : Int32)) → 1 ≤ 2 ∧ 1 ≤ 8 ∧ True ∧ sX1_number [.inr (.inr (6, 0))] σ (fun vv tt => X 41 [some (.inr (.inr (6, 0)))] (vv.toList ++ [.inr (.inr (3, 4))]) tt)) from ⟨fun q0 => ⟨rfl, (h.1 q0)⟩, fun q0 => ⟨am_le rfl, am_le rfl, trivial, (h.2 q0)⟩⟩)
set_option maxRecDepth 100000 in
set_option maxHeartbeats 400000 in
theorem b_ta41 {K : Option am_V → am_M → Prop} {X : Nat → am_L → List am_V → am_M → Prop} (hX : am_cl eX1_takeSeats lX1_takeSeats (some .boolean) K X) {σ : am_M} (v : Int32) (h : sX1_takeStop [.inr (.inr (6, 0))] (am_u σ 3 4 2 v) (fun vv tt => X 48 [some (.inr (.inr (6, 0)))] (vv.toList ++ []) tt)) : X 41 [some (.inr (.inr (6, 0)))] [.inl v, .inr (.inr (3, 4))] σ := am_run_ok emX1_takeSeats hX [48] 400 (show 1 ≤ 1 ∧ 0 ≤ 8 ∧ True ∧ sX1_takeStop [.inr (.inr (6, 0))] (am_u σ 3 4 2 v) (fun vv tt => X 48 [some (.inr (.inr (6, 0)))] (vv.toList ++ []) tt) from ⟨am_le rfl, am_le rfl, trivial, h⟩)
set_option maxRecDepth 100000 in
set_option maxHeartbeats 400000 in
theorem b_ta48 {K : Option am_V → am_M → Prop} {X : Nat → am_L → List am_V → am_M → Prop} (hX : am_cl eX1_takeSeats lX1_takeSeats (some .boolean) K X) {σ : am_M} (v : Int32) (h : (narrow .boolean (.int v) = .int v) ∧ (K (some (.inl v)) σ)) : X 48 [some (.inr (.inr (6, 0)))] [.inl v] σ := am_run_ok emX1_takeSeats hX [] 400 (show (narrow .boolean (.int v) = .int v) ∧ (K (some (.inl v)) σ) from ⟨h.1, h.2⟩)
set_option maxRecDepth 100000 in
set_option maxHeartbeats 400000 in
theorem b_tc0 {K : Option am_V → am_M → Prop} {X : Nat → am_L → List am_V → am_M → Prop} (hX : am_cl eX1_takeCosts lX1_takeCosts (some .boolean) K X) {σ : am_M}  (h : (((σ 6 0 10) = (0 : Int32)) → sX1_takeNumber [.inr (.inr (6, 0)), .inl (0 : Int32), .inl (9 : Int32)] (am_u σ 6 0 10 (1 : Int32)) (fun vv tt => X 29 [some (.inr (.inr (6, 0)))] (vv.toList ++ []) tt)) ∧ (¬ ((σ 6 0 10) = (0 : Int32)) → K (some (.inl (0 : Int32))) (am_u (am_u σ 6 0 3 (4 : Int32)) 6 0 4 (σ 6 0 6)))) : X 0 [some (.inr (.inr (6, 0)))] [] σ := am_run_ok emX1_takeCosts hX [29] 400 (show (((σ 6 0 10) = (0 : Int32)) → (((1 : Int32) = 0 ∨ (1 : Int32) = 1)) ∧ (3 ≤ 3 ∧ 0 ≤ 8 ∧ True ∧ sX1_takeNumber [.inr (.inr (6, 0)), .inl (0 : Int32), .inl (9 : Int32)] (am_u σ 6 0 10 (1 : Int32)) (fun vv tt => X 29 [some (.inr (.inr (6, 0)))] (vv.toList ++ []) tt))) ∧ (¬ ((σ 6 0 10) = (0 : Int32)) → 3 ≤ 3 ∧ 0 ≤ 8 ∧ True ∧ sX1_fail [.inr (.inr (6, 0)), .inl (4 : Int32), .inl (σ 6 0 6)] σ (fun vv tt => am_run eX1_takeCosts lX1_takeCosts (some .boolean) K X [29] 392 16 [some (.inr (.inr (6, 0)))] (vv.toList ++ []) tt)) from ⟨fun q0 => ⟨(by decide), ⟨am_le rfl, am_le rfl, trivial, (h.1 q0)⟩⟩, fun q0 => ⟨am_le rfl, am_le rfl, trivial, tX1_fail ((show (narrow .boolean (.int (0 : Int32)) = .int (0 : Int32)) ∧ (K (some (.inl (0 : Int32))) (am_u (am_u σ 6 0 3 (4 : Int32)) 6 0 4 (σ 6 0 6))) from ⟨rfl, (h.2 q0)⟩))⟩⟩)
set_option maxRecDepth 100000 in
set_option maxHeartbeats 400000 in
theorem b_tc29 {K : Option am_V → am_M → Prop} {X : Nat → am_L → List am_V → am_M → Prop} (hX : am_cl eX1_takeCosts lX1_takeCosts (some .boolean) K X) {σ : am_M} (v : Int32) (h : ((v = (0 : Int32)) → K (some (.inl (0 : Int32))) σ) ∧ (¬ (v = (0 : Int32)) → sX1_number [.inr (.inr (6, 0))] σ (fun vv tt => X 42 [some (.inr (.inr (6, 0)))] (vv.toList ++ [.inr (.inr (3, 4))]) tt))) : X 29 [some (.inr (.inr (6, 0)))] [.inl v] σ := am_run_ok emX1_takeCosts hX [42] 400 (show ((v = (0 : Int32)) → (narrow .boolean (.int (0 : Int32)) = .int (0 : Int32)) ∧ (K (some (.inl (0 : Int32))) σ)) ∧ (¬ (v = (0 : Int32)) → 1 ≤ 2 ∧ 1 ≤ 8 ∧ True ∧ sX1_number [.inr (.inr (6, 0))] σ (fun vv tt => X 42 [some (.inr (.inr (6, 0)))] (vv.toList ++ [.inr (.inr (3, 4))]) tt)) from ⟨fun q0 => ⟨rfl, (h.1 q0)⟩, fun q0 => ⟨am_le rfl, am_le rfl, trivial, (h.2 q0)⟩⟩)
set_option maxRecDepth 100000 in
set_option maxHeartbeats 400000 in
theorem b_tc42 {K : Option am_V → am_M → Prop} {X : Nat → am_L → List am_V → am_M → Prop} (hX : am_cl eX1_takeCosts lX1_takeCosts (some .boolean) K X) {σ : am_M} (v : Int32) (h : sX1_takeNumber [.inr (.inr (6, 0)), .inl (0 : Int32), .inl (9 : Int32)] (am_u σ 3 4 3 v) (fun vv tt => X 52 [some (.inr (.inr (6, 0)))] (vv.toList ++ []) tt)) : X 42 [some (.inr (.inr (6, 0)))] [.inl v, .inr (.inr (3, 4))] σ := am_run_ok emX1_takeCosts hX [52] 400 (show 3 ≤ 3 ∧ 0 ≤ 8 ∧ True ∧ sX1_takeNumber [.inr (.inr (6, 0)), .inl (0 : Int32), .inl (9 : Int32)] (am_u σ 3 4 3 v) (fun vv tt => X 52 [some (.inr (.inr (6, 0)))] (vv.toList ++ []) tt) from ⟨am_le rfl, am_le rfl, trivial, h⟩)
set_option maxRecDepth 100000 in
set_option maxHeartbeats 400000 in
theorem b_tc52 {K : Option am_V → am_M → Prop} {X : Nat → am_L → List am_V → am_M → Prop} (hX : am_cl eX1_takeCosts lX1_takeCosts (some .boolean) K X) {σ : am_M} (v : Int32) (h : ((v = (0 : Int32)) → K (some (.inl (0 : Int32))) σ) ∧ (¬ (v = (0 : Int32)) → sX1_number [.inr (.inr (6, 0))] σ (fun vv tt => X 65 [some (.inr (.inr (6, 0)))] (vv.toList ++ [.inr (.inr (3, 4))]) tt))) : X 52 [some (.inr (.inr (6, 0)))] [.inl v] σ := am_run_ok emX1_takeCosts hX [65] 400 (show ((v = (0 : Int32)) → (narrow .boolean (.int (0 : Int32)) = .int (0 : Int32)) ∧ (K (some (.inl (0 : Int32))) σ)) ∧ (¬ (v = (0 : Int32)) → 1 ≤ 2 ∧ 1 ≤ 8 ∧ True ∧ sX1_number [.inr (.inr (6, 0))] σ (fun vv tt => X 65 [some (.inr (.inr (6, 0)))] (vv.toList ++ [.inr (.inr (3, 4))]) tt)) from ⟨fun q0 => ⟨rfl, (h.1 q0)⟩, fun q0 => ⟨am_le rfl, am_le rfl, trivial, (h.2 q0)⟩⟩)
set_option maxRecDepth 100000 in
set_option maxHeartbeats 400000 in
theorem b_tc65 {K : Option am_V → am_M → Prop} {X : Nat → am_L → List am_V → am_M → Prop} (hX : am_cl eX1_takeCosts lX1_takeCosts (some .boolean) K X) {σ : am_M} (v : Int32) (h : sX1_takeStop [.inr (.inr (6, 0))] (am_u σ 3 4 4 v) (fun vv tt => X 72 [some (.inr (.inr (6, 0)))] (vv.toList ++ []) tt)) : X 65 [some (.inr (.inr (6, 0)))] [.inl v, .inr (.inr (3, 4))] σ := am_run_ok emX1_takeCosts hX [72] 400 (show 1 ≤ 1 ∧ 0 ≤ 8 ∧ True ∧ sX1_takeStop [.inr (.inr (6, 0))] (am_u σ 3 4 4 v) (fun vv tt => X 72 [some (.inr (.inr (6, 0)))] (vv.toList ++ []) tt) from ⟨am_le rfl, am_le rfl, trivial, h⟩)
set_option maxRecDepth 100000 in
set_option maxHeartbeats 400000 in
theorem b_tc72 {K : Option am_V → am_M → Prop} {X : Nat → am_L → List am_V → am_M → Prop} (hX : am_cl eX1_takeCosts lX1_takeCosts (some .boolean) K X) {σ : am_M} (v : Int32) (h : (narrow .boolean (.int v) = .int v) ∧ (K (some (.inl v)) σ)) : X 72 [some (.inr (.inr (6, 0)))] [.inl v] σ := am_run_ok emX1_takeCosts hX [] 400 (show (narrow .boolean (.int v) = .int v) ∧ (K (some (.inl v)) σ) from ⟨h.1, h.2⟩)
set_option maxRecDepth 100000 in
set_option maxHeartbeats 400000 in
theorem b_th0 {K : Option am_V → am_M → Prop} {X : Nat → am_L → List am_V → am_M → Prop} (hX : am_cl eX1_takeHere lX1_takeHere (some .boolean) K X) {σ : am_M}  (h : sX1_takeNumber [.inr (.inr (6, 0)), .inl (0 : Int32), .inl (8 : Int32)] σ (fun vv tt => X 7 [some (.inr (.inr (6, 0))), none] (vv.toList ++ []) tt)) : X 0 [some (.inr (.inr (6, 0))), none] [] σ := am_run_ok emX1_takeHere hX [7] 400 (show 3 ≤ 3 ∧ 0 ≤ 8 ∧ True ∧ sX1_takeNumber [.inr (.inr (6, 0)), .inl (0 : Int32), .inl (8 : Int32)] σ (fun vv tt => X 7 [some (.inr (.inr (6, 0))), none] (vv.toList ++ []) tt) from ⟨am_le rfl, am_le rfl, trivial, h⟩)
set_option maxRecDepth 100000 in
set_option maxHeartbeats 400000 in
theorem b_th7 {K : Option am_V → am_M → Prop} {X : Nat → am_L → List am_V → am_M → Prop} (hX : am_cl eX1_takeHere lX1_takeHere (some .boolean) K X) {σ : am_M} (v : Int32) (h : ((v = (0 : Int32)) → K (some (.inl (0 : Int32))) σ) ∧ (¬ (v = (0 : Int32)) → sX1_number [.inr (.inr (6, 0))] σ (fun vv tt => X 16 [some (.inr (.inr (6, 0))), none] (vv.toList ++ []) tt))) : X 7 [some (.inr (.inr (6, 0))), none] [.inl v] σ := am_run_ok emX1_takeHere hX [16] 400 (show ((v = (0 : Int32)) → (narrow .boolean (.int (0 : Int32)) = .int (0 : Int32)) ∧ (K (some (.inl (0 : Int32))) σ)) ∧ (¬ (v = (0 : Int32)) → 1 ≤ 1 ∧ 0 ≤ 8 ∧ True ∧ sX1_number [.inr (.inr (6, 0))] σ (fun vv tt => X 16 [some (.inr (.inr (6, 0))), none] (vv.toList ++ []) tt)) from ⟨fun q0 => ⟨rfl, (h.1 q0)⟩, fun q0 => ⟨am_le rfl, am_le rfl, trivial, (h.2 q0)⟩⟩)
set_option maxRecDepth 100000 in
set_option maxHeartbeats 400000 in
theorem b_th16 {K : Option am_V → am_M → Prop} {X : Nat → am_L → List am_V → am_M → Prop} (hX : am_cl eX1_takeHere lX1_takeHere (some .boolean) K X) {σ : am_M} (v : Int32) (h : ((((((σ 6 0 8)).toUInt32 >>> ((v).toUInt32 &&& Int32.toUInt32 31)).toInt32 &&& (1 : Int32)) = (0 : Int32)) → sX1_takeStop [.inr (.inr (6, 0))] (am_u σ 6 0 8 ((σ 6 0 8) ||| ((1 : Int32) <<< (v &&& 31)))) (fun vv tt => X 54 [some (.inr (.inr (6, 0))), some (.inl v)] (vv.toList ++ []) tt)) ∧ (¬ (((((σ 6 0 8)).toUInt32 >>> ((v).toUInt32 &&& Int32.toUInt32 31)).toInt32 &&& (1 : Int32)) = (0 : Int32)) → K (some (.inl (0 : Int32))) (am_u (am_u σ 6 0 3 (4 : Int32)) 6 0 4 (σ 6 0 6)))) : X 16 [some (.inr (.inr (6, 0))), none] [.inl v] σ := am_run_ok emX1_takeHere hX [54] 400 (show 2 ≤ 2 ∧ 0 ≤ 8 ∧ sX6_isIn [.inl v, .inl (σ 6 0 8)] σ (fun vv tt => am_run eX1_takeHere lX1_takeHere (some .boolean) K X [54] 395 25 [some (.inr (.inr (6, 0))), some (.inl v)] (vv.toList ++ []) tt) from ⟨am_le rfl, am_le rfl, tX6_isIn (⟨fun q0 => (show (((0 : Int32) = (0 : Int32)) → 1 ≤ 1 ∧ 0 ≤ 8 ∧ True ∧ sX1_takeStop [.inr (.inr (6, 0))] (am_u σ 6 0 8 ((σ 6 0 8) ||| ((1 : Int32) <<< (v &&& 31)))) (fun vv tt => X 54 [some (.inr (.inr (6, 0))), some (.inl v)] (vv.toList ++ []) tt)) ∧ (¬ ((0 : Int32) = (0 : Int32)) → _) from ⟨fun _ => ⟨am_le rfl, am_le rfl, trivial, (h.1 q0)⟩, fun q => absurd (by decide) q⟩), fun q0 => (show (((1 : Int32) = (0 : Int32)) → _) ∧ (¬ ((1 : Int32) = (0 : Int32)) → 3 ≤ 3 ∧ 0 ≤ 8 ∧ True ∧ sX1_fail [.inr (.inr (6, 0)), .inl (4 : Int32), .inl (σ 6 0 6)] σ (fun vv tt => am_run eX1_takeHere lX1_takeHere (some .boolean) K X [54] 389 37 [some (.inr (.inr (6, 0))), some (.inl v)] (vv.toList ++ []) tt)) from ⟨fun q => absurd q (by decide), fun _ => ⟨am_le rfl, am_le rfl, trivial, tX1_fail ((show (narrow .boolean (.int (0 : Int32)) = .int (0 : Int32)) ∧ (K (some (.inl (0 : Int32))) (am_u (am_u σ 6 0 3 (4 : Int32)) 6 0 4 (σ 6 0 6))) from ⟨rfl, (h.2 q0)⟩))⟩⟩)⟩)⟩)
set_option maxRecDepth 100000 in
set_option maxHeartbeats 400000 in
theorem b_th54 {K : Option am_V → am_M → Prop} {X : Nat → am_L → List am_V → am_M → Prop} (hX : am_cl eX1_takeHere lX1_takeHere (some .boolean) K X) {σ : am_M} (v w : Int32) (h : (narrow .boolean (.int v) = .int v) ∧ (K (some (.inl v)) σ)) : X 54 [some (.inr (.inr (6, 0))), some (.inl w)] [.inl v] σ := am_run_ok emX1_takeHere hX [] 400 (show (narrow .boolean (.int v) = .int v) ∧ (K (some (.inl v)) σ) from ⟨h.1, h.2⟩)
set_option maxRecDepth 100000 in
set_option maxHeartbeats 400000 in
theorem b_to0 {K : Option am_V → am_M → Prop} {X : Nat → am_L → List am_V → am_M → Prop} (hX : am_cl eX1_takeOne lX1_takeOne (some .boolean) K X) {σ : am_M} (k : Int32) (h : ((k = (-4 : Int32)) → K (some (.inl (0 : Int32))) (am_u (am_u σ 6 0 3 (2 : Int32)) 6 0 4 (σ 6 0 6))) ∧ (¬ (k = (-4 : Int32)) → (((σ 3 4 1) < (9 : Int32)) → (vp_in (σ 3 4 1) 9) ∧ (X 73 [some (.inr (.inr (6, 0))), some (.inl k), some (.inr (.inr (5, (9 * 4 + (σ 3 4 1).toNatClampNeg)))), some (.inl (1 : Int32))] [] (am_u (am_u σ 3 4 1 ((σ 3 4 1) + (1 : Int32))) 5 (9 * 4 + (σ 3 4 1).toNatClampNeg) 0 k))) ∧ (¬ ((σ 3 4 1) < (9 : Int32)) → K (some (.inl (0 : Int32))) (am_u (am_u σ 6 0 3 (5 : Int32)) 6 0 4 (σ 6 0 6))))) : X 0 [some (.inr (.inr (6, 0))), some (.inl k), none, none] [] σ := am_run_ok emX1_takeOne hX [73] 400 (show ((k = (-4 : Int32)) → 3 ≤ 3 ∧ 0 ≤ 8 ∧ True ∧ sX1_fail [.inr (.inr (6, 0)), .inl (2 : Int32), .inl (σ 6 0 6)] σ (fun vv tt => am_run eX1_takeOne lX1_takeOne (some .boolean) K X [73] 392 15 [some (.inr (.inr (6, 0))), some (.inl k), none, none] (vv.toList ++ []) tt)) ∧ (¬ (k = (-4 : Int32)) → (((σ 3 4 1) < (9 : Int32)) → (vp_in (σ 3 4 1) 9) ∧ ((vp_in (0 : Int32) 7) ∧ (X 73 [some (.inr (.inr (6, 0))), some (.inl k), some (.inr (.inr (5, (9 * 4 + (σ 3 4 1).toNatClampNeg)))), some (.inl (1 : Int32))] [] (am_u (am_u σ 3 4 1 ((σ 3 4 1) + (1 : Int32))) 5 (9 * 4 + (σ 3 4 1).toNatClampNeg) 0 k)))) ∧ (¬ ((σ 3 4 1) < (9 : Int32)) → 3 ≤ 3 ∧ 0 ≤ 8 ∧ True ∧ sX1_fail [.inr (.inr (6, 0)), .inl (5 : Int32), .inl (σ 6 0 6)] σ (fun vv tt => am_run eX1_takeOne lX1_takeOne (some .boolean) K X [73] 387 37 [some (.inr (.inr (6, 0))), some (.inl k), none, none] (vv.toList ++ []) tt))) from ⟨fun q0 => ⟨am_le rfl, am_le rfl, trivial, tX1_fail ((show (narrow .boolean (.int (0 : Int32)) = .int (0 : Int32)) ∧ (K (some (.inl (0 : Int32))) (am_u (am_u σ 6 0 3 (2 : Int32)) 6 0 4 (σ 6 0 6))) from ⟨rfl, (h.1 q0)⟩))⟩, fun q0 => ⟨fun q1 => ⟨((h.2 q0).1 q1).1, ⟨am_ci (by decide), ((h.2 q0).1 q1).2⟩⟩, fun q1 => ⟨am_le rfl, am_le rfl, trivial, tX1_fail ((show (narrow .boolean (.int (0 : Int32)) = .int (0 : Int32)) ∧ (K (some (.inl (0 : Int32))) (am_u (am_u σ 6 0 3 (5 : Int32)) 6 0 4 (σ 6 0 6))) from ⟨rfl, ((h.2 q0).2 q1)⟩))⟩⟩⟩)
set_option maxRecDepth 100000 in
set_option maxHeartbeats 400000 in
theorem b_to73 {K : Option am_V → am_M → Prop} {X : Nat → am_L → List am_V → am_M → Prop} (hX : am_cl eX1_takeOne lX1_takeOne (some .boolean) K X) {σ : am_M} (k : Int32) (m w : Nat) (h : (((5 : Int32) < (nI w)) → sX1_takeStop [.inr (.inr (6, 0))] σ (fun vv tt => X 116 [some (.inr (.inr (6, 0))), some (.inl k), some (.inr (.inr (5, m))), some (.inl (nI w))] (vv.toList ++ []) tt)) ∧ (¬ ((5 : Int32) < (nI w)) → (((3 : Int32) < (nI w)) → sX1_takeNumber [.inr (.inr (6, 0)), .inl (0 : Int32), .inl (9 : Int32)] σ (fun vv tt => X 94 [some (.inr (.inr (6, 0))), some (.inl k), some (.inr (.inr (5, m))), some (.inl (nI w))] (vv.toList ++ []) tt)) ∧ (¬ ((3 : Int32) < (nI w)) → sX1_takeNumber [.inr (.inr (6, 0)), .inl (0 : Int32), .inl (5 : Int32)] σ (fun vv tt => X 94 [some (.inr (.inr (6, 0))), some (.inl k), some (.inr (.inr (5, m))), some (.inl (nI w))] (vv.toList ++ []) tt)))) : X 73 [some (.inr (.inr (6, 0))), some (.inl k), some (.inr (.inr (5, m))), some (.inl (nI w))] [] σ := am_run_ok emX1_takeOne hX [94, 116] 400 (show (((5 : Int32) < (nI w)) → 1 ≤ 1 ∧ 0 ≤ 8 ∧ True ∧ sX1_takeStop [.inr (.inr (6, 0))] σ (fun vv tt => X 116 [some (.inr (.inr (6, 0))), some (.inl k), some (.inr (.inr (5, m))), some (.inl (nI w))] (vv.toList ++ []) tt)) ∧ (¬ ((5 : Int32) < (nI w)) → (((3 : Int32) < (nI w)) → 3 ≤ 3 ∧ 0 ≤ 8 ∧ True ∧ sX1_takeNumber [.inr (.inr (6, 0)), .inl (0 : Int32), .inl (9 : Int32)] σ (fun vv tt => X 94 [some (.inr (.inr (6, 0))), some (.inl k), some (.inr (.inr (5, m))), some (.inl (nI w))] (vv.toList ++ []) tt)) ∧ (¬ ((3 : Int32) < (nI w)) → 3 ≤ 3 ∧ 0 ≤ 8 ∧ True ∧ sX1_takeNumber [.inr (.inr (6, 0)), .inl (0 : Int32), .inl (5 : Int32)] σ (fun vv tt => X 94 [some (.inr (.inr (6, 0))), some (.inl k), some (.inr (.inr (5, m))), some (.inl (nI w))] (vv.toList ++ []) tt))) from ⟨fun q0 => ⟨am_le rfl, am_le rfl, trivial, (h.1 q0)⟩, fun q0 => ⟨fun q1 => ⟨am_le rfl, am_le rfl, trivial, ((h.2 q0).1 q1)⟩, fun q1 => ⟨am_le rfl, am_le rfl, trivial, ((h.2 q0).2 q1)⟩⟩⟩)
set_option maxRecDepth 100000 in
set_option maxHeartbeats 400000 in
theorem b_to94 {K : Option am_V → am_M → Prop} {X : Nat → am_L → List am_V → am_M → Prop} (hX : am_cl eX1_takeOne lX1_takeOne (some .boolean) K X) {σ : am_M} (k v : Int32) (m w : Nat) (h : ((v = (0 : Int32)) → K (some (.inl (0 : Int32))) σ) ∧ (¬ (v = (0 : Int32)) → sX1_number [.inr (.inr (6, 0))] σ (fun vv tt => X 105 [some (.inr (.inr (6, 0))), some (.inl k), some (.inr (.inr (5, m))), some (.inl (nI w))] (vv.toList ++ [.inl (nI w), .inr (.inr (5, m))]) tt))) : X 94 [some (.inr (.inr (6, 0))), some (.inl k), some (.inr (.inr (5, m))), some (.inl (nI w))] [.inl v] σ := am_run_ok emX1_takeOne hX [105] 400 (show ((v = (0 : Int32)) → (narrow .boolean (.int (0 : Int32)) = .int (0 : Int32)) ∧ (K (some (.inl (0 : Int32))) σ)) ∧ (¬ (v = (0 : Int32)) → 1 ≤ 3 ∧ 2 ≤ 8 ∧ True ∧ sX1_number [.inr (.inr (6, 0))] σ (fun vv tt => X 105 [some (.inr (.inr (6, 0))), some (.inl k), some (.inr (.inr (5, m))), some (.inl (nI w))] (vv.toList ++ [.inl (nI w), .inr (.inr (5, m))]) tt)) from ⟨fun q0 => ⟨rfl, (h.1 q0)⟩, fun q0 => ⟨am_le rfl, am_le rfl, trivial, (h.2 q0)⟩⟩)
set_option maxRecDepth 100000 in
set_option maxHeartbeats 400000 in
theorem b_to105 {K : Option am_V → am_M → Prop} {X : Nat → am_L → List am_V → am_M → Prop} (hX : am_cl eX1_takeOne lX1_takeOne (some .boolean) K X) {σ : am_M} (k v : Int32) (m w : Nat) (h : (vp_in (nI w) 7) ∧ (X 73 [some (.inr (.inr (6, 0))), some (.inl k), some (.inr (.inr (5, m))), some (.inl ((nI w) + (1 : Int32)))] [] (am_u σ 5 m (nI w).toNatClampNeg v))) : X 105 [some (.inr (.inr (6, 0))), some (.inl k), some (.inr (.inr (5, m))), some (.inl (nI w))] [.inl v, .inl (nI w), .inr (.inr (5, m))] σ := am_run_ok emX1_takeOne hX [73] 400 (show (vp_in (nI w) 7) ∧ (X 73 [some (.inr (.inr (6, 0))), some (.inl k), some (.inr (.inr (5, m))), some (.inl ((nI w) + (1 : Int32)))] [] (am_u σ 5 m (nI w).toNatClampNeg v)) from ⟨h.1, h.2⟩)
set_option maxRecDepth 100000 in
set_option maxHeartbeats 400000 in
theorem b_to116 {K : Option am_V → am_M → Prop} {X : Nat → am_L → List am_V → am_M → Prop} (hX : am_cl eX1_takeOne lX1_takeOne (some .boolean) K X) {σ : am_M} (k v : Int32) (m w : Nat) (h : (narrow .boolean (.int v) = .int v) ∧ (K (some (.inl v)) σ)) : X 116 [some (.inr (.inr (6, 0))), some (.inl k), some (.inr (.inr (5, m))), some (.inl (nI w))] [.inl v] σ := am_run_ok emX1_takeOne hX [] 400 (show (narrow .boolean (.int v) = .int v) ∧ (K (some (.inl v)) σ) from ⟨h.1, h.2⟩)
set_option maxRecDepth 100000 in
set_option maxHeartbeats 400000 in
theorem b_kn0 {K : Option am_V → am_M → Prop} {X : Nat → am_L → List am_V → am_M → Prop} (hX : am_cl eX1_kindNamed lX1_kindNamed (some .int) K X) {σ : am_M}  (h : sX1_isWord [.inr (.inr (6, 0)), .inr (.inr (40, 3))] σ (fun vv tt => X 6 [some (.inr (.inr (6, 0)))] (vv.toList ++ []) tt)) : X 0 [some (.inr (.inr (6, 0)))] [] σ := am_run_ok emX1_kindNamed hX [6] 400 (show 2 ≤ 2 ∧ 0 ≤ 8 ∧ True ∧ sX1_isWord [.inr (.inr (6, 0)), .inr (.inr (40, 3))] σ (fun vv tt => X 6 [some (.inr (.inr (6, 0)))] (vv.toList ++ []) tt) from ⟨am_le rfl, am_le rfl, trivial, h⟩)
set_option maxRecDepth 100000 in
set_option maxHeartbeats 400000 in
theorem b_kn6 {K : Option am_V → am_M → Prop} {X : Nat → am_L → List am_V → am_M → Prop} (hX : am_cl eX1_kindNamed lX1_kindNamed (some .int) K X) {σ : am_M} (v : Int32) (h : ((v = (0 : Int32)) → sX1_isWord [.inr (.inr (6, 0)), .inr (.inr (40, 4))] σ (fun vv tt => X 17 [some (.inr (.inr (6, 0)))] (vv.toList ++ []) tt)) ∧ (¬ (v = (0 : Int32)) → K (some (.inl (0 : Int32))) σ)) : X 6 [some (.inr (.inr (6, 0)))] [.inl v] σ := am_run_ok emX1_kindNamed hX [17] 400 (show ((v = (0 : Int32)) → 2 ≤ 2 ∧ 0 ≤ 8 ∧ True ∧ sX1_isWord [.inr (.inr (6, 0)), .inr (.inr (40, 4))] σ (fun vv tt => X 17 [some (.inr (.inr (6, 0)))] (vv.toList ++ []) tt)) ∧ (¬ (v = (0 : Int32)) → K (some (.inl (0 : Int32))) σ) from ⟨fun q0 => ⟨am_le rfl, am_le rfl, trivial, (h.1 q0)⟩, fun q0 => (h.2 q0)⟩)
set_option maxRecDepth 100000 in
set_option maxHeartbeats 400000 in
theorem b_kn17 {K : Option am_V → am_M → Prop} {X : Nat → am_L → List am_V → am_M → Prop} (hX : am_cl eX1_kindNamed lX1_kindNamed (some .int) K X) {σ : am_M} (v : Int32) (h : ((v = (0 : Int32)) → sX1_isWord [.inr (.inr (6, 0)), .inr (.inr (40, 5))] σ (fun vv tt => X 28 [some (.inr (.inr (6, 0)))] (vv.toList ++ []) tt)) ∧ (¬ (v = (0 : Int32)) → K (some (.inl (1 : Int32))) σ)) : X 17 [some (.inr (.inr (6, 0)))] [.inl v] σ := am_run_ok emX1_kindNamed hX [28] 400 (show ((v = (0 : Int32)) → 2 ≤ 2 ∧ 0 ≤ 8 ∧ True ∧ sX1_isWord [.inr (.inr (6, 0)), .inr (.inr (40, 5))] σ (fun vv tt => X 28 [some (.inr (.inr (6, 0)))] (vv.toList ++ []) tt)) ∧ (¬ (v = (0 : Int32)) → K (some (.inl (1 : Int32))) σ) from ⟨fun q0 => ⟨am_le rfl, am_le rfl, trivial, (h.1 q0)⟩, fun q0 => (h.2 q0)⟩)
set_option maxRecDepth 100000 in
set_option maxHeartbeats 400000 in
theorem b_kn28 {K : Option am_V → am_M → Prop} {X : Nat → am_L → List am_V → am_M → Prop} (hX : am_cl eX1_kindNamed lX1_kindNamed (some .int) K X) {σ : am_M} (v : Int32) (h : ((v = (0 : Int32)) → sX1_isWord [.inr (.inr (6, 0)), .inr (.inr (40, 6))] σ (fun vv tt => X 39 [some (.inr (.inr (6, 0)))] (vv.toList ++ []) tt)) ∧ (¬ (v = (0 : Int32)) → K (some (.inl (2 : Int32))) σ)) : X 28 [some (.inr (.inr (6, 0)))] [.inl v] σ := am_run_ok emX1_kindNamed hX [39] 400 (show ((v = (0 : Int32)) → 2 ≤ 2 ∧ 0 ≤ 8 ∧ True ∧ sX1_isWord [.inr (.inr (6, 0)), .inr (.inr (40, 6))] σ (fun vv tt => X 39 [some (.inr (.inr (6, 0)))] (vv.toList ++ []) tt)) ∧ (¬ (v = (0 : Int32)) → K (some (.inl (2 : Int32))) σ) from ⟨fun q0 => ⟨am_le rfl, am_le rfl, trivial, (h.1 q0)⟩, fun q0 => (h.2 q0)⟩)
set_option maxRecDepth 100000 in
set_option maxHeartbeats 400000 in
theorem b_kn39 {K : Option am_V → am_M → Prop} {X : Nat → am_L → List am_V → am_M → Prop} (hX : am_cl eX1_kindNamed lX1_kindNamed (some .int) K X) {σ : am_M} (v : Int32) (h : ((v = (0 : Int32)) → sX1_isWord [.inr (.inr (6, 0)), .inr (.inr (40, 7))] σ (fun vv tt => X 50 [some (.inr (.inr (6, 0)))] (vv.toList ++ []) tt)) ∧ (¬ (v = (0 : Int32)) → K (some (.inl (3 : Int32))) σ)) : X 39 [some (.inr (.inr (6, 0)))] [.inl v] σ := am_run_ok emX1_kindNamed hX [50] 400 (show ((v = (0 : Int32)) → 2 ≤ 2 ∧ 0 ≤ 8 ∧ True ∧ sX1_isWord [.inr (.inr (6, 0)), .inr (.inr (40, 7))] σ (fun vv tt => X 50 [some (.inr (.inr (6, 0)))] (vv.toList ++ []) tt)) ∧ (¬ (v = (0 : Int32)) → K (some (.inl (3 : Int32))) σ) from ⟨fun q0 => ⟨am_le rfl, am_le rfl, trivial, (h.1 q0)⟩, fun q0 => (h.2 q0)⟩)
set_option maxRecDepth 100000 in
set_option maxHeartbeats 400000 in
theorem b_kn50 {K : Option am_V → am_M → Prop} {X : Nat → am_L → List am_V → am_M → Prop} (hX : am_cl eX1_kindNamed lX1_kindNamed (some .int) K X) {σ : am_M} (v : Int32) (h : ((v = (0 : Int32)) → K (some (.inl (-4 : Int32))) σ) ∧ (¬ (v = (0 : Int32)) → K (some (.inl (4 : Int32))) σ)) : X 50 [some (.inr (.inr (6, 0)))] [.inl v] σ := am_run_ok emX1_kindNamed hX [] 400 (show ((v = (0 : Int32)) → K (some (.inl (-4 : Int32))) σ) ∧ (¬ (v = (0 : Int32)) → K (some (.inl (4 : Int32))) σ) from ⟨fun q0 => (h.1 q0), fun q0 => (h.2 q0)⟩)
set_option maxRecDepth 100000 in
set_option maxHeartbeats 400000 in
theorem b_tl0 {K : Option am_V → am_M → Prop} {X : Nat → am_L → List am_V → am_M → Prop} (hX : am_cl eX1_takeLine lX1_takeLine (some .boolean) K X) {σ : am_M}  (h : (((σ 6 0 5) = (1 : Int32)) → sX1_isWord [.inr (.inr (6, 0)), .inr (.inr (40, 0))] σ (fun vv tt => X 24 [some (.inr (.inr (6, 0)))] (vv.toList ++ []) tt)) ∧ (¬ ((σ 6 0 5) = (1 : Int32)) → K (some (.inl (0 : Int32))) (am_u (am_u σ 6 0 3 (2 : Int32)) 6 0 4 (σ 6 0 6)))) : X 0 [some (.inr (.inr (6, 0)))] [] σ := am_run_ok emX1_takeLine hX [24] 400 (show (((σ 6 0 5) = (1 : Int32)) → 2 ≤ 2 ∧ 0 ≤ 8 ∧ True ∧ sX1_isWord [.inr (.inr (6, 0)), .inr (.inr (40, 0))] σ (fun vv tt => X 24 [some (.inr (.inr (6, 0)))] (vv.toList ++ []) tt)) ∧ (¬ ((σ 6 0 5) = (1 : Int32)) → 3 ≤ 3 ∧ 0 ≤ 8 ∧ True ∧ sX1_fail [.inr (.inr (6, 0)), .inl (2 : Int32), .inl (σ 6 0 6)] σ (fun vv tt => am_run eX1_takeLine lX1_takeLine (some .boolean) K X [24] 391 17 [some (.inr (.inr (6, 0)))] (vv.toList ++ []) tt)) from ⟨fun q0 => ⟨am_le rfl, am_le rfl, trivial, (h.1 q0)⟩, fun q0 => ⟨am_le rfl, am_le rfl, trivial, tX1_fail ((show (narrow .boolean (.int (0 : Int32)) = .int (0 : Int32)) ∧ (K (some (.inl (0 : Int32))) (am_u (am_u σ 6 0 3 (2 : Int32)) 6 0 4 (σ 6 0 6))) from ⟨rfl, (h.2 q0)⟩))⟩⟩)
set_option maxRecDepth 100000 in
set_option maxHeartbeats 400000 in
theorem b_tl24 {K : Option am_V → am_M → Prop} {X : Nat → am_L → List am_V → am_M → Prop} (hX : am_cl eX1_takeLine lX1_takeLine (some .boolean) K X) {σ : am_M} (v : Int32) (h : ((v = (0 : Int32)) → sX1_isWord [.inr (.inr (6, 0)), .inr (.inr (40, 1))] σ (fun vv tt => X 38 [some (.inr (.inr (6, 0)))] (vv.toList ++ []) tt)) ∧ (¬ (v = (0 : Int32)) → sX1_takeSeats [.inr (.inr (6, 0))] σ (fun vv tt => X 31 [some (.inr (.inr (6, 0)))] (vv.toList ++ []) tt))) : X 24 [some (.inr (.inr (6, 0)))] [.inl v] σ := am_run_ok emX1_takeLine hX [31, 38] 400 (show ((v = (0 : Int32)) → 2 ≤ 2 ∧ 0 ≤ 8 ∧ True ∧ sX1_isWord [.inr (.inr (6, 0)), .inr (.inr (40, 1))] σ (fun vv tt => X 38 [some (.inr (.inr (6, 0)))] (vv.toList ++ []) tt)) ∧ (¬ (v = (0 : Int32)) → 1 ≤ 1 ∧ 0 ≤ 8 ∧ True ∧ sX1_takeSeats [.inr (.inr (6, 0))] σ (fun vv tt => X 31 [some (.inr (.inr (6, 0)))] (vv.toList ++ []) tt)) from ⟨fun q0 => ⟨am_le rfl, am_le rfl, trivial, (h.1 q0)⟩, fun q0 => ⟨am_le rfl, am_le rfl, trivial, (h.2 q0)⟩⟩)
set_option maxRecDepth 100000 in
set_option maxHeartbeats 400000 in
theorem b_tl31 {K : Option am_V → am_M → Prop} {X : Nat → am_L → List am_V → am_M → Prop} (hX : am_cl eX1_takeLine lX1_takeLine (some .boolean) K X) {σ : am_M} (v : Int32) (h : (narrow .boolean (.int v) = .int v) ∧ (K (some (.inl v)) σ)) : X 31 [some (.inr (.inr (6, 0)))] [.inl v] σ := am_run_ok emX1_takeLine hX [] 400 (show (narrow .boolean (.int v) = .int v) ∧ (K (some (.inl v)) σ) from ⟨h.1, h.2⟩)
set_option maxRecDepth 100000 in
set_option maxHeartbeats 400000 in
theorem b_tl38 {K : Option am_V → am_M → Prop} {X : Nat → am_L → List am_V → am_M → Prop} (hX : am_cl eX1_takeLine lX1_takeLine (some .boolean) K X) {σ : am_M} (v : Int32) (h : ((v = (0 : Int32)) → sX1_isWord [.inr (.inr (6, 0)), .inr (.inr (40, 2))] σ (fun vv tt => X 52 [some (.inr (.inr (6, 0)))] (vv.toList ++ []) tt)) ∧ (¬ (v = (0 : Int32)) → sX1_takeCosts [.inr (.inr (6, 0))] σ (fun vv tt => X 45 [some (.inr (.inr (6, 0)))] (vv.toList ++ []) tt))) : X 38 [some (.inr (.inr (6, 0)))] [.inl v] σ := am_run_ok emX1_takeLine hX [45, 52] 400 (show ((v = (0 : Int32)) → 2 ≤ 2 ∧ 0 ≤ 8 ∧ True ∧ sX1_isWord [.inr (.inr (6, 0)), .inr (.inr (40, 2))] σ (fun vv tt => X 52 [some (.inr (.inr (6, 0)))] (vv.toList ++ []) tt)) ∧ (¬ (v = (0 : Int32)) → 1 ≤ 1 ∧ 0 ≤ 8 ∧ True ∧ sX1_takeCosts [.inr (.inr (6, 0))] σ (fun vv tt => X 45 [some (.inr (.inr (6, 0)))] (vv.toList ++ []) tt)) from ⟨fun q0 => ⟨am_le rfl, am_le rfl, trivial, (h.1 q0)⟩, fun q0 => ⟨am_le rfl, am_le rfl, trivial, (h.2 q0)⟩⟩)
set_option maxRecDepth 100000 in
set_option maxHeartbeats 400000 in
theorem b_tl45 {K : Option am_V → am_M → Prop} {X : Nat → am_L → List am_V → am_M → Prop} (hX : am_cl eX1_takeLine lX1_takeLine (some .boolean) K X) {σ : am_M} (v : Int32) (h : (narrow .boolean (.int v) = .int v) ∧ (K (some (.inl v)) σ)) : X 45 [some (.inr (.inr (6, 0)))] [.inl v] σ := am_run_ok emX1_takeLine hX [] 400 (show (narrow .boolean (.int v) = .int v) ∧ (K (some (.inl v)) σ) from ⟨h.1, h.2⟩)
set_option maxRecDepth 100000 in
set_option maxHeartbeats 400000 in
theorem b_tl52 {K : Option am_V → am_M → Prop} {X : Nat → am_L → List am_V → am_M → Prop} (hX : am_cl eX1_takeLine lX1_takeLine (some .boolean) K X) {σ : am_M} (v : Int32) (h : ((v = (0 : Int32)) → sX1_kindNamed [.inr (.inr (6, 0))] σ (fun vv tt => X 65 [some (.inr (.inr (6, 0)))] (vv.toList ++ [.inr (.inr (6, 0))]) tt)) ∧ (¬ (v = (0 : Int32)) → sX1_takeHere [.inr (.inr (6, 0))] σ (fun vv tt => X 59 [some (.inr (.inr (6, 0)))] (vv.toList ++ []) tt))) : X 52 [some (.inr (.inr (6, 0)))] [.inl v] σ := am_run_ok emX1_takeLine hX [59, 65] 400 (show ((v = (0 : Int32)) → 1 ≤ 2 ∧ 1 ≤ 8 ∧ True ∧ sX1_kindNamed [.inr (.inr (6, 0))] σ (fun vv tt => X 65 [some (.inr (.inr (6, 0)))] (vv.toList ++ [.inr (.inr (6, 0))]) tt)) ∧ (¬ (v = (0 : Int32)) → 1 ≤ 1 ∧ 0 ≤ 8 ∧ True ∧ sX1_takeHere [.inr (.inr (6, 0))] σ (fun vv tt => X 59 [some (.inr (.inr (6, 0)))] (vv.toList ++ []) tt)) from ⟨fun q0 => ⟨am_le rfl, am_le rfl, trivial, (h.1 q0)⟩, fun q0 => ⟨am_le rfl, am_le rfl, trivial, (h.2 q0)⟩⟩)
set_option maxRecDepth 100000 in
set_option maxHeartbeats 400000 in
theorem b_tl59 {K : Option am_V → am_M → Prop} {X : Nat → am_L → List am_V → am_M → Prop} (hX : am_cl eX1_takeLine lX1_takeLine (some .boolean) K X) {σ : am_M} (v : Int32) (h : (narrow .boolean (.int v) = .int v) ∧ (K (some (.inl v)) σ)) : X 59 [some (.inr (.inr (6, 0)))] [.inl v] σ := am_run_ok emX1_takeLine hX [] 400 (show (narrow .boolean (.int v) = .int v) ∧ (K (some (.inl v)) σ) from ⟨h.1, h.2⟩)
set_option maxRecDepth 100000 in
set_option maxHeartbeats 400000 in
theorem b_tl65 {K : Option am_V → am_M → Prop} {X : Nat → am_L → List am_V → am_M → Prop} (hX : am_cl eX1_takeLine lX1_takeLine (some .boolean) K X) {σ : am_M} (v : Int32) (h : sX1_takeOne [.inr (.inr (6, 0)), .inl v] σ (fun vv tt => X 68 [some (.inr (.inr (6, 0)))] (vv.toList ++ []) tt)) : X 65 [some (.inr (.inr (6, 0)))] [.inl v, .inr (.inr (6, 0))] σ := am_run_ok emX1_takeLine hX [68] 400 (show 2 ≤ 2 ∧ 0 ≤ 8 ∧ True ∧ sX1_takeOne [.inr (.inr (6, 0)), .inl v] σ (fun vv tt => X 68 [some (.inr (.inr (6, 0)))] (vv.toList ++ []) tt) from ⟨am_le rfl, am_le rfl, trivial, h⟩)
set_option maxRecDepth 100000 in
set_option maxHeartbeats 400000 in
theorem b_tl68 {K : Option am_V → am_M → Prop} {X : Nat → am_L → List am_V → am_M → Prop} (hX : am_cl eX1_takeLine lX1_takeLine (some .boolean) K X) {σ : am_M} (v : Int32) (h : (narrow .boolean (.int v) = .int v) ∧ (K (some (.inl v)) σ)) : X 68 [some (.inr (.inr (6, 0)))] [.inl v] σ := am_run_ok emX1_takeLine hX [] 400 (show (narrow .boolean (.int v) = .int v) ∧ (K (some (.inl v)) σ) from ⟨h.1, h.2⟩)
set_option maxRecDepth 100000 in
set_option maxHeartbeats 400000 in
theorem b_lt0 {K : Option am_V → am_M → Prop} {X : Nat → am_L → List am_V → am_M → Prop} (hX : am_cl eX1_letWait lX1_letWait none K X) {σ : am_M}  (h : (((σ 6 0 8) < ((1 : Int32) <<< ((σ 3 4 1) &&& 31))) → X 30 [some (.inr (.inr (6, 0))), some (.inl (0 : Int32))] [] σ) ∧ (¬ ((σ 6 0 8) < ((1 : Int32) <<< ((σ 3 4 1) &&& 31))) → X 30 [some (.inr (.inr (6, 0))), some (.inl (0 : Int32))] [] (am_u (am_u σ 6 0 3 (6 : Int32)) 6 0 4 (σ 1 0 1)))) : X 0 [some (.inr (.inr (6, 0))), none] [] σ := am_run_ok emX1_letWait hX [30] 400 (show 1 ≤ 2 ∧ 1 ≤ 8 ∧ True ∧ sX0_pools [.inr (.inr (3, 4))] σ (fun vv tt => am_run eX1_letWait lX1_letWait none K X [30] 395 11 [some (.inr (.inr (6, 0))), none] (vv.toList ++ [.inl (σ 6 0 8)]) tt) from ⟨am_le rfl, am_le rfl, trivial, tX0_pools ((show (((σ 6 0 8) < ((1 : Int32) <<< ((σ 3 4 1) &&& 31))) → X 30 [some (.inr (.inr (6, 0))), some (.inl (0 : Int32))] [] σ) ∧ (¬ ((σ 6 0 8) < ((1 : Int32) <<< ((σ 3 4 1) &&& 31))) → 3 ≤ 3 ∧ 0 ≤ 8 ∧ True ∧ sX1_fail [.inr (.inr (6, 0)), .inl (6 : Int32), .inl (σ 1 0 1)] σ (fun vv tt => am_run eX1_letWait lX1_letWait none K X [30] 388 27 [some (.inr (.inr (6, 0))), none] (vv.toList ++ []) tt)) from ⟨fun q0 => (h.1 q0), fun q0 => ⟨am_le rfl, am_le rfl, trivial, tX1_fail ((show X 30 [some (.inr (.inr (6, 0))), some (.inl (0 : Int32))] [] (am_u (am_u σ 6 0 3 (6 : Int32)) 6 0 4 (σ 1 0 1)) from (h.2 q0)))⟩⟩))⟩)
set_option maxRecDepth 100000 in
set_option maxHeartbeats 400000 in
theorem b_lt30 {K : Option am_V → am_M → Prop} {X : Nat → am_L → List am_V → am_M → Prop} (hX : am_cl eX1_letWait lX1_letWait none K X) {σ : am_M} (p : Nat) (h : (((σ 3 4 1) ≤ (nI p)) → K none σ) ∧ (¬ ((σ 3 4 1) ≤ (nI p)) → (vp_in (nI p) 9) ∧ (((((((σ 6 0 8)).toUInt32 >>> (((nI p)).toUInt32 &&& Int32.toUInt32 31)).toInt32 &&& (1 : Int32)) = (0 : Int32)) → X 30 [some (.inr (.inr (6, 0))), some (.inl ((nI p) + (1 : Int32)))] [] (am_u σ 5 (9 * 4 + (nI p).toNatClampNeg) 6 (0 : Int32))) ∧ (¬ (((((σ 6 0 8)).toUInt32 >>> (((nI p)).toUInt32 &&& Int32.toUInt32 31)).toInt32 &&& (1 : Int32)) = (0 : Int32)) → X 30 [some (.inr (.inr (6, 0))), some (.inl ((nI p) + (1 : Int32)))] [] (am_u σ 5 (9 * 4 + (nI p).toNatClampNeg) 6 (1 : Int32)))))) : X 30 [some (.inr (.inr (6, 0))), some (.inl (nI p))] [] σ := am_run_ok emX1_letWait hX [30] 400 (show (((σ 3 4 1) ≤ (nI p)) → K none σ) ∧ (¬ ((σ 3 4 1) ≤ (nI p)) → (vp_in (nI p) 9) ∧ (2 ≤ 4 ∧ 2 ≤ 8 ∧ sX6_isIn [.inl (nI p), .inl (σ 6 0 8)] σ (fun vv tt => am_run eX1_letWait lX1_letWait none K X [30] 385 60 [some (.inr (.inr (6, 0))), some (.inl (nI p))] (vv.toList ++ [.inl (6 : Int32), .inr (.inr (5, (9 * 4 + (nI p).toNatClampNeg)))]) tt))) from ⟨fun q0 => (h.1 q0), fun q0 => ⟨(h.2 q0).1, ⟨am_le rfl, am_le rfl, tX6_isIn (⟨fun q1 => (show (((0 : Int32) = (0 : Int32)) → (vp_in (6 : Int32) 7) ∧ (X 30 [some (.inr (.inr (6, 0))), some (.inl ((nI p) + (1 : Int32)))] [] (am_u σ 5 (9 * 4 + (nI p).toNatClampNeg) 6 (0 : Int32)))) ∧ (¬ ((0 : Int32) = (0 : Int32)) → _) from ⟨fun _ => ⟨am_ci (by decide), ((h.2 q0).2.1 q1)⟩, fun q => absurd (by decide) q⟩), fun q1 => (show (((1 : Int32) = (0 : Int32)) → _) ∧ (¬ ((1 : Int32) = (0 : Int32)) → (vp_in (6 : Int32) 7) ∧ (X 30 [some (.inr (.inr (6, 0))), some (.inl ((nI p) + (1 : Int32)))] [] (am_u σ 5 (9 * 4 + (nI p).toNatClampNeg) 6 (1 : Int32)))) from ⟨fun q => absurd q (by decide), fun _ => ⟨am_ci (by decide), ((h.2 q0).2.2 q1)⟩⟩)⟩)⟩⟩⟩)
set_option maxRecDepth 100000 in
set_option maxHeartbeats 400000 in
theorem b_te0 {K : Option am_V → am_M → Prop} {X : Nat → am_L → List am_V → am_M → Prop} (hX : am_cl eX1_tellAll lX1_tellAll none K X) {σ : am_M}  (h : X 6 [some (.inr (.inr (6, 0))), some (.inl (0 : Int32))] [] (am_u (am_u (am_u (am_u (am_u (am_u (am_u (am_u (am_u (am_u (am_u (am_u (am_u σ 3 4 1 (0 : Int32)) 3 4 2 (3 : Int32)) 3 4 3 (1 : Int32)) 3 4 4 (1 : Int32)) 3 4 5 (0 : Int32)) 3 4 6 (0 : Int32)) 6 0 2 (0 : Int32)) 6 0 3 (0 : Int32)) 6 0 4 (0 : Int32)) 6 0 7 (0 : Int32)) 6 0 8 (0 : Int32)) 6 0 9 (0 : Int32)) 6 0 10 (0 : Int32))) : X 0 [some (.inr (.inr (6, 0))), none] [] σ := am_run_ok emX1_tellAll hX [6] 400 (show 1 ≤ 1 ∧ 0 ≤ 8 ∧ True ∧ sX1_restart [.inr (.inr (6, 0))] σ (fun vv tt => am_run eX1_tellAll lX1_tellAll none K X [6] 398 4 [some (.inr (.inr (6, 0))), none] (vv.toList ++ []) tt) from ⟨am_le rfl, am_le rfl, trivial, tX1_restart ((show X 6 [some (.inr (.inr (6, 0))), some (.inl (0 : Int32))] [] (am_u (am_u (am_u (am_u (am_u (am_u (am_u (am_u (am_u (am_u (am_u (am_u (am_u σ 3 4 1 (0 : Int32)) 3 4 2 (3 : Int32)) 3 4 3 (1 : Int32)) 3 4 4 (1 : Int32)) 3 4 5 (0 : Int32)) 3 4 6 (0 : Int32)) 6 0 2 (0 : Int32)) 6 0 3 (0 : Int32)) 6 0 4 (0 : Int32)) 6 0 7 (0 : Int32)) 6 0 8 (0 : Int32)) 6 0 9 (0 : Int32)) 6 0 10 (0 : Int32)) from h))⟩)
set_option maxRecDepth 100000 in
set_option maxHeartbeats 400000 in
theorem b_te6 {K : Option am_V → am_M → Prop} {X : Nat → am_L → List am_V → am_M → Prop} (hX : am_cl eX1_tellAll lX1_tellAll none K X) {σ : am_M} (p : Nat) (h : (((160 : Int32) < (nI p)) → X 53 [some (.inr (.inr (6, 0))), some (.inl (nI p))] [] σ) ∧ (¬ ((160 : Int32) < (nI p)) → sX1_takeToken [.inr (.inr (6, 0))] σ (fun vv tt => X 17 [some (.inr (.inr (6, 0))), some (.inl (nI p))] (vv.toList ++ []) tt))) : X 6 [some (.inr (.inr (6, 0))), some (.inl (nI p))] [] σ := am_run_ok emX1_tellAll hX [17, 53] 400 (show (((160 : Int32) < (nI p)) → X 53 [some (.inr (.inr (6, 0))), some (.inl (nI p))] [] σ) ∧ (¬ ((160 : Int32) < (nI p)) → 1 ≤ 1 ∧ 0 ≤ 8 ∧ True ∧ sX1_takeToken [.inr (.inr (6, 0))] σ (fun vv tt => X 17 [some (.inr (.inr (6, 0))), some (.inl (nI p))] (vv.toList ++ []) tt)) from ⟨fun q0 => (h.1 q0), fun q0 => ⟨am_le rfl, am_le rfl, trivial, (h.2 q0)⟩⟩)
set_option maxRecDepth 100000 in
set_option maxHeartbeats 400000 in
theorem b_te17 {K : Option am_V → am_M → Prop} {X : Nat → am_L → List am_V → am_M → Prop} (hX : am_cl eX1_tellAll lX1_tellAll none K X) {σ : am_M} (p : Nat) (v : Int32) (h : ((v = (0 : Int32)) → X 53 [some (.inr (.inr (6, 0))), some (.inl (nI p))] [] σ) ∧ (¬ (v = (0 : Int32)) → (((σ 6 0 5) = (0 : Int32)) → X 53 [some (.inr (.inr (6, 0))), some (.inl (nI p))] [] σ) ∧ (¬ ((σ 6 0 5) = (0 : Int32)) → sX1_takeLine [.inr (.inr (6, 0))] σ (fun vv tt => X 31 [some (.inr (.inr (6, 0))), some (.inl (nI p))] (vv.toList ++ []) tt)))) : X 17 [some (.inr (.inr (6, 0))), some (.inl (nI p))] [.inl v] σ := am_run_ok emX1_tellAll hX [31, 53] 400 (show ((v = (0 : Int32)) → X 53 [some (.inr (.inr (6, 0))), some (.inl (nI p))] [] σ) ∧ (¬ (v = (0 : Int32)) → (((σ 6 0 5) = (0 : Int32)) → X 53 [some (.inr (.inr (6, 0))), some (.inl (nI p))] [] σ) ∧ (¬ ((σ 6 0 5) = (0 : Int32)) → 1 ≤ 1 ∧ 0 ≤ 8 ∧ True ∧ sX1_takeLine [.inr (.inr (6, 0))] σ (fun vv tt => X 31 [some (.inr (.inr (6, 0))), some (.inl (nI p))] (vv.toList ++ []) tt))) from ⟨fun q0 => (h.1 q0), fun q0 => ⟨fun q1 => ((h.2 q0).1 q1), fun q1 => ⟨am_le rfl, am_le rfl, trivial, ((h.2 q0).2 q1)⟩⟩⟩)
set_option maxRecDepth 100000 in
set_option maxHeartbeats 400000 in
theorem b_te31 {K : Option am_V → am_M → Prop} {X : Nat → am_L → List am_V → am_M → Prop} (hX : am_cl eX1_tellAll lX1_tellAll none K X) {σ : am_M} (p : Nat) (v : Int32) (h : ((v = (0 : Int32)) → X 53 [some (.inr (.inr (6, 0))), some (.inl (nI p))] [] σ) ∧ (¬ (v = (0 : Int32)) → X 6 [some (.inr (.inr (6, 0))), some (.inl ((nI p) + (1 : Int32)))] [] (am_u σ 6 0 2 ((σ 6 0 2) + (1 : Int32))))) : X 31 [some (.inr (.inr (6, 0))), some (.inl (nI p))] [.inl v] σ := am_run_ok emX1_tellAll hX [6, 53] 400 (show ((v = (0 : Int32)) → X 53 [some (.inr (.inr (6, 0))), some (.inl (nI p))] [] σ) ∧ (¬ (v = (0 : Int32)) → X 6 [some (.inr (.inr (6, 0))), some (.inl ((nI p) + (1 : Int32)))] [] (am_u σ 6 0 2 ((σ 6 0 2) + (1 : Int32)))) from ⟨fun q0 => (h.1 q0), fun q0 => (h.2 q0)⟩)
set_option maxRecDepth 100000 in
set_option maxHeartbeats 400000 in
theorem b_te53 {K : Option am_V → am_M → Prop} {X : Nat → am_L → List am_V → am_M → Prop} (hX : am_cl eX1_tellAll lX1_tellAll none K X) {σ : am_M}  (h : (((σ 6 0 3) = (0 : Int32)) → sX1_letWait [.inr (.inr (6, 0))] σ (fun vv tt => X 64 [some (.inr (.inr (6, 0))), none] (vv.toList ++ []) tt)) ∧ (¬ ((σ 6 0 3) = (0 : Int32)) → X 64 [some (.inr (.inr (6, 0))), none] [] σ)) : X 53 [some (.inr (.inr (6, 0))), none] [] σ := am_run_ok emX1_tellAll hX [64] 400 (show (((σ 6 0 3) = (0 : Int32)) → 1 ≤ 1 ∧ 0 ≤ 8 ∧ True ∧ sX1_letWait [.inr (.inr (6, 0))] σ (fun vv tt => X 64 [some (.inr (.inr (6, 0))), none] (vv.toList ++ []) tt)) ∧ (¬ ((σ 6 0 3) = (0 : Int32)) → X 64 [some (.inr (.inr (6, 0))), none] [] σ) from ⟨fun q0 => ⟨am_le rfl, am_le rfl, trivial, (h.1 q0)⟩, fun q0 => (h.2 q0)⟩)
set_option maxRecDepth 100000 in
set_option maxHeartbeats 400000 in
theorem b_te64 {K : Option am_V → am_M → Prop} {X : Nat → am_L → List am_V → am_M → Prop} (hX : am_cl eX1_tellAll lX1_tellAll none K X) {σ : am_M}  (h : K none σ) : X 64 [some (.inr (.inr (6, 0))), none] [] σ := am_run_ok emX1_tellAll hX [] 400 (show K none σ from h)
theorem tkK_2 {b : Nat → Nat} {t i : Nat} (h : tkK b t i = 2) : tkS b t i < t ∧ isF (b (tkS b t i)) = true ∧ tkE b t i = if fgA b t (tkS b t i + 1) then tkS b t i + 2 else tkS b t i + 1 := by
  unfold tkK at h
  unfold tkE
  by_cases c0 : t ≤ tkS b t i
  · rw [if_pos c0] at h
    omega
  rw [if_neg c0] at h ⊢
  by_cases c1 : b (tkS b t i) = 59
  · rw [if_pos c1] at h
    omega
  rw [if_neg c1] at h ⊢
  by_cases c2 : isL (b (tkS b t i)) = true
  · rw [if_pos c2] at h
    omega
  rw [if_neg c2] at h ⊢
  by_cases c3 : isF (b (tkS b t i)) = true
  · exact ⟨by omega, c3, rfl⟩
  · rw [if_neg c3] at h
    omega
theorem isF_b {x : Nat} (h : isF x = true) : 48 ≤ x ∧ x ≤ 57 := by
  unfold isF at h
  rw [Bool.and_eq_true] at h
  exact ⟨of_decide_eq_true h.1, of_decide_eq_true h.2⟩
theorem tkV_le {b : Nat → Nat} {t i : Nat} (h : tkK b t i = 2) : tkV b t i ≤ 99 := by
  obtain ⟨h1, h2, h3⟩ := tkK_2 h
  have := isF_b h2
  unfold tkV
  split
  · rename_i c
    unfold fgA at c
    rw [Bool.and_eq_true] at c
    have := isF_b c.2
    omega
  · omega
theorem tX1_number {σ : am_M} {t i : Nat} {b : Nat → Nat} {K : am_K} (ht : tp σ t b) (hs : σ 6 0 6 = nI (tkS b t i)) (he : σ 6 0 7 = nI (tkE b t i)) (hk : tkK b t i = 2) (h : K (some (.inl (nI (tkV b t i)))) σ) : sX1_number [.inr (.inr (6, 0))] σ K := by
  obtain ⟨h1, h2, h3⟩ := tkK_2 hk
  have t160 := ht.1
  have f1 := isF_b h2
  unfold tkV at h
  generalize tkS b t i = s at hs h1 h2 h3 f1 h
  rw [h3] at he
  refine ⟨am_le rfl, fun X hX => b_nb0 hX ?_⟩
  have one : ∀ v, v < 1000 → (48 ≤ b s ∧ b s ≤ 57) → (10 : Int32) * nI v + nI (b s) - (48 : Int32) = nI (10 * v + (b s - 48)) := fun v hv hb => by
    rw [show (10 : Int32) * nI v = nI (10 * v) from pk_mul 10 v, nI_add, show nI (10 * v + b s) - (48 : Int32) = nI (10 * v + b s - 48) from pk_sub (b := 48) (by omega)]
    congr 1
    omega
  rw [hs]
  refine b_nb7 hX _ _ ?_
  have ts := tp_sg ht (i := s) (by omega)
  rw [if_pos h1] at ts
  rw [ts, show (10 : Int32) * (0 : Int32) + nI (b s) - (48 : Int32) = nI (10 * 0 + (b s - 48)) from one 0 (by decide) f1, Nat.mul_zero, Nat.zero_add, show nI s + (1 : Int32) = nI (s + 1) from nI_add s 1, he]
  by_cases c : fgA b t (s + 1) = true
  · rw [if_pos c] at h he ⊢
    have c' := c
    unfold fgA at c'
    rw [Bool.and_eq_true] at c'
    have c1 := of_decide_eq_true c'.1
    have c2 := isF_b c'.2
    refine ⟨fun q => absurd q (nI_ge (by omega) (by omega)), fun _ => ⟨tp_ok ht, b_nb7 hX _ _ ?_⟩⟩
    have ts2 := tp_sg ht (i := s + 1) (by omega)
    rw [if_pos c1] at ts2
    rw [he, ts2, show (10 : Int32) * nI (b s - 48) = nI (10 * (b s - 48)) from pk_mul 10 _, nI_add, show nI (10 * (b s - 48) + b (s + 1)) - (48 : Int32) = nI (10 * (b s - 48) + b (s + 1) - 48) from pk_sub (b := 48) (by omega), show nI (s + 1) + (1 : Int32) = nI (s + 2) from nI_add _ 1]
    refine ⟨fun q => absurd q (nI_ge (by omega) (by omega)), fun _ => ⟨tp_ok ht, b_nb7 hX _ _ ⟨fun _ => ?_, fun q => absurd (by rw [he]; exact nI_le (Nat.le_refl _) (by omega)) q⟩⟩⟩
    rw [show 10 * (b s - 48) + b (s + 1) - 48 = 10 * (b s - 48) + (b (s + 1) - 48) by omega]
    exact h
  · rw [if_neg c] at h he ⊢
    exact ⟨fun q => absurd q (nI_ge (by omega) (by omega)), fun _ => ⟨tp_ok ht, b_nb7 hX _ _ ⟨fun _ => h, fun q => absurd (by rw [he]; exact nI_le (Nat.le_refl _) (by omega)) q⟩⟩⟩
/-- is a word at a place -/
def mw (b : Nat → Nat) (s e : Nat) (l : List Int32) : Bool := decide (e - s = l.length) && (List.range l.length).all fun j => decide (nI (b (s + j)) = l.getD j 0)
theorem mw_iff {b : Nat → Nat} {s e : Nat} {l : List Int32} : mw b s e l = true ↔ e - s = l.length ∧ ∀ j, j < l.length → nI (b (s + j)) = l.getD j 0 := by
  unfold mw
  rw [Bool.and_eq_true, decide_eq_true_iff, List.all_eq_true]
  constructor
  · rintro ⟨a, c⟩
    exact ⟨a, fun j hj => of_decide_eq_true (c j (List.mem_range.mpr hj))⟩
  · rintro ⟨a, c⟩
    exact ⟨a, fun j hj => decide_eq_true (c j (List.mem_range.mp hj))⟩
theorem mw_one {b : Nat → Nat} {s e : Nat} {l l' : List Int32} (h : mw b s e l = true) (h' : mw b s e l' = true) : l = l' := by
  rw [mw_iff] at h h'
  have hl : l.length = l'.length := by rw [← h.1, h'.1]
  refine List.ext_getElem hl fun j h1 h2 => ?_
  have e1 := h.2 j h1
  have e2 := h'.2 j h2
  rw [e1] at e2
  rw [List.getD_eq_getElem?_getD, List.getD_eq_getElem?_getD, List.getElem?_eq_getElem h1, List.getElem?_eq_getElem h2] at e2
  exact e2
theorem am_str_8 : ∀ k, k < 8 → (am_str k).length ≤ 8 := by decide
theorem tX5_hasWord {σ : am_M} {t k s e : Nat} {b : Nat → Nat} {K : am_K} (ht : tp σ t b) (hk : k < 8) (hse : s ≤ e) (het : e ≤ t) (h : ((mw b s e (am_str k) = true) → K (some (.inl (1 : Int32))) σ) ∧ (¬ (mw b s e (am_str k) = true) → K (some (.inl (0 : Int32))) σ)) : sX5_hasWord [.inr (.inr (1, 0)), .inr (.inr (40, k)), .inl (nI s), .inl (nI e)] σ K := by
  have t160 := ht.1
  have l8 := am_str_8 k hk
  have e1 : nI e - nI s = nI (am_str k).length ↔ e - s = (am_str k).length := by rw [pk_sub hse, nI_eq (by omega) (by omega)]
  refine ⟨am_le rfl, fun X hX => b_hw0 hX k s e ?_⟩
  rw [e1]
  refine ⟨fun c => ?_, fun c => h.2 (fun q => c (mw_iff.1 q).1)⟩
  refine q_dn (W := fun i => s ≤ i → (∀ j, s + j < i → nI (b (s + j)) = (am_str k).getD j 0) → X 15 [some (.inr (.inr (1, 0))), some (.inr (.inr (40, k))), some (.inl (nI s)), some (.inl (nI e)), some (.inl (nI i))] [] σ) (n := e) (fun i hi IH si ha => ?_) (fun _ ha => ?_) s hse (Nat.le_refl _) (fun j hj => absurd hj (by omega))
  · refine b_hw15 hX k s e i ?_
    have ts := tp_sg ht (i := i) (by omega)
    rw [if_pos (by omega)] at ts
    rw [nI_leI (by omega) (by omega), pk_sub si, nI_clamp (by omega), ts, show nI i + (1 : Int32) = nI (i + 1) from nI_add i 1]
    refine ⟨fun q => absurd q (by omega), fun _ => ⟨tp_ok ht, q_in (by omega) (by omega), fun d => IH (by omega) fun j hj => ?_, fun d => h.2 fun q => d ?_⟩⟩
    · by_cases ej : s + j = i
      · rw [ej, d]
        congr 1
        omega
      · exact ha j (by omega)
    · have := (mw_iff.1 q).2 (i - s) (by omega)
      rw [show s + (i - s) = i by omega] at this
      exact this
  · exact b_hw15 hX k s e e ⟨fun _ => h.1 (mw_iff.2 ⟨c, fun j hj => ha j (by omega)⟩), fun q => absurd (nI_le (Nat.le_refl _) (by omega)) q⟩
theorem tX1_isWord {σ : am_M} {t k s e : Nat} {b : Nat → Nat} {K : am_K} (ht : tp σ t b) (hk : k < 8) (h6 : σ 6 0 6 = nI s) (h7 : σ 6 0 7 = nI e) (hse : s ≤ e) (het : e ≤ t) (h : K (some (.inl (bI (mw b s e (am_str k))))) σ) : sX1_isWord [.inr (.inr (6, 0)), .inr (.inr (40, k))] σ K := by
  refine ⟨am_le rfl, fun X hX => b_iw0w hX k ?_⟩
  rw [h6, h7]
  refine tX5_hasWord ht hk hse het ⟨fun c => ?_, fun c => ?_⟩
  · rw [c] at h
    exact b_iw16 hX k _ ⟨rfl, h⟩
  · rw [Bool.eq_false_iff.mpr c] at h
    exact b_iw16 hX k _ ⟨rfl, h⟩
/-- which word is at a place: plain, liar, admiral, nameless, jack, seats, cost, here, none of them -/
def wi (n : Nat) : Nat := if n < 5 then n + 3 else n - 5
def nm (b : Nat → Nat) (s e : Nat) : Nat := if mw b s e (am_str 3) then 0 else if mw b s e (am_str 4) then 1 else if mw b s e (am_str 5) then 2 else if mw b s e (am_str 6) then 3 else if mw b s e (am_str 7) then 4 else if mw b s e (am_str 0) then 5 else if mw b s e (am_str 1) then 6 else if mw b s e (am_str 2) then 7 else 8
theorem am_str_ne : ∀ k, k < 8 → ∀ k', k' < 8 → am_str k = am_str k' → k = k' := by decide
theorem mw_no {b : Nat → Nat} {s e k k' : Nat} (hk : k < 8) (hk' : k' < 8) (hn : k ≠ k') (h : mw b s e (am_str k) = true) : mw b s e (am_str k') = false := by
  cases c : mw b s e (am_str k')
  · rfl
  · exact absurd (am_str_ne k hk k' hk' (mw_one h c)) hn
theorem nm_of {b : Nat → Nat} {s e : Nat} : ∀ {n : Nat}, n < 8 → mw b s e (am_str (wi n)) = true → nm b s e = n := by
  intro n hn h
  have no : ∀ k', k' < 8 → wi n ≠ k' → mw b s e (am_str k') = false := fun k' hk' hne => mw_no (by unfold wi; split <;> omega) hk' hne h
  unfold nm
  rcases (by omega : n = 0 ∨ n = 1 ∨ n = 2 ∨ n = 3 ∨ n = 4 ∨ n = 5 ∨ n = 6 ∨ n = 7) with e | e | e | e | e | e | e | e <;> subst e
  · exact if_pos h
  · rw [no 3 (by decide) (by decide), if_neg (by decide)]
    exact if_pos h
  · rw [no 3 (by decide) (by decide), no 4 (by decide) (by decide), if_neg (by decide), if_neg (by decide)]
    exact if_pos h
  · rw [no 3 (by decide) (by decide), no 4 (by decide) (by decide), no 5 (by decide) (by decide), if_neg (by decide), if_neg (by decide), if_neg (by decide)]
    exact if_pos h
  · rw [no 3 (by decide) (by decide), no 4 (by decide) (by decide), no 5 (by decide) (by decide), no 6 (by decide) (by decide), if_neg (by decide), if_neg (by decide), if_neg (by decide), if_neg (by decide)]
    exact if_pos h
  · rw [no 3 (by decide) (by decide), no 4 (by decide) (by decide), no 5 (by decide) (by decide), no 6 (by decide) (by decide), no 7 (by decide) (by decide), if_neg (by decide), if_neg (by decide), if_neg (by decide), if_neg (by decide), if_neg (by decide)]
    exact if_pos h
  · rw [no 3 (by decide) (by decide), no 4 (by decide) (by decide), no 5 (by decide) (by decide), no 6 (by decide) (by decide), no 7 (by decide) (by decide), no 0 (by decide) (by decide), if_neg (by decide), if_neg (by decide), if_neg (by decide), if_neg (by decide), if_neg (by decide), if_neg (by decide)]
    exact if_pos h
  · rw [no 3 (by decide) (by decide), no 4 (by decide) (by decide), no 5 (by decide) (by decide), no 6 (by decide) (by decide), no 7 (by decide) (by decide), no 0 (by decide) (by decide), no 1 (by decide) (by decide), if_neg (by decide), if_neg (by decide), if_neg (by decide), if_neg (by decide), if_neg (by decide), if_neg (by decide), if_neg (by decide)]
    exact if_pos h
theorem nm_le (b : Nat → Nat) (s e : Nat) : nm b s e ≤ 8 := by
  unfold nm
  repeat' split
  all_goals decide
theorem nm_wi {b : Nat → Nat} {s e : Nat} (h : nm b s e < 8) : mw b s e (am_str (wi (nm b s e))) = true := by
  unfold nm at h ⊢
  by_cases c3 : mw b s e (am_str 3) = true
  · rw [if_pos c3]
    exact c3
  rw [if_neg c3] at h ⊢
  by_cases c4 : mw b s e (am_str 4) = true
  · rw [if_pos c4]
    exact c4
  rw [if_neg c4] at h ⊢
  by_cases c5 : mw b s e (am_str 5) = true
  · rw [if_pos c5]
    exact c5
  rw [if_neg c5] at h ⊢
  by_cases c6 : mw b s e (am_str 6) = true
  · rw [if_pos c6]
    exact c6
  rw [if_neg c6] at h ⊢
  by_cases c7 : mw b s e (am_str 7) = true
  · rw [if_pos c7]
    exact c7
  rw [if_neg c7] at h ⊢
  by_cases c0 : mw b s e (am_str 0) = true
  · rw [if_pos c0]
    exact c0
  rw [if_neg c0] at h ⊢
  by_cases c1 : mw b s e (am_str 1) = true
  · rw [if_pos c1]
    exact c1
  rw [if_neg c1] at h ⊢
  by_cases c2 : mw b s e (am_str 2) = true
  · rw [if_pos c2]
    exact c2
  rw [if_neg c2] at h
  omega
theorem nm_no {b : Nat → Nat} {s e n : Nat} (hn : n < 8) (h : nm b s e ≠ n) : mw b s e (am_str (wi n)) = false := by
  cases c : mw b s e (am_str (wi n))
  · rfl
  · exact absurd (nm_of hn c) h
theorem tX1_kindNamed {σ : am_M} {t s e : Nat} {b : Nat → Nat} {K : am_K} (ht : tp σ t b) (h6 : σ 6 0 6 = nI s) (h7 : σ 6 0 7 = nI e) (hse : s ≤ e) (het : e ≤ t) (h : K (some (.inl (if nm b s e < 5 then nI (nm b s e) else -4))) σ) : sX1_kindNamed [.inr (.inr (6, 0))] σ K := by
  refine ⟨am_le rfl, fun X hX => b_kn0 hX (tX1_isWord ht (by decide) h6 h7 hse het (b_kn6 hX _ ?_))⟩
  rw [bI_0]
  have yes : ∀ n, n < 5 → mw b s e (am_str (wi n)) = true → K (some (.inl (nI n))) σ := fun n hn c => by
    have e := nm_of (by omega) c
    rw [e, if_pos hn] at h
    exact h
  refine ⟨fun c0 => tX1_isWord ht (by decide) h6 h7 hse het (b_kn17 hX _ ?_), fun c => yes 0 (by decide) ((Bool.eq_false_or_eq_true _).resolve_right c)⟩
  rw [bI_0]
  refine ⟨fun c1 => tX1_isWord ht (by decide) h6 h7 hse het (b_kn28 hX _ ?_), fun c => yes 1 (by decide) ((Bool.eq_false_or_eq_true _).resolve_right c)⟩
  rw [bI_0]
  refine ⟨fun c2 => tX1_isWord ht (by decide) h6 h7 hse het (b_kn39 hX _ ?_), fun c => yes 2 (by decide) ((Bool.eq_false_or_eq_true _).resolve_right c)⟩
  rw [bI_0]
  refine ⟨fun c3 => tX1_isWord ht (by decide) h6 h7 hse het (b_kn50 hX _ ?_), fun c => yes 3 (by decide) ((Bool.eq_false_or_eq_true _).resolve_right c)⟩
  rw [bI_0]
  refine ⟨fun c4 => ?_, fun c => yes 4 (by decide) ((Bool.eq_false_or_eq_true _).resolve_right c)⟩
  have : ¬ nm b s e < 5 := fun q => by
    have w := nm_wi (b := b) (s := s) (e := e) (by omega)
    rcases (by omega : nm b s e = 0 ∨ nm b s e = 1 ∨ nm b s e = 2 ∨ nm b s e = 3 ∨ nm b s e = 4) with g | g | g | g | g <;> rw [g] at w
    · exact absurd (w.symm.trans c0) (by decide)
    · exact absurd (w.symm.trans c1) (by decide)
    · exact absurd (w.symm.trans c2) (by decide)
    · exact absurd (w.symm.trans c3) (by decide)
    · exact absurd (w.symm.trans c4) (by decide)
  rw [if_neg this] at h
  exact h
/-- a number, a stop, from a place on: a fault and where, or what it is and where it ends -/
def nuR (b : Nat → Nat) (t lo hi sm i : Nat) : (Nat × Nat) ⊕ (Nat × Nat) := if tkB b t i = true then .inl (1, tkS b t i) else if ¬ tkK b t i = 2 then .inl (2, tkS b t i) else if tkV b t i < lo ∨ hi < tkV b t i then .inl (3, tkS b t i) else if sm.testBit (tkV b t i) = true then .inl (4, tkS b t i) else .inr (tkV b t i, tkE b t i)
def stR (b : Nat → Nat) (t i : Nat) : (Nat × Nat) ⊕ Nat := if tkB b t i = true then .inl (1, tkS b t i) else if ¬ tkK b t i = 3 then .inl (2, tkS b t i) else .inr (tkE b t i)
theorem nuR_b {b : Nat → Nat} {t lo hi sm i x e : Nat} (h : nuR b t lo hi sm i = .inr (x, e)) (hi' : i ≤ t) : lo ≤ x ∧ x ≤ hi ∧ sm.testBit x = false ∧ e ≤ t ∧ i < e ∧ tkK b t i = 2 ∧ x = tkV b t i ∧ e = tkE b t i := by
  have sb := tkS_b (b := b) hi'
  have eb := tkE_b (b := b) hi'
  unfold nuR at h
  by_cases c0 : tkB b t i = true
  · rw [if_pos c0] at h
    cases h
  rw [if_neg c0] at h
  by_cases c1 : tkK b t i = 2
  · rw [if_neg (fun q => q c1)] at h
    by_cases c2 : tkV b t i < lo ∨ hi < tkV b t i
    · rw [if_pos c2] at h
      cases h
    rw [if_neg c2] at h
    by_cases c3 : sm.testBit (tkV b t i) = true
    · rw [if_pos c3] at h
      cases h
    rw [if_neg c3] at h
    have h' := Sum.inr.inj h
    have h1 : tkV b t i = x := congrArg Prod.fst h'
    have h2 : tkE b t i = e := congrArg Prod.snd h'
    have e3 := eb.2.2 (by omega)
    refine ⟨by omega, by omega, by rw [← h1]; simpa using c3, by omega, by omega, c1, h1.symm, h2.symm⟩
  · rw [if_pos c1] at h
    cases h
theorem stR_b {b : Nat → Nat} {t i e : Nat} (h : stR b t i = .inr e) (hi' : i ≤ t) : e ≤ t ∧ i < e := by
  have sb := tkS_b (b := b) hi'
  have eb := tkE_b (b := b) hi'
  unfold stR at h
  by_cases c0 : tkB b t i = true
  · rw [if_pos c0] at h
    cases h
  rw [if_neg c0] at h
  by_cases c1 : tkK b t i = 3
  · rw [if_neg (fun q => q c1)] at h
    have h' := Sum.inr.inj h
    have e3 := eb.2.2 (by omega)
    omega
  · rw [if_pos c1] at h
    cases h
theorem tX1_takeNumber {σ : am_M} {t lo hi i : Nat} {b : Nat → Nat} {K : am_K} (ht : tp σ t b) (hp : σ 6 0 7 = nI i) (hit : i ≤ t) (hlo : lo ≤ 100) (hhi : hi ≤ 100) (h0 : ∀ c q, nuR b t lo hi 0 i = .inl (c, q) → ∀ τ, d6 σ τ → τ 6 0 3 = nI c → τ 6 0 4 = nI q → K (some (.inl (0 : Int32))) τ) (h1 : ∀ x e, nuR b t lo hi 0 i = .inr (x, e) → ∀ τ, d6 σ τ → τ 6 0 3 = σ 6 0 3 → τ 6 0 6 = nI (tkS b t i) → τ 6 0 7 = nI (tkE b t i) → K (some (.inl (1 : Int32))) τ) : sX1_takeNumber [.inr (.inr (6, 0)), .inl (nI lo), .inl (nI hi)] σ K := by
  unfold nuR at h0 h1
  have sb := tkS_b (b := b) hit
  have t160 := ht.1
  refine ⟨am_le rfl, fun X hX => b_tn0 hX _ _ (tX1_takeToken ht hp hit (fun c0 τ dd e3 e5 e6 e7 => b_tn4 hX _ _ _ ⟨fun q => absurd q (by decide), fun _ => ?_⟩) (fun c0 τ dd e3 e4 => b_tn4 hX _ _ _ ⟨fun _ => ?_, fun q => absurd rfl q⟩))⟩
  · have k4 : tkK b t i ≤ 4 := by
      unfold tkK
      repeat' split
      all_goals decide
    rw [if_neg (by rw [c0]; decide)] at h0 h1
    rw [e5, show (nI (tkK b t i) = (2 : Int32) ↔ tkK b t i = 2) from nI_eq (b := 2) (by omega) (by decide), e6]
    refine ⟨fun c1 => ?_, fun c1 => ?_⟩
    · rw [if_neg (fun q => q c1)] at h0 h1
      have hv := tkV_le c1
      refine tX1_number (d6_tp dd ht) e6 e7 c1 (b_tn31 hX _ _ _ ?_)
      rw [nI_ltI (by omega) (by omega), nI_ltI (by omega) (by omega), e6]
      have bad : (tkV b t i < lo ∨ hi < tkV b t i) → K (some (.inl (0 : Int32))) (am_u (am_u τ 6 0 3 (3 : Int32)) 6 0 4 (nI (tkS b t i))) := fun c2 => by
        rw [if_pos c2] at h0
        exact h0 3 _ rfl _ (d6_u (d6_u dd (by decide) (by decide)) (by decide) (by decide)) rfl rfl
      refine ⟨fun c2 => bad (Or.inl c2), fun c2 => ⟨fun c3 => bad (Or.inr c3), fun c3 => ?_⟩⟩
      rw [if_neg (fun q => q.elim c2 c3), if_neg (by rw [Nat.zero_testBit]; decide)] at h1
      exact h1 _ _ rfl τ dd e3 e6 e7
    · rw [if_pos c1] at h0
      exact h0 2 _ rfl _ (d6_u (d6_u dd (by decide) (by decide)) (by decide) (by decide)) rfl rfl
  · rw [if_pos c0] at h0
    exact h0 1 _ rfl τ dd e3 e4
theorem tX1_takeStop {σ : am_M} {t i : Nat} {b : Nat → Nat} {K : am_K} (ht : tp σ t b) (hp : σ 6 0 7 = nI i) (hit : i ≤ t) (h0 : ∀ c q, stR b t i = .inl (c, q) → ∀ τ, d6 σ τ → τ 6 0 3 = nI c → τ 6 0 4 = nI q → K (some (.inl (0 : Int32))) τ) (h1 : ∀ e, stR b t i = .inr e → ∀ τ, d6 σ τ → τ 6 0 3 = σ 6 0 3 → τ 6 0 7 = nI e → K (some (.inl (1 : Int32))) τ) : sX1_takeStop [.inr (.inr (6, 0))] σ K := by
  unfold stR at h0 h1
  refine ⟨am_le rfl, fun X hX => b_tsp0 hX (tX1_takeToken ht hp hit (fun c0 τ dd e3 e5 e6 e7 => b_tsp4 hX _ ⟨fun q => absurd q (by decide), fun _ => ?_⟩) (fun c0 τ dd e3 e4 => b_tsp4 hX _ ⟨fun _ => ?_, fun q => absurd rfl q⟩))⟩
  · have k4 : tkK b t i ≤ 4 := by
      unfold tkK
      repeat' split
      all_goals decide
    rw [if_neg (by rw [c0]; decide)] at h0 h1
    rw [e5, show (nI (tkK b t i) = (3 : Int32) ↔ tkK b t i = 3) from nI_eq (b := 3) (by omega) (by decide), e6]
    refine ⟨fun c1 => ?_, fun c1 => ?_⟩
    · rw [if_neg (fun q => q c1)] at h1
      exact h1 _ rfl τ dd e3 e7
    · rw [if_pos c1] at h0
      exact h0 2 _ rfl _ (d6_u (d6_u dd (by decide) (by decide)) (by decide) (by decide)) rfl rfl
  · rw [if_pos c0] at h0
    exact h0 1 _ rfl τ dd e3 e4
