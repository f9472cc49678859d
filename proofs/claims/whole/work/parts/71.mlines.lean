/-! the text, to the reference: lines -/
set_option maxRecDepth 100000 in
set_option maxHeartbeats 400000 in
theorem b_rm0 {K : Option am_V → am_M → Prop} {X : Nat → am_L → List am_V → am_M → Prop} (hX : am_cl eX7_readMore lX7_readMore none K X) {σ : am_M} (n : Nat) (h : (((4 : Int32) < (nI n)) → (((nI n) = (5 : Int32)) → sX7_other [.inr (.inr (20, 0)), .inl (2 : Int32), .inl (5 : Int32), .inl (0 : Int32)] σ (fun vv tt => X 90 [some (.inr (.inr (20, 0))), some (.inl (nI n)), none, none] (vv.toList ++ [.inl (63 : Int32), .inr (.inr (22, 0))]) tt)) ∧ (¬ ((nI n) = (5 : Int32)) → (((nI n) = (6 : Int32)) → sX7_other [.inr (.inr (20, 0)), .inl (0 : Int32), .inl (9 : Int32), .inl (0 : Int32)] σ (fun vv tt => X 116 [some (.inr (.inr (20, 0))), some (.inl (nI n)), none, none] (vv.toList ++ [.inl (64 : Int32), .inr (.inr (22, 0))]) tt)) ∧ (¬ ((nI n) = (6 : Int32)) → sX7_other [.inr (.inr (20, 0)), .inl (0 : Int32), .inl (8 : Int32), .inl (σ 20 0 5)] σ (fun vv tt => X 156 [some (.inr (.inr (20, 0))), some (.inl (nI n)), none, none] (vv.toList ++ [.inl (1 : Int32), .inl (σ 20 0 5), .inr (.inr (20, 0))]) tt)))) ∧ (¬ ((4 : Int32) < (nI n)) → (vp_in ((7 : Int32) * (σ 20 0 3)) 68) ∧ (X 22 [some (.inr (.inr (20, 0))), some (.inl (nI n)), some (.inl ((7 : Int32) * (σ 20 0 3))), some (.inl (1 : Int32))] [] (am_u σ 22 0 ((7 : Int32) * (σ 20 0 3)).toNatClampNeg (nI n))))) : X 0 [some (.inr (.inr (20, 0))), some (.inl (nI n)), none, none] [] σ := am_run_ok emX7_readMore hX [22, 90, 116, 156] 400 (show (((4 : Int32) < (nI n)) → (((nI n) = (5 : Int32)) → 4 ≤ 6 ∧ 2 ≤ 8 ∧ True ∧ sX7_other [.inr (.inr (20, 0)), .inl (2 : Int32), .inl (5 : Int32), .inl (0 : Int32)] σ (fun vv tt => X 90 [some (.inr (.inr (20, 0))), some (.inl (nI n)), none, none] (vv.toList ++ [.inl (63 : Int32), .inr (.inr (22, 0))]) tt)) ∧ (¬ ((nI n) = (5 : Int32)) → (((nI n) = (6 : Int32)) → 4 ≤ 6 ∧ 2 ≤ 8 ∧ True ∧ sX7_other [.inr (.inr (20, 0)), .inl (0 : Int32), .inl (9 : Int32), .inl (0 : Int32)] σ (fun vv tt => X 116 [some (.inr (.inr (20, 0))), some (.inl (nI n)), none, none] (vv.toList ++ [.inl (64 : Int32), .inr (.inr (22, 0))]) tt)) ∧ (¬ ((nI n) = (6 : Int32)) → 4 ≤ 7 ∧ 3 ≤ 8 ∧ True ∧ sX7_other [.inr (.inr (20, 0)), .inl (0 : Int32), .inl (8 : Int32), .inl (σ 20 0 5)] σ (fun vv tt => X 156 [some (.inr (.inr (20, 0))), some (.inl (nI n)), none, none] (vv.toList ++ [.inl (1 : Int32), .inl (σ 20 0 5), .inr (.inr (20, 0))]) tt)))) ∧ (¬ ((4 : Int32) < (nI n)) → (vp_in ((7 : Int32) * (σ 20 0 3)) 68) ∧ (X 22 [some (.inr (.inr (20, 0))), some (.inl (nI n)), some (.inl ((7 : Int32) * (σ 20 0 3))), some (.inl (1 : Int32))] [] (am_u σ 22 0 ((7 : Int32) * (σ 20 0 3)).toNatClampNeg (nI n)))) from ⟨fun q0 => ⟨fun q1 => ⟨am_le rfl, am_le rfl, trivial, ((h.1 q0).1 q1)⟩, fun q1 => ⟨fun q2 => ⟨am_le rfl, am_le rfl, trivial, (((h.1 q0).2 q1).1 q2)⟩, fun q2 => ⟨am_le rfl, am_le rfl, trivial, (((h.1 q0).2 q1).2 q2)⟩⟩⟩, fun q0 => ⟨(h.2 q0).1, (h.2 q0).2⟩⟩)
set_option maxRecDepth 100000 in
set_option maxHeartbeats 400000 in
theorem b_rm22 {K : Option am_V → am_M → Prop} {X : Nat → am_L → List am_V → am_M → Prop} (hX : am_cl eX7_readMore lX7_readMore none K X) {σ : am_M} (n a w : Nat) (h : (((6 : Int32) ≤ (nI w)) → K none (am_u σ 20 0 3 ((σ 20 0 3) + (1 : Int32)))) ∧ (¬ ((6 : Int32) ≤ (nI w)) → (((4 : Int32) ≤ (nI w)) → sX7_other [.inr (.inr (20, 0)), .inl (0 : Int32), .inl (9 : Int32), .inl (0 : Int32)] σ (fun vv tt => X 52 [some (.inr (.inr (20, 0))), some (.inl (nI n)), some (.inl (nI a)), some (.inl (nI w))] (vv.toList ++ [.inl ((nI a) + (nI w)), .inr (.inr (22, 0))]) tt)) ∧ (¬ ((4 : Int32) ≤ (nI w)) → sX7_other [.inr (.inr (20, 0)), .inl (0 : Int32), .inl (5 : Int32), .inl (0 : Int32)] σ (fun vv tt => X 52 [some (.inr (.inr (20, 0))), some (.inl (nI n)), some (.inl (nI a)), some (.inl (nI w))] (vv.toList ++ [.inl ((nI a) + (nI w)), .inr (.inr (22, 0))]) tt)))) : X 22 [some (.inr (.inr (20, 0))), some (.inl (nI n)), some (.inl (nI a)), some (.inl (nI w))] [] σ := am_run_ok emX7_readMore hX [52] 400 (show (((6 : Int32) ≤ (nI w)) → K none (am_u σ 20 0 3 ((σ 20 0 3) + (1 : Int32)))) ∧ (¬ ((6 : Int32) ≤ (nI w)) → (((4 : Int32) ≤ (nI w)) → 4 ≤ 6 ∧ 2 ≤ 8 ∧ True ∧ sX7_other [.inr (.inr (20, 0)), .inl (0 : Int32), .inl (9 : Int32), .inl (0 : Int32)] σ (fun vv tt => X 52 [some (.inr (.inr (20, 0))), some (.inl (nI n)), some (.inl (nI a)), some (.inl (nI w))] (vv.toList ++ [.inl ((nI a) + (nI w)), .inr (.inr (22, 0))]) tt)) ∧ (¬ ((4 : Int32) ≤ (nI w)) → 4 ≤ 6 ∧ 2 ≤ 8 ∧ True ∧ sX7_other [.inr (.inr (20, 0)), .inl (0 : Int32), .inl (5 : Int32), .inl (0 : Int32)] σ (fun vv tt => X 52 [some (.inr (.inr (20, 0))), some (.inl (nI n)), some (.inl (nI a)), some (.inl (nI w))] (vv.toList ++ [.inl ((nI a) + (nI w)), .inr (.inr (22, 0))]) tt))) from ⟨fun q0 => (h.1 q0), fun q0 => ⟨fun q1 => ⟨am_le rfl, am_le rfl, trivial, ((h.2 q0).1 q1)⟩, fun q1 => ⟨am_le rfl, am_le rfl, trivial, ((h.2 q0).2 q1)⟩⟩⟩)
set_option maxRecDepth 100000 in
set_option maxHeartbeats 400000 in
theorem b_rm52 {K : Option am_V → am_M → Prop} {X : Nat → am_L → List am_V → am_M → Prop} (hX : am_cl eX7_readMore lX7_readMore none K X) {σ : am_M} (n a w : Nat) (v x : Int32) (h : (vp_in x 68) ∧ (X 22 [some (.inr (.inr (20, 0))), some (.inl (nI n)), some (.inl (nI a)), some (.inl ((nI w) + (1 : Int32)))] [] (am_u σ 22 0 x.toNatClampNeg v))) : X 52 [some (.inr (.inr (20, 0))), some (.inl (nI n)), some (.inl (nI a)), some (.inl (nI w))] [.inl v, .inl x, .inr (.inr (22, 0))] σ := am_run_ok emX7_readMore hX [22] 400 (show (vp_in x 68) ∧ (X 22 [some (.inr (.inr (20, 0))), some (.inl (nI n)), some (.inl (nI a)), some (.inl ((nI w) + (1 : Int32)))] [] (am_u σ 22 0 x.toNatClampNeg v)) from ⟨h.1, h.2⟩)
set_option maxRecDepth 100000 in
set_option maxHeartbeats 400000 in
theorem b_rm90 {K : Option am_V → am_M → Prop} {X : Nat → am_L → List am_V → am_M → Prop} (hX : am_cl eX7_readMore lX7_readMore none K X) {σ : am_M} (n : Nat) (v : Int32) (h : K none (am_u σ 22 0 63 (v - (3 : Int32)))) : X 90 [some (.inr (.inr (20, 0))), some (.inl (nI n)), none, none] [.inl v, .inl (63 : Int32), .inr (.inr (22, 0))] σ := am_run_ok emX7_readMore hX [] 400 (show (vp_in (63 : Int32) 68) ∧ (K none (am_u σ 22 0 63 (v - (3 : Int32)))) from ⟨am_ci (by decide), h⟩)
set_option maxRecDepth 100000 in
set_option maxHeartbeats 400000 in
theorem b_rm116 {K : Option am_V → am_M → Prop} {X : Nat → am_L → List am_V → am_M → Prop} (hX : am_cl eX7_readMore lX7_readMore none K X) {σ : am_M} (n : Nat) (v : Int32) (h : sX7_other [.inr (.inr (20, 0)), .inl (0 : Int32), .inl (9 : Int32), .inl (0 : Int32)] (am_u σ 22 0 64 (v - (1 : Int32))) (fun vv tt => X 133 [some (.inr (.inr (20, 0))), some (.inl (nI n)), none, none] (vv.toList ++ [.inl (65 : Int32), .inr (.inr (22, 0))]) tt)) : X 116 [some (.inr (.inr (20, 0))), some (.inl (nI n)), none, none] [.inl v, .inl (64 : Int32), .inr (.inr (22, 0))] σ := am_run_ok emX7_readMore hX [133] 400 (show (vp_in (64 : Int32) 68) ∧ (4 ≤ 6 ∧ 2 ≤ 8 ∧ True ∧ sX7_other [.inr (.inr (20, 0)), .inl (0 : Int32), .inl (9 : Int32), .inl (0 : Int32)] (am_u σ 22 0 64 (v - (1 : Int32))) (fun vv tt => X 133 [some (.inr (.inr (20, 0))), some (.inl (nI n)), none, none] (vv.toList ++ [.inl (65 : Int32), .inr (.inr (22, 0))]) tt)) from ⟨am_ci (by decide), ⟨am_le rfl, am_le rfl, trivial, h⟩⟩)
set_option maxRecDepth 100000 in
set_option maxHeartbeats 400000 in
theorem b_rm133 {K : Option am_V → am_M → Prop} {X : Nat → am_L → List am_V → am_M → Prop} (hX : am_cl eX7_readMore lX7_readMore none K X) {σ : am_M} (n : Nat) (v : Int32) (h : K none (am_u σ 22 0 65 (v - (1 : Int32)))) : X 133 [some (.inr (.inr (20, 0))), some (.inl (nI n)), none, none] [.inl v, .inl (65 : Int32), .inr (.inr (22, 0))] σ := am_run_ok emX7_readMore hX [] 400 (show (vp_in (65 : Int32) 68) ∧ (K none (am_u σ 22 0 65 (v - (1 : Int32)))) from ⟨am_ci (by decide), h⟩)
set_option maxRecDepth 100000 in
set_option maxHeartbeats 400000 in
theorem b_rm156 {K : Option am_V → am_M → Prop} {X : Nat → am_L → List am_V → am_M → Prop} (hX : am_cl eX7_readMore lX7_readMore none K X) {σ : am_M} (n : Nat) (v w : Int32) (h : K none (am_u σ 20 0 5 (w ||| ((1 : Int32) <<< (v &&& 31))))) : X 156 [some (.inr (.inr (20, 0))), some (.inl (nI n)), none, none] [.inl v, .inl (1 : Int32), .inl w, .inr (.inr (20, 0))] σ := am_run_ok emX7_readMore hX [] 400 (show K none (am_u σ 20 0 5 (w ||| ((1 : Int32) <<< (v &&& 31)))) from h)
set_option maxRecDepth 100000 in
set_option maxHeartbeats 400000 in
theorem b_rl0 {K : Option am_V → am_M → Prop} {X : Nat → am_L → List am_V → am_M → Prop} (hX : am_cl eX7_readLine lX7_readLine none K X) {σ : am_M}  (h : sX7_nameHere [.inr (.inr (20, 0))] σ (fun vv tt => X 4 [some (.inr (.inr (20, 0))), none] (vv.toList ++ []) tt)) : X 0 [some (.inr (.inr (20, 0))), none] [] σ := am_run_ok emX7_readLine hX [4] 400 (show 1 ≤ 1 ∧ 0 ≤ 8 ∧ True ∧ sX7_nameHere [.inr (.inr (20, 0))] σ (fun vv tt => X 4 [some (.inr (.inr (20, 0))), none] (vv.toList ++ []) tt) from ⟨am_le rfl, am_le rfl, trivial, h⟩)
set_option maxRecDepth 100000 in
set_option maxHeartbeats 400000 in
theorem b_rl4 {K : Option am_V → am_M → Prop} {X : Nat → am_L → List am_V → am_M → Prop} (hX : am_cl eX7_readLine lX7_readLine none K X) {σ : am_M} (v : Int32) (h : ((v < (0 : Int32)) → (((σ 20 0 9) = (0 : Int32)) → K none (am_u (am_u σ 20 0 9 (2 : Int32)) 20 0 10 (σ 20 0 12))) ∧ (¬ ((σ 20 0 9) = (0 : Int32)) → K none σ)) ∧ (¬ (v < (0 : Int32)) → (((7 : Int32) < v) → (((σ 20 0 9) = (0 : Int32)) → K none (am_u (am_u σ 20 0 9 (2 : Int32)) 20 0 10 (σ 20 0 12))) ∧ (¬ ((σ 20 0 9) = (0 : Int32)) → K none σ)) ∧ (¬ ((7 : Int32) < v) → X 23 [some (.inr (.inr (20, 0))), some (.inl v)] [] σ))) : X 4 [some (.inr (.inr (20, 0))), none] [.inl v] σ := am_run_ok emX7_readLine hX [23] 400 (show 3 ≤ 3 ∧ 0 ≤ 8 ∧ sX7_in [.inr (.inl (v).toInt64), .inr (.inl (0 : Int64)), .inr (.inl (7 : Int64))] σ (fun vv tt => am_run eX7_readLine lX7_readLine none K X [23] 394 14 [some (.inr (.inr (20, 0))), some (.inl v)] (vv.toList ++ []) tt) from ⟨am_le rfl, am_le rfl, uX7_in (v := v) (a := (0 : Int32)) (b := (7 : Int32)) (⟨fun q0 => (show (((0 : Int32) = (0 : Int32)) → 2 ≤ 2 ∧ 0 ≤ 8 ∧ True ∧ sX7_fails [.inr (.inr (20, 0)), .inl (2 : Int32)] σ (fun vv tt => am_run eX7_readLine lX7_readLine none K X [23] 390 22 [some (.inr (.inr (20, 0))), some (.inl v)] (vv.toList ++ []) tt)) ∧ (¬ ((0 : Int32) = (0 : Int32)) → _) from ⟨fun _ => ⟨am_le rfl, am_le rfl, trivial, tX7_fails (⟨fun q1 => (show K none (am_u (am_u σ 20 0 9 (2 : Int32)) 20 0 10 (σ 20 0 12)) from ((h.1 q0).1 q1)), fun q1 => (show K none σ from ((h.1 q0).2 q1))⟩)⟩, fun q => absurd (by decide) q⟩), fun q0 => ⟨fun q1 => (show (((0 : Int32) = (0 : Int32)) → 2 ≤ 2 ∧ 0 ≤ 8 ∧ True ∧ sX7_fails [.inr (.inr (20, 0)), .inl (2 : Int32)] σ (fun vv tt => am_run eX7_readLine lX7_readLine none K X [23] 390 22 [some (.inr (.inr (20, 0))), some (.inl v)] (vv.toList ++ []) tt)) ∧ (¬ ((0 : Int32) = (0 : Int32)) → _) from ⟨fun _ => ⟨am_le rfl, am_le rfl, trivial, tX7_fails (⟨fun q2 => (show K none (am_u (am_u σ 20 0 9 (2 : Int32)) 20 0 10 (σ 20 0 12)) from (((h.2 q0).1 q1).1 q2)), fun q2 => (show K none σ from (((h.2 q0).1 q1).2 q2))⟩)⟩, fun q => absurd (by decide) q⟩), fun q1 => (show (((1 : Int32) = (0 : Int32)) → _) ∧ (¬ ((1 : Int32) = (0 : Int32)) → X 23 [some (.inr (.inr (20, 0))), some (.inl v)] [] σ) from ⟨fun q => absurd q (by decide), fun _ => ((h.2 q0).2 q1)⟩)⟩⟩)⟩)
set_option maxRecDepth 100000 in
set_option maxHeartbeats 400000 in
theorem b_rl23 {K : Option am_V → am_M → Prop} {X : Nat → am_L → List am_V → am_M → Prop} (hX : am_cl eX7_readLine lX7_readLine none K X) {σ : am_M} (n : Nat) (h : (((4 : Int32) < (nI n)) → X 42 [some (.inr (.inr (20, 0))), some (.inl (nI n))] [] σ) ∧ (¬ ((4 : Int32) < (nI n)) → (((σ 20 0 3) = (9 : Int32)) → (((σ 20 0 9) = (0 : Int32)) → X 42 [some (.inr (.inr (20, 0))), some (.inl (nI n))] [] (am_u (am_u σ 20 0 9 (5 : Int32)) 20 0 10 (σ 20 0 12))) ∧ (¬ ((σ 20 0 9) = (0 : Int32)) → X 42 [some (.inr (.inr (20, 0))), some (.inl (nI n))] [] σ)) ∧ (¬ ((σ 20 0 3) = (9 : Int32)) → X 42 [some (.inr (.inr (20, 0))), some (.inl (nI n))] [] σ))) : X 23 [some (.inr (.inr (20, 0))), some (.inl (nI n))] [] σ := am_run_ok emX7_readLine hX [42] 400 (show (((4 : Int32) < (nI n)) → X 42 [some (.inr (.inr (20, 0))), some (.inl (nI n))] [] σ) ∧ (¬ ((4 : Int32) < (nI n)) → (((σ 20 0 3) = (9 : Int32)) → 2 ≤ 2 ∧ 0 ≤ 8 ∧ True ∧ sX7_fails [.inr (.inr (20, 0)), .inl (5 : Int32)] σ (fun vv tt => X 42 [some (.inr (.inr (20, 0))), some (.inl (nI n))] (vv.toList ++ []) tt)) ∧ (¬ ((σ 20 0 3) = (9 : Int32)) → X 42 [some (.inr (.inr (20, 0))), some (.inl (nI n))] [] σ)) from ⟨fun q0 => (h.1 q0), fun q0 => ⟨fun q1 => ⟨am_le rfl, am_le rfl, trivial, tX7_fails (⟨fun q2 => (show X 42 [some (.inr (.inr (20, 0))), some (.inl (nI n))] [] (am_u (am_u σ 20 0 9 (5 : Int32)) 20 0 10 (σ 20 0 12)) from (((h.2 q0).1 q1).1 q2)), fun q2 => (show X 42 [some (.inr (.inr (20, 0))), some (.inl (nI n))] [] σ from (((h.2 q0).1 q1).2 q2))⟩)⟩, fun q1 => ((h.2 q0).2 q1)⟩⟩)
set_option maxRecDepth 100000 in
set_option maxHeartbeats 400000 in
theorem b_rl42 {K : Option am_V → am_M → Prop} {X : Nat → am_L → List am_V → am_M → Prop} (hX : am_cl eX7_readLine lX7_readLine none K X) {σ : am_M} (n : Nat) (h : (((nI n) < (5 : Int32)) → X 73 [some (.inr (.inr (20, 0))), some (.inl (nI n))] [] σ) ∧ (¬ ((nI n) < (5 : Int32)) → (((6 : Int32) < (nI n)) → X 73 [some (.inr (.inr (20, 0))), some (.inl (nI n))] [] σ) ∧ (¬ ((6 : Int32) < (nI n)) → (((((σ 20 0 4) >>> ((nI n) &&& 31)) &&& (1 : Int32)) = (1 : Int32)) → (((σ 20 0 9) = (0 : Int32)) → X 73 [some (.inr (.inr (20, 0))), some (.inl (nI n))] [] (am_u (am_u σ 20 0 9 (4 : Int32)) 20 0 10 (σ 20 0 12))) ∧ (¬ ((σ 20 0 9) = (0 : Int32)) → X 73 [some (.inr (.inr (20, 0))), some (.inl (nI n))] [] σ)) ∧ (¬ ((((σ 20 0 4) >>> ((nI n) &&& 31)) &&& (1 : Int32)) = (1 : Int32)) → X 73 [some (.inr (.inr (20, 0))), some (.inl (nI n))] [] σ)))) : X 42 [some (.inr (.inr (20, 0))), some (.inl (nI n))] [] σ := am_run_ok emX7_readLine hX [73] 400 (show 3 ≤ 3 ∧ 0 ≤ 8 ∧ sX7_in [.inr (.inl ((nI n)).toInt64), .inr (.inl (5 : Int64)), .inr (.inl (6 : Int64))] σ (fun vv tt => am_run eX7_readLine lX7_readLine none K X [73] 395 53 [some (.inr (.inr (20, 0))), some (.inl (nI n))] (vv.toList ++ []) tt) from ⟨am_le rfl, am_le rfl, uX7_in (v := (nI n)) (a := (5 : Int32)) (b := (6 : Int32)) (⟨fun q0 => (show (((0 : Int32) = (0 : Int32)) → X 73 [some (.inr (.inr (20, 0))), some (.inl (nI n))] [] σ) ∧ (¬ ((0 : Int32) = (0 : Int32)) → _) from ⟨fun _ => (h.1 q0), fun q => absurd (by decide) q⟩), fun q0 => ⟨fun q1 => (show (((0 : Int32) = (0 : Int32)) → X 73 [some (.inr (.inr (20, 0))), some (.inl (nI n))] [] σ) ∧ (¬ ((0 : Int32) = (0 : Int32)) → _) from ⟨fun _ => ((h.2 q0).1 q1), fun q => absurd (by decide) q⟩), fun q1 => (show (((1 : Int32) = (0 : Int32)) → _) ∧ (¬ ((1 : Int32) = (0 : Int32)) → (((((σ 20 0 4) >>> ((nI n) &&& 31)) &&& (1 : Int32)) = (1 : Int32)) → 2 ≤ 2 ∧ 0 ≤ 8 ∧ True ∧ sX7_fails [.inr (.inr (20, 0)), .inl (4 : Int32)] σ (fun vv tt => X 73 [some (.inr (.inr (20, 0))), some (.inl (nI n))] (vv.toList ++ []) tt)) ∧ (¬ ((((σ 20 0 4) >>> ((nI n) &&& 31)) &&& (1 : Int32)) = (1 : Int32)) → X 73 [some (.inr (.inr (20, 0))), some (.inl (nI n))] [] σ)) from ⟨fun q => absurd q (by decide), fun _ => ⟨fun q2 => ⟨am_le rfl, am_le rfl, trivial, tX7_fails (⟨fun q3 => (show X 73 [some (.inr (.inr (20, 0))), some (.inl (nI n))] [] (am_u (am_u σ 20 0 9 (4 : Int32)) 20 0 10 (σ 20 0 12)) from ((((h.2 q0).2 q1).1 q2).1 q3)), fun q3 => (show X 73 [some (.inr (.inr (20, 0))), some (.inl (nI n))] [] σ from ((((h.2 q0).2 q1).1 q2).2 q3))⟩)⟩, fun q2 => (((h.2 q0).2 q1).2 q2)⟩⟩)⟩⟩)⟩)
set_option maxRecDepth 100000 in
set_option maxHeartbeats 400000 in
theorem b_rl73 {K : Option am_V → am_M → Prop} {X : Nat → am_L → List am_V → am_M → Prop} (hX : am_cl eX7_readLine lX7_readLine none K X) {σ : am_M} (n : Nat) (h : sX7_step [.inr (.inr (20, 0))] (am_u σ 20 0 4 ((σ 20 0 4) ||| ((1 : Int32) <<< ((nI n) &&& 31)))) (fun vv tt => X 89 [some (.inr (.inr (20, 0))), some (.inl (nI n))] (vv.toList ++ []) tt)) : X 73 [some (.inr (.inr (20, 0))), some (.inl (nI n))] [] σ := am_run_ok emX7_readLine hX [89] 400 (show 1 ≤ 1 ∧ 0 ≤ 8 ∧ True ∧ sX7_step [.inr (.inr (20, 0))] (am_u σ 20 0 4 ((σ 20 0 4) ||| ((1 : Int32) <<< ((nI n) &&& 31)))) (fun vv tt => X 89 [some (.inr (.inr (20, 0))), some (.inl (nI n))] (vv.toList ++ []) tt) from ⟨am_le rfl, am_le rfl, trivial, h⟩)
set_option maxRecDepth 100000 in
set_option maxHeartbeats 400000 in
theorem b_rl89 {K : Option am_V → am_M → Prop} {X : Nat → am_L → List am_V → am_M → Prop} (hX : am_cl eX7_readLine lX7_readLine none K X) {σ : am_M} (n : Nat) (h : (((σ 20 0 9) ≤ (0 : Int32)) → sX7_readMore [.inr (.inr (20, 0)), .inl (nI n)] σ (fun vv tt => X 102 [some (.inr (.inr (20, 0))), some (.inl (nI n))] (vv.toList ++ []) tt)) ∧ (¬ ((σ 20 0 9) ≤ (0 : Int32)) → K none σ)) : X 89 [some (.inr (.inr (20, 0))), some (.inl (nI n))] [] σ := am_run_ok emX7_readLine hX [102] 400 (show (((σ 20 0 9) ≤ (0 : Int32)) → 2 ≤ 2 ∧ 0 ≤ 8 ∧ True ∧ sX7_readMore [.inr (.inr (20, 0)), .inl (nI n)] σ (fun vv tt => X 102 [some (.inr (.inr (20, 0))), some (.inl (nI n))] (vv.toList ++ []) tt)) ∧ (¬ ((σ 20 0 9) ≤ (0 : Int32)) → K none σ) from ⟨fun q0 => ⟨am_le rfl, am_le rfl, trivial, (h.1 q0)⟩, fun q0 => (h.2 q0)⟩)
set_option maxRecDepth 100000 in
set_option maxHeartbeats 400000 in
theorem b_rl102 {K : Option am_V → am_M → Prop} {X : Nat → am_L → List am_V → am_M → Prop} (hX : am_cl eX7_readLine lX7_readLine none K X) {σ : am_M} (n : Nat) (h : (((σ 20 0 9) = (0 : Int32)) → (((σ 20 0 13) = (3 : Int32)) → X 122 [some (.inr (.inr (20, 0))), some (.inl (nI n))] [] σ) ∧ (¬ ((σ 20 0 13) = (3 : Int32)) → (((σ 20 0 9) = (0 : Int32)) → X 122 [some (.inr (.inr (20, 0))), some (.inl (nI n))] [] (am_u (am_u σ 20 0 9 (2 : Int32)) 20 0 10 (σ 20 0 12))) ∧ (¬ ((σ 20 0 9) = (0 : Int32)) → X 122 [some (.inr (.inr (20, 0))), some (.inl (nI n))] [] σ))) ∧ (¬ ((σ 20 0 9) = (0 : Int32)) → X 122 [some (.inr (.inr (20, 0))), some (.inl (nI n))] [] σ)) : X 102 [some (.inr (.inr (20, 0))), some (.inl (nI n))] [] σ := am_run_ok emX7_readLine hX [122] 400 (show (((σ 20 0 9) = (0 : Int32)) → (((σ 20 0 13) = (3 : Int32)) → X 122 [some (.inr (.inr (20, 0))), some (.inl (nI n))] [] σ) ∧ (¬ ((σ 20 0 13) = (3 : Int32)) → 2 ≤ 2 ∧ 0 ≤ 8 ∧ True ∧ sX7_fails [.inr (.inr (20, 0)), .inl (2 : Int32)] σ (fun vv tt => X 122 [some (.inr (.inr (20, 0))), some (.inl (nI n))] (vv.toList ++ []) tt))) ∧ (¬ ((σ 20 0 9) = (0 : Int32)) → X 122 [some (.inr (.inr (20, 0))), some (.inl (nI n))] [] σ) from ⟨fun q0 => ⟨fun q1 => ((h.1 q0).1 q1), fun q1 => ⟨am_le rfl, am_le rfl, trivial, tX7_fails (⟨fun q2 => (show X 122 [some (.inr (.inr (20, 0))), some (.inl (nI n))] [] (am_u (am_u σ 20 0 9 (2 : Int32)) 20 0 10 (σ 20 0 12)) from (((h.1 q0).2 q1).1 q2)), fun q2 => (show X 122 [some (.inr (.inr (20, 0))), some (.inl (nI n))] [] σ from (((h.1 q0).2 q1).2 q2))⟩)⟩⟩, fun q0 => (h.2 q0)⟩)
set_option maxRecDepth 100000 in
set_option maxHeartbeats 400000 in
theorem b_rl122 {K : Option am_V → am_M → Prop} {X : Nat → am_L → List am_V → am_M → Prop} (hX : am_cl eX7_readLine lX7_readLine none K X) {σ : am_M} (n : Nat) (h : sX7_step [.inr (.inr (20, 0))] σ (fun vv tt => X 126 [some (.inr (.inr (20, 0))), some (.inl (nI n))] (vv.toList ++ []) tt)) : X 122 [some (.inr (.inr (20, 0))), some (.inl (nI n))] [] σ := am_run_ok emX7_readLine hX [126] 400 (show 1 ≤ 1 ∧ 0 ≤ 8 ∧ True ∧ sX7_step [.inr (.inr (20, 0))] σ (fun vv tt => X 126 [some (.inr (.inr (20, 0))), some (.inl (nI n))] (vv.toList ++ []) tt) from ⟨am_le rfl, am_le rfl, trivial, h⟩)
set_option maxRecDepth 100000 in
set_option maxHeartbeats 400000 in
theorem b_rl126 {K : Option am_V → am_M → Prop} {X : Nat → am_L → List am_V → am_M → Prop} (hX : am_cl eX7_readLine lX7_readLine none K X) {σ : am_M} (n : Nat) (h : K none σ) : X 126 [some (.inr (.inr (20, 0))), some (.inl (nI n))] [] σ := am_run_ok emX7_readLine hX [] 400 (show K none σ from h)
set_option maxRecDepth 100000 in
set_option maxHeartbeats 400000 in
theorem b_ty0 {K : Option am_V → am_M → Prop} {X : Nat → am_L → List am_V → am_M → Prop} (hX : am_cl eX7_text lX7_text (some .int) K X) {σ : am_M}  (h : X 29 [some (.inr (.inr (20, 0))), some (.inl (0 : Int32)), some (.inl (0 : Int32))] [] (am_u (am_u (am_u (am_u (am_u σ 20 0 9 (0 : Int32)) 20 0 11 (0 : Int32)) 20 0 3 (0 : Int32)) 20 0 4 (0 : Int32)) 20 0 5 (0 : Int32))) : X 0 [some (.inr (.inr (20, 0))), none, none] [] σ := am_run_ok emX7_text hX [29] 400 (show X 29 [some (.inr (.inr (20, 0))), some (.inl (0 : Int32)), some (.inl (0 : Int32))] [] (am_u (am_u (am_u (am_u (am_u σ 20 0 9 (0 : Int32)) 20 0 11 (0 : Int32)) 20 0 3 (0 : Int32)) 20 0 4 (0 : Int32)) 20 0 5 (0 : Int32)) from h)
set_option maxRecDepth 100000 in
set_option maxHeartbeats 400000 in
theorem b_ty29 {K : Option am_V → am_M → Prop} {X : Nat → am_L → List am_V → am_M → Prop} (hX : am_cl eX7_text lX7_text (some .int) K X) {σ : am_M} (k : Nat) (h : (((68 : Int32) ≤ (nI k)) → X 48 [some (.inr (.inr (20, 0))), some (.inl (0 : Int32)), some (.inl (nI k))] [] σ) ∧ (¬ ((68 : Int32) ≤ (nI k)) → (vp_in (nI k) 68) ∧ (X 29 [some (.inr (.inr (20, 0))), some (.inl (0 : Int32)), some (.inl ((nI k) + (1 : Int32)))] [] (am_u σ 22 0 (nI k).toNatClampNeg (0 : Int32))))) : X 29 [some (.inr (.inr (20, 0))), some (.inl (0 : Int32)), some (.inl (nI k))] [] σ := am_run_ok emX7_text hX [29, 48] 400 (show (((68 : Int32) ≤ (nI k)) → X 48 [some (.inr (.inr (20, 0))), some (.inl (0 : Int32)), some (.inl (nI k))] [] σ) ∧ (¬ ((68 : Int32) ≤ (nI k)) → (vp_in (nI k) 68) ∧ (X 29 [some (.inr (.inr (20, 0))), some (.inl (0 : Int32)), some (.inl ((nI k) + (1 : Int32)))] [] (am_u σ 22 0 (nI k).toNatClampNeg (0 : Int32)))) from ⟨fun q0 => (h.1 q0), fun q0 => ⟨(h.2 q0).1, (h.2 q0).2⟩⟩)
set_option maxRecDepth 100000 in
set_option maxHeartbeats 400000 in
theorem b_ty48 {K : Option am_V → am_M → Prop} {X : Nat → am_L → List am_V → am_M → Prop} (hX : am_cl eX7_text lX7_text (some .int) K X) {σ : am_M}  (h : sX7_step [.inr (.inr (20, 0))] σ (fun vv tt => X 52 [some (.inr (.inr (20, 0))), some (.inl (0 : Int32)), none] (vv.toList ++ []) tt)) : X 48 [some (.inr (.inr (20, 0))), some (.inl (0 : Int32)), none] [] σ := am_run_ok emX7_text hX [52] 400 (show 1 ≤ 1 ∧ 0 ≤ 8 ∧ True ∧ sX7_step [.inr (.inr (20, 0))] σ (fun vv tt => X 52 [some (.inr (.inr (20, 0))), some (.inl (0 : Int32)), none] (vv.toList ++ []) tt) from ⟨am_le rfl, am_le rfl, trivial, h⟩)
set_option maxRecDepth 100000 in
set_option maxHeartbeats 400000 in
theorem b_ty52 {K : Option am_V → am_M → Prop} {X : Nat → am_L → List am_V → am_M → Prop} (hX : am_cl eX7_text lX7_text (some .int) K X) {σ : am_M} (n : Nat) (h : (((σ 20 0 9) = (0 : Int32)) → (((σ 20 0 13) = (0 : Int32)) → X 76 [some (.inr (.inr (20, 0))), some (.inl (nI n)), none] [] σ) ∧ (¬ ((σ 20 0 13) = (0 : Int32)) → sX7_readLine [.inr (.inr (20, 0))] σ (fun vv tt => X 70 [some (.inr (.inr (20, 0))), some (.inl (nI n)), none] (vv.toList ++ []) tt))) ∧ (¬ ((σ 20 0 9) = (0 : Int32)) → X 76 [some (.inr (.inr (20, 0))), some (.inl (nI n)), none] [] σ)) : X 52 [some (.inr (.inr (20, 0))), some (.inl (nI n)), none] [] σ := am_run_ok emX7_text hX [70, 76] 400 (show (((σ 20 0 9) = (0 : Int32)) → (((σ 20 0 13) = (0 : Int32)) → X 76 [some (.inr (.inr (20, 0))), some (.inl (nI n)), none] [] σ) ∧ (¬ ((σ 20 0 13) = (0 : Int32)) → 1 ≤ 1 ∧ 0 ≤ 8 ∧ True ∧ sX7_readLine [.inr (.inr (20, 0))] σ (fun vv tt => X 70 [some (.inr (.inr (20, 0))), some (.inl (nI n)), none] (vv.toList ++ []) tt))) ∧ (¬ ((σ 20 0 9) = (0 : Int32)) → X 76 [some (.inr (.inr (20, 0))), some (.inl (nI n)), none] [] σ) from ⟨fun q0 => ⟨fun q1 => ((h.1 q0).1 q1), fun q1 => ⟨am_le rfl, am_le rfl, trivial, ((h.1 q0).2 q1)⟩⟩, fun q0 => (h.2 q0)⟩)
set_option maxRecDepth 100000 in
set_option maxHeartbeats 400000 in
theorem b_ty70 {K : Option am_V → am_M → Prop} {X : Nat → am_L → List am_V → am_M → Prop} (hX : am_cl eX7_text lX7_text (some .int) K X) {σ : am_M} (n : Nat) (h : X 52 [some (.inr (.inr (20, 0))), some (.inl ((nI n) + (1 : Int32))), none] [] σ) : X 70 [some (.inr (.inr (20, 0))), some (.inl (nI n)), none] [] σ := am_run_ok emX7_text hX [52] 400 (show X 52 [some (.inr (.inr (20, 0))), some (.inl ((nI n) + (1 : Int32))), none] [] σ from h)
set_option maxRecDepth 100000 in
set_option maxHeartbeats 400000 in
theorem b_ty76 {K : Option am_V → am_M → Prop} {X : Nat → am_L → List am_V → am_M → Prop} (hX : am_cl eX7_text lX7_text (some .int) K X) {σ : am_M} (n : Nat) (h : (((σ 20 0 9) = (0 : Int32)) → ((((σ 20 0 5) >>> ((σ 20 0 3) &&& 31)) = (0 : Int32)) → (((σ 20 0 9) ≤ (0 : Int32)) → X 131 [some (.inr (.inr (20, 0))), some (.inl (nI n)), some (.inl (0 : Int32))] [] (am_u (am_u σ 20 0 7 (0 : Int32)) 20 0 8 (σ 20 0 9))) ∧ (¬ ((σ 20 0 9) ≤ (0 : Int32)) → K (some (.inl ((-10 : Int32) - (σ 20 0 10)))) (am_u (am_u σ 20 0 7 (0 : Int32)) 20 0 8 (σ 20 0 9)))) ∧ (¬ (((σ 20 0 5) >>> ((σ 20 0 3) &&& 31)) = (0 : Int32)) → (((σ 20 0 9) = (0 : Int32)) → K (some (.inl ((-10 : Int32) - (σ 20 0 12)))) (am_u (am_u (am_u (am_u σ 20 0 9 (6 : Int32)) 20 0 10 (σ 20 0 12)) 20 0 7 (0 : Int32)) 20 0 8 (6 : Int32))) ∧ (¬ ((σ 20 0 9) = (0 : Int32)) → (((σ 20 0 9) ≤ (0 : Int32)) → X 131 [some (.inr (.inr (20, 0))), some (.inl (nI n)), some (.inl (0 : Int32))] [] (am_u (am_u σ 20 0 7 (0 : Int32)) 20 0 8 (σ 20 0 9))) ∧ (¬ ((σ 20 0 9) ≤ (0 : Int32)) → K (some (.inl ((-10 : Int32) - (σ 20 0 10)))) (am_u (am_u σ 20 0 7 (0 : Int32)) 20 0 8 (σ 20 0 9)))))) ∧ (¬ ((σ 20 0 9) = (0 : Int32)) → (((σ 20 0 9) ≤ (0 : Int32)) → X 131 [some (.inr (.inr (20, 0))), some (.inl (nI n)), some (.inl (0 : Int32))] [] (am_u (am_u σ 20 0 7 (0 : Int32)) 20 0 8 (σ 20 0 9))) ∧ (¬ ((σ 20 0 9) ≤ (0 : Int32)) → K (some (.inl ((-10 : Int32) - (σ 20 0 10)))) (am_u (am_u σ 20 0 7 (0 : Int32)) 20 0 8 (σ 20 0 9))))) : X 76 [some (.inr (.inr (20, 0))), some (.inl (nI n)), none] [] σ := am_run_ok emX7_text hX [131] 400 (show (((σ 20 0 9) = (0 : Int32)) → ((((σ 20 0 5) >>> ((σ 20 0 3) &&& 31)) = (0 : Int32)) → (((σ 20 0 9) ≤ (0 : Int32)) → X 131 [some (.inr (.inr (20, 0))), some (.inl (nI n)), some (.inl (0 : Int32))] [] (am_u (am_u σ 20 0 7 (0 : Int32)) 20 0 8 (σ 20 0 9))) ∧ (¬ ((σ 20 0 9) ≤ (0 : Int32)) → K (some (.inl ((-10 : Int32) - (σ 20 0 10)))) (am_u (am_u σ 20 0 7 (0 : Int32)) 20 0 8 (σ 20 0 9)))) ∧ (¬ (((σ 20 0 5) >>> ((σ 20 0 3) &&& 31)) = (0 : Int32)) → 2 ≤ 2 ∧ 0 ≤ 8 ∧ True ∧ sX7_fails [.inr (.inr (20, 0)), .inl (6 : Int32)] σ (fun vv tt => am_run eX7_text lX7_text (some .int) K X [131] 388 101 [some (.inr (.inr (20, 0))), some (.inl (nI n)), none] (vv.toList ++ []) tt))) ∧ (¬ ((σ 20 0 9) = (0 : Int32)) → (((σ 20 0 9) ≤ (0 : Int32)) → X 131 [some (.inr (.inr (20, 0))), some (.inl (nI n)), some (.inl (0 : Int32))] [] (am_u (am_u σ 20 0 7 (0 : Int32)) 20 0 8 (σ 20 0 9))) ∧ (¬ ((σ 20 0 9) ≤ (0 : Int32)) → K (some (.inl ((-10 : Int32) - (σ 20 0 10)))) (am_u (am_u σ 20 0 7 (0 : Int32)) 20 0 8 (σ 20 0 9)))) from ⟨fun q0 => ⟨fun q1 => ⟨fun q2 => (((h.1 q0).1 q1).1 q2), fun q2 => (((h.1 q0).1 q1).2 q2)⟩, fun q1 => ⟨am_le rfl, am_le rfl, trivial, tX7_fails (⟨fun q2 => (show (((6 : Int32) ≤ (0 : Int32)) → _) ∧ (¬ ((6 : Int32) ≤ (0 : Int32)) → K (some (.inl ((-10 : Int32) - (σ 20 0 12)))) (am_u (am_u (am_u (am_u σ 20 0 9 (6 : Int32)) 20 0 10 (σ 20 0 12)) 20 0 7 (0 : Int32)) 20 0 8 (6 : Int32))) from ⟨fun q => absurd q (by decide), fun _ => (((h.1 q0).2 q1).1 q2)⟩), fun q2 => (show (((σ 20 0 9) ≤ (0 : Int32)) → X 131 [some (.inr (.inr (20, 0))), some (.inl (nI n)), some (.inl (0 : Int32))] [] (am_u (am_u σ 20 0 7 (0 : Int32)) 20 0 8 (σ 20 0 9))) ∧ (¬ ((σ 20 0 9) ≤ (0 : Int32)) → K (some (.inl ((-10 : Int32) - (σ 20 0 10)))) (am_u (am_u σ 20 0 7 (0 : Int32)) 20 0 8 (σ 20 0 9))) from ⟨fun q3 => ((((h.1 q0).2 q1).2 q2).1 q3), fun q3 => ((((h.1 q0).2 q1).2 q2).2 q3)⟩)⟩)⟩⟩, fun q0 => ⟨fun q1 => ((h.2 q0).1 q1), fun q1 => ((h.2 q0).2 q1)⟩⟩)
set_option maxRecDepth 100000 in
set_option maxHeartbeats 400000 in
theorem b_ty131 {K : Option am_V → am_M → Prop} {X : Nat → am_L → List am_V → am_M → Prop} (hX : am_cl eX7_text lX7_text (some .int) K X) {σ : am_M} (n k : Nat) (h : (((68 : Int32) ≤ (nI k)) → X 155 [some (.inr (.inr (20, 0))), some (.inl (nI n)), some (.inl (nI k))] [] σ) ∧ (¬ ((68 : Int32) ≤ (nI k)) → (vp_in (nI k) 68) ∧ ((vp_in (nI k) 340) ∧ (X 131 [some (.inr (.inr (20, 0))), some (.inl (nI n)), some (.inl ((nI k) + (1 : Int32)))] [] (am_u σ 21 0 (nI k).toNatClampNeg (σ 22 0 (nI k).toNatClampNeg)))))) : X 131 [some (.inr (.inr (20, 0))), some (.inl (nI n)), some (.inl (nI k))] [] σ := am_run_ok emX7_text hX [131, 155] 400 (show (((68 : Int32) ≤ (nI k)) → X 155 [some (.inr (.inr (20, 0))), some (.inl (nI n)), some (.inl (nI k))] [] σ) ∧ (¬ ((68 : Int32) ≤ (nI k)) → (vp_in (nI k) 68) ∧ ((vp_in (nI k) 340) ∧ (X 131 [some (.inr (.inr (20, 0))), some (.inl (nI n)), some (.inl ((nI k) + (1 : Int32)))] [] (am_u σ 21 0 (nI k).toNatClampNeg (σ 22 0 (nI k).toNatClampNeg))))) from ⟨fun q0 => (h.1 q0), fun q0 => ⟨(h.2 q0).1, ⟨(h.2 q0).2.1, (h.2 q0).2.2⟩⟩⟩)
set_option maxRecDepth 100000 in
set_option maxHeartbeats 400000 in
theorem b_ty155 {K : Option am_V → am_M → Prop} {X : Nat → am_L → List am_V → am_M → Prop} (hX : am_cl eX7_text lX7_text (some .int) K X) {σ : am_M} (n : Nat) (h : X 165 [some (.inr (.inr (20, 0))), some (.inl (nI n)), some (.inl (0 : Int32))] [] (am_u σ 20 0 1 (σ 20 0 3))) : X 155 [some (.inr (.inr (20, 0))), some (.inl (nI n)), none] [] σ := am_run_ok emX7_text hX [165] 400 (show X 165 [some (.inr (.inr (20, 0))), some (.inl (nI n)), some (.inl (0 : Int32))] [] (am_u σ 20 0 1 (σ 20 0 3)) from h)
set_option maxRecDepth 100000 in
set_option maxHeartbeats 400000 in
theorem b_ty165 {K : Option am_V → am_M → Prop} {X : Nat → am_L → List am_V → am_M → Prop} (hX : am_cl eX7_text lX7_text (some .int) K X) {σ : am_M} (n k : Nat) (h : (((σ 20 0 1) ≤ (nI k)) → K (some (.inl (nI n))) (am_u (am_u (am_u σ 20 0 23 (0 : Int32)) 28 0 0 (vp_nar .boolean (0 : Int32))) 28 0 1 (vp_nar .boolean (0 : Int32)))) ∧ (¬ ((σ 20 0 1) ≤ (nI k)) → (vp_in (((7 : Int32) * (nI k)) + (6 : Int32)) 340) ∧ (X 165 [some (.inr (.inr (20, 0))), some (.inl (nI n)), some (.inl ((nI k) + (1 : Int32)))] [] (am_u σ 21 0 (((7 : Int32) * (nI k)) + (6 : Int32)).toNatClampNeg (((σ 20 0 5) >>> ((nI k) &&& 31)) &&& (1 : Int32)))))) : X 165 [some (.inr (.inr (20, 0))), some (.inl (nI n)), some (.inl (nI k))] [] σ := am_run_ok emX7_text hX [165] 400 (show (((σ 20 0 1) ≤ (nI k)) → (vp_in (0 : Int32) 2) ∧ ((vp_in (1 : Int32) 2) ∧ (K (some (.inl (nI n))) (am_u (am_u (am_u σ 20 0 23 (0 : Int32)) 28 0 0 (vp_nar .boolean (0 : Int32))) 28 0 1 (vp_nar .boolean (0 : Int32)))))) ∧ (¬ ((σ 20 0 1) ≤ (nI k)) → (vp_in (((7 : Int32) * (nI k)) + (6 : Int32)) 340) ∧ (X 165 [some (.inr (.inr (20, 0))), some (.inl (nI n)), some (.inl ((nI k) + (1 : Int32)))] [] (am_u σ 21 0 (((7 : Int32) * (nI k)) + (6 : Int32)).toNatClampNeg (((σ 20 0 5) >>> ((nI k) &&& 31)) &&& (1 : Int32))))) from ⟨fun q0 => ⟨am_ci (by decide), ⟨am_ci (by decide), (h.1 q0)⟩⟩, fun q0 => ⟨(h.2 q0).1, (h.2 q0).2⟩⟩)
def LH (τ : am_M) (t : Nat) (b : Nat → Nat) (i : Nat) : Prop := τ 20 0 9 = 0 ∧ τ 20 0 11 = nI (tkE b t i) ∧ τ 20 0 12 = nI (tkS b t i) ∧ τ 20 0 13 = nI (tkK b t i) ∧ (tkK b t i = 2 → τ 20 0 14 = nI (tkV b t i))
def BR (τ : am_M) (c q : Nat) : Prop := τ 20 0 9 = nI c ∧ τ 20 0 10 = nI q ∧ 1 ≤ c ∧ c ≤ 6
def LK (τ : am_M) (t : Nat) (b : Nat → Nat) (i : Nat) : Prop := (tkB b t i = false ∧ LH τ t b i) ∨ (tkB b t i = true ∧ BR τ 1 (tkS b t i))
theorem BR_nz {τ : am_M} {c q : Nat} (h : BR τ c q) : ¬ τ 20 0 9 = 0 := by
  rw [h.1]
  exact nI_ne0 (by have := h.2.2; omega) (by have := h.2.2; omega)
theorem BR_nl {τ : am_M} {c q : Nat} (h : BR τ c q) : ¬ τ 20 0 9 ≤ 0 := by
  rw [h.1]
  exact nI_nle (by have := h.2.2; omega) (by have := h.2.2; omega)
theorem tkK_4 (b : Nat → Nat) (t i : Nat) : tkK b t i ≤ 4 := by
  unfold tkK
  repeat' split
  all_goals decide
theorem step_k {σ : am_M} {t i : Nat} {b : Nat → Nat} {K : am_K} (ht : tm σ t b) (h9 : σ 20 0 9 = 0) (hi : σ 20 0 11 = nI i) (hit : i ≤ t) (h : ∀ τ, d20 σ τ → LK τ t b i → K none τ) : sX7_step [.inr (.inr (20, 0))] σ K := tX7_step ht h9 hi hit (fun c τ dd g9 g11 g12 g13 g14 => h τ dd (Or.inl ⟨c, g9, g11, g12, g13, g14⟩)) (fun c τ dd g9 g10 => h τ dd (Or.inr ⟨c, g9, g10, by decide, by decide⟩))
theorem step_br {σ : am_M} {c q : Nat} {K : am_K} (h : BR σ c q) (hK : K none σ) : sX7_step [.inr (.inr (20, 0))] σ K := tX7_step_b h.1 h.2.2.1 h.2.2.2 hK
theorem tX7_other_b {σ : am_M} {lo hi s : Int32} {c q : Nat} {K : am_K} (hb : BR σ c q) (h : K (some (.inl lo)) σ) : sX7_other [.inr (.inr (20, 0)), .inl lo, .inl hi, .inl s] σ K := ⟨am_le rfl, fun X hX => b_ot0 hX _ _ _ ⟨fun q => absurd q (BR_nz hb), fun _ => b_ot20 hX _ _ _ ⟨fun q => absurd q (BR_nz hb), fun _ => b_ot47 hX _ _ _ ⟨fun q => absurd q (BR_nz hb), fun _ => b_ot71 hX _ _ _ ⟨fun q => absurd q (BR_nz hb), fun _ => step_br hb (b_ot92 hX _ _ _ _ h)⟩⟩⟩⟩⟩
theorem tX7_other {σ : am_M} {t i lo hi sm : Nat} {b : Nat → Nat} {K : am_K} (ht : tm σ t b) (hl : LK σ t b i) (hit : i ≤ t) (hlo : lo ≤ 30) (hhi : hi ≤ 30) (hsm : sm < 512) (h0 : ∀ c q, nuR b t lo hi sm i = .inl (c, q) → ∀ τ, d20 σ τ → BR τ c q → K (some (.inl (nI lo))) τ) (h1 : ∀ x e, nuR b t lo hi sm i = .inr (x, e) → ∀ τ, d20 σ τ → LK τ t b e → K (some (.inl (nI x))) τ) : sX7_other [.inr (.inr (20, 0)), .inl (nI lo), .inl (nI hi), .inl (nI sm)] σ K := by
  rcases hl with ⟨c0, g9, g11, g12, g13, g14⟩ | ⟨c0, hb⟩
  · have eb := tkE_b (b := b) hit
    have sb := tkS_b (b := b) hit
    unfold nuR at h0 h1
    rw [if_neg (by rw [c0]; decide)] at h0 h1
    have k4 := tkK_4 b t i
    refine ⟨am_le rfl, fun X hX => ?_⟩
    have s71 : ∀ (c q : Nat) (τ : am_M), BR τ c q → K (some (.inl (nI lo))) τ → X 71 [some (.inr (.inr (20, 0))), some (.inl (nI lo)), some (.inl (nI hi)), some (.inl (nI sm)), none] [] τ := fun c q τ hb hK => b_ot71 hX _ _ _ ⟨fun q => absurd q (BR_nz hb), fun _ => step_br hb (b_ot92 hX _ _ _ _ hK)⟩
    have s47 : ∀ (c q : Nat) (τ : am_M), BR τ c q → K (some (.inl (nI lo))) τ → X 47 [some (.inr (.inr (20, 0))), some (.inl (nI lo)), some (.inl (nI hi)), some (.inl (nI sm)), none] [] τ := fun c q τ hb hK => b_ot47 hX _ _ _ ⟨fun q => absurd q (BR_nz hb), fun _ => s71 c q τ hb hK⟩
    have s20 : ∀ (c q : Nat) (τ : am_M), BR τ c q → K (some (.inl (nI lo))) τ → X 20 [some (.inr (.inr (20, 0))), some (.inl (nI lo)), some (.inl (nI hi)), some (.inl (nI sm)), none] [] τ := fun c q τ hb hK => b_ot20 hX _ _ _ ⟨fun q => absurd q (BR_nz hb), fun _ => s47 c q τ hb hK⟩
    have br : ∀ c : Nat, 1 ≤ c → c ≤ 6 → d20 σ (am_u (am_u σ 20 0 9 (nI c)) 20 0 10 (nI (tkS b t i))) ∧ BR (am_u (am_u σ 20 0 9 (nI c)) 20 0 10 (nI (tkS b t i))) c (tkS b t i) := fun c c1 c6 => ⟨d20_u (d20_u d20_refl (by decide) (by decide)) (by decide) (by decide), rfl, rfl, c1, c6⟩
    refine b_ot0 hX _ _ _ ⟨fun _ => ?_, fun q => absurd g9 q⟩
    rw [g13, show (nI (tkK b t i) = (2 : Int32) ↔ tkK b t i = 2) from nI_eq (b := 2) (by omega) (by decide), g12]
    refine ⟨fun c1 => ?_, fun c1 => ⟨fun _ => ?_, fun q => absurd g9 q⟩⟩
    · rw [if_neg (fun q => q c1)] at h0 h1
      have g14 := g14 c1
      have hv := tkV_le c1
      refine b_ot20 hX _ _ _ ⟨fun _ => ?_, fun q => absurd g9 q⟩
      rw [g14, nI_ltI (by omega) (by omega), nI_ltI (by omega) (by omega), g12]
      have bad : (tkV b t i < lo ∨ hi < tkV b t i) → X 47 [some (.inr (.inr (20, 0))), some (.inl (nI lo)), some (.inl (nI hi)), some (.inl (nI sm)), none] [] (am_u (am_u σ 20 0 9 (3 : Int32)) 20 0 10 (nI (tkS b t i))) := fun c2 => by
        rw [if_pos c2] at h0
        exact s47 3 _ _ (br 3 (by decide) (by decide)).2 (h0 3 _ rfl _ (br 3 (by decide) (by decide)).1 (br 3 (by decide) (by decide)).2)
      refine ⟨fun c2 => ⟨fun _ => bad (Or.inl c2), fun q => absurd g9 q⟩, fun c2 => ⟨fun c3 => ⟨fun _ => bad (Or.inr c3), fun q => absurd g9 q⟩, fun c3 => ?_⟩⟩
      rw [if_neg (fun q => q.elim c2 c3)] at h0 h1
      refine b_ot47 hX _ _ _ ⟨fun _ => ?_, fun q => absurd g9 q⟩
      rw [g14, q_bitv (by omega) (by omega), q_ite1, g12]
      refine ⟨fun c4 => ⟨fun _ => ?_, fun q => absurd g9 q⟩, fun c4 => ?_⟩
      · rw [if_pos c4] at h0
        exact s71 4 _ _ (br 4 (by decide) (by decide)).2 (h0 4 _ rfl _ (br 4 (by decide) (by decide)).1 (br 4 (by decide) (by decide)).2)
      · rw [if_neg c4] at h1
        refine b_ot71 hX _ _ _ ⟨fun _ => step_k ht g9 g11 eb.2.1 fun τ dd hl => b_ot92 hX _ _ _ _ ?_, fun q => absurd g9 q⟩
        rw [g14]
        exact h1 _ _ rfl τ dd hl
    · rw [if_pos c1] at h0
      exact s20 2 _ _ (br 2 (by decide) (by decide)).2 (h0 2 _ rfl _ (br 2 (by decide) (by decide)).1 (br 2 (by decide) (by decide)).2)
  · refine tX7_other_b hb (h0 1 _ ?_ σ d20_refl hb)
    unfold nuR
    rw [if_pos c0]
def cutN (n : Nat) : Nat := [0, 5, 9, 16, 24, 28, 33, 37, 41].getD n 0
theorem cut_f : ∀ n, n < 8 → k_cuts.getD n 0 = nI (cutN n) ∧ k_cuts.getD (n + 1) 0 = nI (cutN (n + 1)) ∧ cutN (n + 1) = cutN n + (am_str (wi n)).length ∧ cutN (n + 1) ≤ 41 ∧ wi n < 8 ∧ ∀ k, k < (am_str (wi n)).length → k_letters.getD (cutN n + k) 0 = (am_str (wi n)).getD k 0 := by decide
theorem tX7_nameHere {σ : am_M} {t i : Nat} {b : Nat → Nat} {K : am_K} (ht : tm σ t b) (hl : LH σ t b i) (hit : i ≤ t) (hw : iv_word σ) (h : K (some (.inl (if tkK b t i = 1 ∧ nm b (tkS b t i) (tkE b t i) < 8 then nI (nm b (tkS b t i) (tkE b t i)) else -4))) σ) : sX7_nameHere [.inr (.inr (20, 0))] σ K := by
  have eb := tkE_b (b := b) hit
  have t160 := ht.1
  have k4 := tkK_4 b t i
  obtain ⟨g9, g11, g12, g13, -⟩ := hl
  have e13 : σ 20 0 13 = (1 : Int32) ↔ tkK b t i = 1 := by
    rw [g13]
    exact nI_eq (b := 1) (by omega) (by decide)
  generalize tkS b t i = s at *
  generalize tkE b t i = e at *
  obtain ⟨hse, het, -⟩ := eb
  have e3 : σ 20 0 11 - σ 20 0 12 = nI (e - s) := by rw [g11, g12, pk_sub hse]
  refine ⟨am_le rfl, fun X hX => b_nh0 hX ?_⟩
  refine q_dn (W := fun n => (∀ n', n' < n → mw b s e (am_str (wi n')) = false) → X 2 [some (.inr (.inr (20, 0))), some (.inl (nI n)), none, none] [] σ) (n := 8) (fun n hn IH ha => ?_) (fun ha => ?_) 0 (Nat.zero_le _) (fun n' hn' => absurd hn' (Nat.not_lt_zero n'))
  · obtain ⟨f1, f2, f3, f4, f5, f6⟩ := cut_f n hn
    have l8 := am_str_8 (wi n) f5
    refine b_nh2 hX _ ?_
    rw [e13, e3, show nI n + (1 : Int32) = nI (n + 1) from nI_add n 1, nI_clamp (by omega), nI_clamp (by omega), hw.1 n (by omega), hw.1 (n + 1) (by omega), f1, f2, pk_sub (by omega), nI_eq (by omega) (by omega), show cutN (n + 1) - cutN n = (am_str (wi n)).length by omega]
    refine ⟨fun q => absurd q (nI_ge (b := 8) hn (by decide)), fun _ => ⟨fun c1 => ⟨q_in (by omega) (by decide), q_in (by omega) (by decide), ?_⟩, fun c1 => ?_⟩⟩
    · have no : mw b s e (am_str (wi n)) = false → ∀ k : Option am_V, X 106 [some (.inr (.inr (20, 0))), some (.inl (nI n)), some (.inl (0 : Int32)), k] [] σ := fun q k => by
        refine am_fo hX (ls := [some (.inr (.inr (20, 0))), some (.inl (nI n)), some (.inl (0 : Int32)), none]) ⟨rfl, rfl, rfl, trivial⟩ (b_nh106 hX _ _ ⟨fun _ => ?_, fun q => absurd rfl q⟩)
        rw [show nI n + (1 : Int32) = nI (n + 1) from nI_add n 1]
        refine am_fo hX (ls := [some (.inr (.inr (20, 0))), some (.inl (nI (n + 1))), none, none]) ⟨rfl, rfl, trivial⟩ (IH fun n' hn' => ?_)
        by_cases c : n' = n
        · rw [c]
          exact q
        · exact ha n' (by omega)
      have yes : mw b s e (am_str (wi n)) = true → ∀ k : Option am_V, X 106 [some (.inr (.inr (20, 0))), some (.inl (nI n)), some (.inl (1 : Int32)), k] [] σ := fun q k => by
        refine am_fo hX (ls := [some (.inr (.inr (20, 0))), some (.inl (nI n)), some (.inl (1 : Int32)), none]) ⟨rfl, rfl, rfl, trivial⟩ (b_nh106 hX _ _ ⟨fun q => absurd q (by decide), fun _ => ?_⟩)
        have := nm_of hn q
        rw [this, if_pos ⟨c1, hn⟩] at h
        exact h
      refine ⟨fun c2 => ?_, fun c2 => b_nh51 hX _ 0 _ ⟨fun _ => no ?_ _, fun q => absurd rfl q⟩⟩
      · refine q_dn (W := fun k => (∀ j, j < k → nI (b (s + j)) = (am_str (wi n)).getD j 0) → X 51 [some (.inr (.inr (20, 0))), some (.inl (nI n)), some (.inl (1 : Int32)), some (.inl (nI k))] [] σ) (n := e - s) (fun k hk IHk hak => ?_) (fun hak => ?_) 0 (Nat.zero_le _) (fun j hj => absurd hj (Nat.not_lt_zero j))
        · refine b_nh51 hX _ _ _ ⟨fun q => absurd q (by decide), fun _ => ?_⟩
          rw [e3, nI_leI (by omega) (by omega), g12, nI_add, tm_mb ht (by omega), if_pos (by omega), nI_clamp (by omega), hw.1 n (by omega), f1, nI_add, nI_clamp (by omega), hw.2 _ (by omega), f6 k (by omega), show nI k + (1 : Int32) = nI (k + 1) from nI_add k 1]
          refine ⟨fun q => absurd q (by omega), fun _ => ⟨tm_in ht (by omega), q_in (by omega) (by decide), q_in (by omega) (by decide), fun c3 => IHk fun j hj => ?_, fun c3 => b_nh51 hX _ (k + 1) _ ⟨fun _ => no ?_ _, fun q => absurd rfl q⟩⟩⟩
          · by_cases cj : j = k
            · rw [cj]
              exact c3
            · exact hak j (by omega)
          · cases cm : mw b s e (am_str (wi n))
            · rfl
            · exact absurd ((mw_iff.1 cm).2 k (by omega)) c3
        · refine b_nh51 hX _ _ _ ⟨fun q => absurd q (by decide), fun _ => ⟨fun _ => yes (mw_iff.2 ⟨c2, fun j hj => hak j (by omega)⟩) _, fun q => absurd (by rw [e3]; exact nI_le (Nat.le_refl _) (by omega)) q⟩⟩
      · cases cm : mw b s e (am_str (wi n))
        · rfl
        · exact absurd (mw_iff.1 cm).1 c2
    · rw [if_neg (fun q => c1 q.1)] at h
      exact h
  · have n8 : ¬ nm b s e < 8 := fun q => by
      have := ha _ q
      rw [nm_wi q] at this
      exact absurd this (by decide)
    rw [if_neg (fun q => n8 q.2)] at h
    exact b_nh2 hX 8 ⟨fun _ => h, fun q => absurd (by decide) q⟩
/-- only the reference's reading was written -/
def fm (σ τ : am_M) : Prop := (∀ k, k ≠ 20 → k ≠ 22 → τ k = σ k) ∧ ∀ j, j < 3 ∨ (5 < j ∧ j < 9) ∨ 14 < j → τ 20 0 j = σ 20 0 j
theorem fm_refl {σ : am_M} : fm σ σ := ⟨fun _ _ _ => rfl, fun _ _ => rfl⟩
theorem fm_trans {σ τ υ : am_M} (h : fm σ τ) (d : fm τ υ) : fm σ υ := ⟨fun k a b => by rw [d.1 k a b, h.1 k a b], fun j hj => by rw [d.2 j hj, h.2 j hj]⟩
theorem fm_d {σ τ υ : am_M} (h : fm σ τ) (d : d20 τ υ) : fm σ υ := ⟨fun k a b => by rw [d.1 k a, h.1 k a b], fun j hj => by rw [d.2 j (by omega), h.2 j hj]⟩
theorem fm_u22 {σ τ : am_M} {j : Nat} {v : Int32} (h : fm σ τ) : fm σ (am_u τ 22 0 j v) := ⟨fun k a b => by rw [am_u_k b, h.1 k a b], fun j hj => by rw [am_u_k (by decide), h.2 j hj]⟩
theorem fm_u20 {σ τ : am_M} {c : Nat} {v : Int32} (h : fm σ τ) (hc : (3 ≤ c ∧ c ≤ 5) ∨ (9 ≤ c ∧ c ≤ 14)) : fm σ (am_u τ 20 0 c v) := ⟨fun k a b => by rw [am_u_k a, h.1 k a b], fun j hj => by rw [am_u_j (by omega), h.2 j hj]⟩
theorem fm_tm {σ τ : am_M} {t : Nat} {b : Nat → Nat} (h : fm σ τ) (h2 : tm σ t b) : tm τ t b := by
  unfold tm
  rw [h.2 7 (by decide), h.1 23 (by decide) (by decide)]
  exact h2
theorem fm_word {σ τ : am_M} (h : fm σ τ) (h2 : iv_word σ) : iv_word τ := iv_word_cg (h.1 24 (by decide) (by decide)) (h.1 25 (by decide) (by decide)) h2
/-- what was told so far, to the reference -/
def RB (τ : am_M) (p : Ps) : Prop := τ 22 0 63 + 3 = nI p.pl ∧ τ 22 0 64 + 1 = nI p.tc ∧ τ 22 0 65 + 1 = nI p.lc ∧ τ 22 0 66 = 0 ∧ τ 22 0 67 = 0 ∧ τ 20 0 5 = nI p.w ∧ ∃ T, T < 256 ∧ τ 20 0 4 = nI T ∧ T.testBit 5 = p.st ∧ T.testBit 6 = p.ct
def RM (τ : am_M) (p : Ps) : Prop := τ 20 0 3 = nI p.m ∧ (∀ q j, q < p.m → j < 6 → τ 22 0 (7 * q + j) = nI (p.r q j)) ∧ RB τ p
theorem RB_d {τ υ : am_M} {p : Ps} (d : d20 τ υ) (h : RB τ p) : RB υ p := by
  unfold RB
  rw [d.1 22 (by decide), d.2 4 (by decide), d.2 5 (by decide)]
  exact h
theorem RM_d {τ υ : am_M} {p : Ps} (d : d20 τ υ) (h : RM τ p) : RM υ p := by
  obtain ⟨a, b, c⟩ := h
  exact ⟨by rw [d.2 3 (by decide)]; exact a, by rw [d.1 22 (by decide)]; exact b, RB_d d c⟩
def stk (b : Nat → Nat) (t : Nat) (p : Ps) (e : Nat) : (Nat × Nat) ⊕ (Ps × Nat) := match stR b t e with
  | .inl x => .inl x
  | .inr e2 => .inr (p, e2)
def mrR (b : Nat → Nat) (t : Nat) (p : Ps) (n e : Nat) : (Nat × Nat) ⊕ (Ps × Nat) := if n < 5 then on2 b t p 5 1 (fun _ => n) e else if n = 5 then (match nuR b t 2 5 0 e with
  | .inl x => .inl x
  | .inr (v, e1) => stk b t (mkP p.m p.r v p.tc p.lc p.w p.st p.ct) e1) else if n = 6 then (match nuR b t 0 9 0 e with
  | .inl x => .inl x
  | .inr (v, e1) => match nuR b t 0 9 0 e1 with
    | .inl x => .inl x
    | .inr (v2, e2) => stk b t (mkP p.m p.r p.pl v v2 p.w p.st p.ct) e2) else (match nuR b t 0 8 p.w e with
  | .inl x => .inl x
  | .inr (v, e1) => stk b t (mkP p.m p.r p.pl p.tc p.lc (p.w ||| 2 ^ v) p.st p.ct) e1)
/-- the reading stands, or is broken -/
def MD (R : (Nat × Nat) ⊕ (Ps × Nat)) (τ : am_M) (t : Nat) (b : Nat → Nat) : Prop := (∃ c q, R = .inl (c, q) ∧ BR τ c q) ∨ ∃ p e, e ≤ t ∧ R = stk b t p e ∧ LK τ t b e ∧ RM τ p
theorem q_tx3 {x : Nat} (h : 2 ≤ x) : nI x - (3 : Int32) + 3 = nI x := by
  rw [Int32.sub_add_cancel]
theorem q_tx1 {x : Nat} : nI x - (1 : Int32) + 1 = nI x := by
  rw [Int32.sub_add_cancel]
theorem tX7_readMore {σ : am_M} {t e n : Nat} {b : Nat → Nat} {p : Ps} {K : am_K} (ht : tm σ t b) (hl : LK σ t b e) (het : e ≤ t) (hp : pkP p) (hr : RM σ p) (hn : n < 8) (h9 : n < 5 → p.m < 9) (h : ∀ τ, fm σ τ → MD (mrR b t p n e) τ t b → K none τ) : sX7_readMore [.inr (.inr (20, 0)), .inl (nI n)] σ K := by
  obtain ⟨r1, r2, r3, r4, r5, r6, r7, r8, r9⟩ := id hr
  have hpm := hp.1
  have hpw := hp.2.2.2.2.2
  refine ⟨am_le rfl, fun X hX => b_rm0 hX _ ?_⟩
  rw [r1, show ((4 : Int32) < nI n ↔ 4 < n) from nI_ltI (a := 4) (by decide) (by omega), show (nI n = (5 : Int32) ↔ n = 5) from nI_eq (b := 5) (by omega) (by decide), show (nI n = (6 : Int32) ↔ n = 6) from nI_eq (b := 6) (by omega) (by decide), r8, m_i7, nI_clamp (by omega)]
  unfold mrR at h
  refine ⟨fun c4 => ⟨fun c5 => ?_, fun c5 => ⟨fun c6 => ?_, fun c6 => ?_⟩⟩, fun c4 => ?_⟩
  · rw [if_neg (by omega), if_pos c5] at h
    refine tX7_other (lo := 2) (hi := 5) (sm := 0) ht hl het (by decide) (by decide) (by decide) (fun c q hR τ dd hb => b_rm90 hX _ _ (h _ (fm_u22 (fm_d fm_refl dd)) (Or.inl ⟨c, q, ?_, hb⟩))) (fun x e1 hR τ dd hk => b_rm90 hX _ _ (h _ (fm_u22 (fm_d fm_refl dd)) (Or.inr ⟨mkP p.m p.r x p.tc p.lc p.w p.st p.ct, e1, (nuR_b hR het).2.2.2.1, by simp only [hR], hk, ?_⟩)))
    · simp only [hR]
    · obtain ⟨m1, m2, m3, m4⟩ := RM_d dd hr
      refine ⟨m1, fun q j hq hj => ?_, q_tx3 (nuR_b hR het).1, m4⟩
      have hq' : q < p.m := hq
      rw [am_u_j (by omega)]
      exact m2 q j hq hj
  · rw [if_neg (by omega), if_neg c5, if_pos c6] at h
    refine tX7_other (lo := 0) (hi := 9) (sm := 0) ht hl het (by decide) (by decide) (by decide) (fun c q hR τ dd hb => b_rm116 hX _ _ (tX7_other_b (σ := am_u τ 22 0 64 _) hb (b_rm133 hX _ _ (h _ (fm_u22 (fm_u22 (fm_d fm_refl dd))) (Or.inl ⟨c, q, ?_, hb⟩))))) (fun x e1 hR τ dd hk => b_rm116 hX _ _ ?_)
    · simp only [hR]
    · obtain ⟨n1, n2, n3, n4, -⟩ := nuR_b hR het
      have f1 : fm σ (am_u τ 22 0 64 (nI x - (1 : Int32))) := fm_u22 (fm_d fm_refl dd)
      refine tX7_other (lo := 0) (hi := 9) (sm := 0) (fm_tm f1 ht) hk n4 (by decide) (by decide) (by decide) (fun c q hR2 υ dd2 hb => b_rm133 hX _ _ (h _ (fm_u22 (fm_d f1 dd2)) (Or.inl ⟨c, q, ?_, hb⟩))) (fun x2 e2 hR2 υ dd2 hk2 => b_rm133 hX _ _ (h _ (fm_u22 (fm_d f1 dd2)) (Or.inr ⟨mkP p.m p.r p.pl x x2 p.w p.st p.ct, e2, (nuR_b hR2 n4).2.2.2.1, by simp only [hR, hR2], hk2, ?_⟩)))
      · simp only [hR, hR2]
      · obtain ⟨m1, m2, m3, m4, m5⟩ := RM_d dd hr
        have g : RM (am_u τ 22 0 64 (nI x - (1 : Int32))) (mkP p.m p.r p.pl x p.lc p.w p.st p.ct) := ⟨m1, fun q j hq hj => by
          have hq' : q < p.m := hq
          rw [am_u_j (by omega)]
          exact m2 q j hq hj, m3, q_tx1, m5⟩
        obtain ⟨l1, l2, l3, l4, l5, l6⟩ := RM_d dd2 g
        refine ⟨l1, fun q j hq hj => ?_, l3, l4, q_tx1, l6⟩
        have hq' : q < p.m := hq
        rw [am_u_j (by omega)]
        exact l2 q j hq hj
  · rw [if_neg (by omega), if_neg c5, if_neg c6] at h
    refine tX7_other (lo := 0) (hi := 8) (sm := p.w) ht hl het (by decide) (by decide) hpw (fun c q hR τ dd hb => b_rm156 hX _ _ _ (h _ (fm_u20 (fm_d fm_refl dd) (by decide)) (Or.inl ⟨c, q, ?_, hb⟩))) (fun x e1 hR τ dd hk => b_rm156 hX _ _ _ (h _ (fm_u20 (fm_d fm_refl dd) (by decide)) (Or.inr ⟨mkP p.m p.r p.pl p.tc p.lc (p.w ||| 2 ^ x) p.st p.ct, e1, (nuR_b hR het).2.2.2.1, by simp only [hR], hk, ?_⟩)))
    · simp only [hR]
    · have hx := (nuR_b hR het).2.1
      obtain ⟨m1, m2, m3, m4, m5, m6, m7, m8, m9⟩ := RM_d dd hr
      rw [q_one x (by omega), q_or]
      exact ⟨m1, m2, m3, m4, m5, m6, m7, rfl, m9⟩
  · rw [if_pos (by omega)] at h
    have pm := h9 (by omega)
    refine ⟨q_in (by omega) (by decide), ?_⟩
    have loop : ∀ d w τ, w + d = 6 → 1 ≤ w → fm σ τ → ((∃ c q, on2 b t p 5 1 (fun _ => n) e = .inl (c, q) ∧ BR τ c q) ∨ (∃ f e1, e1 ≤ t ∧ on2 b t p 5 1 (fun _ => n) e = on2 b t p d w f e1 ∧ LK τ t b e1 ∧ RM τ p ∧ ∀ j, j < w → τ 22 0 (7 * p.m + j) = nI (f j))) → X 22 [some (.inr (.inr (20, 0))), some (.inl (nI n)), some (.inl (nI (7 * p.m))), some (.inl (nI w))] [] τ := by
      intro d
      induction d with
      | zero =>
        intro w τ hw hw1 f1 hs
        have hw6 : w = 6 := by omega
        subst hw6
        refine b_rm22 hX _ _ _ ⟨fun _ => h _ (fm_u20 f1 (by decide)) ?_, fun q => absurd (by decide) q⟩
        rcases hs with ⟨c, q, e1, hb⟩ | ⟨f, e1, he, eR, hk, hm, hf⟩
        · exact Or.inl ⟨c, q, e1, hb⟩
        · refine Or.inr ⟨mkP (p.m + 1) (fun q => if q = p.m then f else p.r q) p.pl p.tc p.lc p.w p.st p.ct, e1, he, ?_, hk, ?_⟩
          · rw [eR]
            unfold on2 stk
            cases stR b t e1 <;> rfl
          · obtain ⟨m1, m2, m3⟩ := hm
            refine ⟨?_, fun q j hq hj => ?_, m3⟩
            · show τ 20 0 3 + (1 : Int32) = nI (p.m + 1)
              rw [m1]
              exact nI_add _ 1
            · show τ 22 0 (7 * q + j) = nI ((if q = p.m then f else p.r q) j)
              have hq' : q < p.m + 1 := hq
              by_cases cq : q = p.m
              · rw [if_pos cq, cq]
                exact hf j hj
              · rw [if_neg cq]
                exact m2 q j (by omega) hj
      | succ d ih =>
        intro w τ hw hw1 f1 hs
        refine b_rm22 hX _ _ _ ?_
        rw [show ((6 : Int32) ≤ nI w ↔ 6 ≤ w) from nI_leI (a := 6) (by decide) (by omega), show ((4 : Int32) ≤ nI w ↔ 4 ≤ w) from nI_leI (a := 4) (by decide) (by omega), nI_add]
        have main : ∀ hi : Nat, hi ≤ 9 → hi = (if w ≤ 3 then 5 else 9) → sX7_other [.inr (.inr (20, 0)), .inl (nI 0), .inl (nI hi), .inl (nI 0)] τ (fun vv tt => X 52 [some (.inr (.inr (20, 0))), some (.inl (nI n)), some (.inl (nI (7 * p.m))), some (.inl (nI w))] (vv.toList ++ [.inl (nI (7 * p.m + w)), .inr (.inr (22, 0))]) tt) := by
          intro hi hi9 ehi
          have nx : ∀ (v : Int32) (υ : am_M), fm σ υ → ((∃ c q, on2 b t p 5 1 (fun _ => n) e = .inl (c, q) ∧ BR υ c q) ∨ (∃ f e1, e1 ≤ t ∧ on2 b t p 5 1 (fun _ => n) e = on2 b t p d (w + 1) f e1 ∧ LK υ t b e1 ∧ RM υ p ∧ (∀ j, j < w → υ 22 0 (7 * p.m + j) = nI (f j)) ∧ v = nI (f w))) → X 52 [some (.inr (.inr (20, 0))), some (.inl (nI n)), some (.inl (nI (7 * p.m))), some (.inl (nI w))] [.inl v, .inl (nI (7 * p.m + w)), .inr (.inr (22, 0))] υ := fun v υ f2 hs2 => by
            refine b_rm52 hX _ _ _ _ _ ⟨q_in (by omega) (by decide), ?_⟩
            rw [nI_clamp (by omega), show nI w + (1 : Int32) = nI (w + 1) from nI_add w 1]
            refine ih (w + 1) _ (by omega) (by omega) (fm_u22 f2) ?_
            rcases hs2 with ⟨c, q, e1, hb⟩ | ⟨f, e1, he, eR, hk, ⟨m1, m2, m3, m4, m5, m6, m7, m8⟩, hf, hv⟩
            · exact Or.inl ⟨c, q, e1, hb⟩
            · refine Or.inr ⟨f, e1, he, eR, hk, ⟨m1, fun q j hq hj => ?_, ?_, ?_, ?_, ?_, ?_, m8⟩, fun j hj => ?_⟩
              · rw [am_u_j (by omega)]
                exact m2 q j hq hj
              · rw [am_u_j (by omega)]
                exact m3
              · rw [am_u_j (by omega)]
                exact m4
              · rw [am_u_j (by omega)]
                exact m5
              · rw [am_u_j (by omega)]
                exact m6
              · rw [am_u_j (by omega)]
                exact m7
              · by_cases cj : j = w
                · rw [cj, am_u_s, hv]
                · rw [am_u_j (by omega)]
                  exact hf j (by omega)
          rcases hs with ⟨c, q, e1, hb⟩ | ⟨f, e1, he, eR, hk, hm, hf⟩
          · exact tX7_other_b hb (nx _ τ f1 (Or.inl ⟨c, q, e1, hb⟩))
          · refine tX7_other (fm_tm f1 ht) hk he (by decide) (by omega) (by decide) (fun c q hR υ dd hb => nx _ υ (fm_d f1 dd) (Or.inl ⟨c, q, ?_, hb⟩)) (fun x e2 hR υ dd hk2 => nx _ υ (fm_d f1 dd) (Or.inr ⟨fun j => if j = w then x else f j, e2, (nuR_b hR he).2.2.2.1, ?_, hk2, RM_d dd hm, fun j hj => ?_, ?_⟩))
            · rw [eR]
              rw [ehi] at hR
              simp only [on2, hR]
            · rw [eR]
              rw [ehi] at hR
              simp only [on2, hR]
            · rw [dd.1 22 (by decide), hf j hj]
              show nI (f j) = nI (if j = w then x else f j)
              rw [if_neg (by omega)]
            · show nI x = nI (if w = w then x else f w)
              rw [if_pos rfl]
        refine ⟨fun q => absurd q (by omega), fun _ => ⟨fun c9 => main 9 (by decide) (by rw [if_neg (by omega)]), fun c9 => main 5 (by decide) (by rw [if_pos (by omega)])⟩⟩
    refine loop 5 1 _ rfl (by decide) (fm_u22 fm_refl) (Or.inr ⟨fun _ => n, e, het, rfl, hl, ⟨r1, fun q j hq hj => ?_, ?_, ?_, ?_, ?_, ?_, r8, r9⟩, fun j hj => ?_⟩)
    · rw [am_u_j (by omega)]
      exact r2 q j hq hj
    · rw [am_u_j (by omega)]
      exact r3
    · rw [am_u_j (by omega)]
      exact r4
    · rw [am_u_j (by omega)]
      exact r5
    · rw [am_u_j (by omega)]
      exact r6
    · rw [am_u_j (by omega)]
      exact r7
    · rw [show j = 0 by omega, Nat.add_zero, am_u_s]
