/-! pairs: send -/
set_option maxRecDepth 100000 in
set_option maxHeartbeats 400000 in
theorem b_sd0 {K : Option am_V → am_M → Prop} {X : Nat → am_L → List am_V → am_M → Prop} (hX : am_cl eX6_send lX6_send (some .int) K X) {σ : am_M} (a b : Int32) (h : ((a < (0 : Int32)) → K (some (.inl (-1 : Int32))) σ) ∧ (¬ (a < (0 : Int32)) → (((5 : Int32) < a) → K (some (.inl (-1 : Int32))) σ) ∧ (¬ ((5 : Int32) < a) → ((b < (0 : Int32)) → K (some (.inl (-1 : Int32))) σ) ∧ (¬ (b < (0 : Int32)) → (((1 : Int32) < b) → K (some (.inl (-1 : Int32))) σ) ∧ (¬ ((1 : Int32) < b) → (c_ok σ 0) ∧ ((c_ok σ 0) ∧ (sX3_gather [.inr (.inr (7, 0)), .inr (.inr (3, 0)), .inl ((σ 3 0 2) - (1 : Int32)), .inl (nI (c_here σ 0)), .inl (nI (c_who σ 0 (2 : Int32)))] σ (fun vv tt => X 55 [some (.inr (.inr (0, 0))), some (.inl a), some (.inl b), none, none, none, none] (vv.toList ++ []) tt)))))))) : X 0 [some (.inr (.inr (0, 0))), some (.inl a), some (.inl b), none, none, none, none] [] σ := am_run_ok emX6_send hX [55] 400 (show 3 ≤ 3 ∧ 0 ≤ 8 ∧ sX6_isWithin [.inl a, .inl (0 : Int32), .inl (5 : Int32)] σ (fun vv tt => am_run eX6_send lX6_send (some .int) K X [55] 396 6 [some (.inr (.inr (0, 0))), some (.inl a), some (.inl b), none, none, none, none] (vv.toList ++ []) tt) from ⟨am_le rfl, am_le rfl, tX6_isWithin (⟨fun q0 => (show (((0 : Int32) = (0 : Int32)) → K (some (.inl (-1 : Int32))) σ) ∧ (¬ ((0 : Int32) = (0 : Int32)) → _) from ⟨fun _ => (h.1 q0), fun q => absurd (by decide) q⟩), fun q0 => ⟨fun q1 => (show (((0 : Int32) = (0 : Int32)) → K (some (.inl (-1 : Int32))) σ) ∧ (¬ ((0 : Int32) = (0 : Int32)) → _) from ⟨fun _ => ((h.2 q0).1 q1), fun q => absurd (by decide) q⟩), fun q1 => (show (((1 : Int32) = (0 : Int32)) → _) ∧ (¬ ((1 : Int32) = (0 : Int32)) → 3 ≤ 3 ∧ 0 ≤ 8 ∧ sX6_isWithin [.inl b, .inl (0 : Int32), .inl (1 : Int32)] σ (fun vv tt => am_run eX6_send lX6_send (some .int) K X [55] 391 15 [some (.inr (.inr (0, 0))), some (.inl a), some (.inl b), none, none, none, none] (vv.toList ++ []) tt)) from ⟨fun q => absurd q (by decide), fun _ => ⟨am_le rfl, am_le rfl, tX6_isWithin (⟨fun q2 => (show (((0 : Int32) = (0 : Int32)) → K (some (.inl (-1 : Int32))) σ) ∧ (¬ ((0 : Int32) = (0 : Int32)) → _) from ⟨fun _ => (((h.2 q0).2 q1).1 q2), fun q => absurd (by decide) q⟩), fun q2 => ⟨fun q3 => (show (((0 : Int32) = (0 : Int32)) → K (some (.inl (-1 : Int32))) σ) ∧ (¬ ((0 : Int32) = (0 : Int32)) → _) from ⟨fun _ => ((((h.2 q0).2 q1).2 q2).1 q3), fun q => absurd (by decide) q⟩), fun q3 => (show (((1 : Int32) = (0 : Int32)) → _) ∧ (¬ ((1 : Int32) = (0 : Int32)) → 1 ≤ 4 ∧ 3 ≤ 8 ∧ True ∧ sX0_here [.inr (.inr (3, 0))] σ (fun vv tt => am_run eX6_send lX6_send (some .int) K X [55] 378 44 [some (.inr (.inr (0, 0))), some (.inl a), some (.inl b), none, none, none, none] (vv.toList ++ [.inl ((σ 3 0 2) - (1 : Int32)), .inr (.inr (3, 0)), .inr (.inr (7, 0))]) tt)) from ⟨fun q => absurd q (by decide), fun _ => ⟨am_le rfl, am_le rfl, trivial, uX0_here (⟨((((h.2 q0).2 q1).2 q2).2 q3).1, (show 2 ≤ 6 ∧ 4 ≤ 8 ∧ True ∧ sX0_those [.inr (.inr (3, 0)), .inl (2 : Int32)] σ (fun vv tt => am_run eX6_send lX6_send (some .int) K X [55] 374 52 [some (.inr (.inr (0, 0))), some (.inl a), some (.inl b), none, none, none, none] (vv.toList ++ [.inl (nI (c_here σ 0)), .inl ((σ 3 0 2) - (1 : Int32)), .inr (.inr (3, 0)), .inr (.inr (7, 0))]) tt) from ⟨am_le rfl, am_le rfl, trivial, tX0_those (⟨((((h.2 q0).2 q1).2 q2).2 q3).2.1, (show 5 ≤ 5 ∧ 0 ≤ 8 ∧ True ∧ sX3_gather [.inr (.inr (7, 0)), .inr (.inr (3, 0)), .inl ((σ 3 0 2) - (1 : Int32)), .inl (nI (c_here σ 0)), .inl (nI (c_who σ 0 (2 : Int32)))] σ (fun vv tt => X 55 [some (.inr (.inr (0, 0))), some (.inl a), some (.inl b), none, none, none, none] (vv.toList ++ []) tt) from ⟨am_le rfl, am_le rfl, trivial, ((((h.2 q0).2 q1).2 q2).2 q3).2.2⟩)⟩)⟩)⟩)⟩⟩)⟩⟩)⟩⟩)⟩⟩)⟩)
set_option maxRecDepth 100000 in
set_option maxHeartbeats 400000 in
theorem b_sd55 {K : Option am_V → am_M → Prop} {X : Nat → am_L → List am_V → am_M → Prop} (hX : am_cl eX6_send lX6_send (some .int) K X) {σ : am_M} (a b : Int32) (h : X 78 [some (.inr (.inr (0, 0))), some (.inl a), some (.inl b), some (.inl (0 : Int32)), some (.inl (-4 : Int32)), some (.inl (0 : Int32)), none] [] (am_u (am_u σ 19 0 0 (0 : Int32)) 19 0 2 a)) : X 55 [some (.inr (.inr (0, 0))), some (.inl a), some (.inl b), none, none, none, none] [] σ := am_run_ok emX6_send hX [78] 400 (show (vp_in (0 : Int32) 7) ∧ ((vp_in (2 : Int32) 7) ∧ (X 78 [some (.inr (.inr (0, 0))), some (.inl a), some (.inl b), some (.inl (0 : Int32)), some (.inl (-4 : Int32)), some (.inl (0 : Int32)), none] [] (am_u (am_u σ 19 0 0 (0 : Int32)) 19 0 2 a))) from ⟨am_ci (by decide), ⟨am_ci (by decide), h⟩⟩)
set_option maxRecDepth 100000 in
set_option maxHeartbeats 400000 in
theorem b_sd78 {K : Option am_V → am_M → Prop} {X : Nat → am_L → List am_V → am_M → Prop} (hX : am_cl eX6_send lX6_send (some .int) K X) {σ : am_M} (a b x y : Int32) (t : Nat) (h : (((5 : Int32) < (nI t)) → ((b = (0 : Int32)) → K (some (.inl x)) σ) ∧ (¬ (b = (0 : Int32)) → K (some (.inl y)) σ)) ∧ (¬ ((5 : Int32) < (nI t)) → X 87 [some (.inr (.inr (0, 0))), some (.inl a), some (.inl b), some (.inl x), some (.inl y), some (.inl (nI t)), some (.inl (0 : Int32))] [] σ)) : X 78 [some (.inr (.inr (0, 0))), some (.inl a), some (.inl b), some (.inl x), some (.inl y), some (.inl (nI t)), none] [] σ := am_run_ok emX6_send hX [87] 400 (show (((5 : Int32) < (nI t)) → ((b = (0 : Int32)) → K (some (.inl x)) σ) ∧ (¬ (b = (0 : Int32)) → K (some (.inl y)) σ)) ∧ (¬ ((5 : Int32) < (nI t)) → X 87 [some (.inr (.inr (0, 0))), some (.inl a), some (.inl b), some (.inl x), some (.inl y), some (.inl (nI t)), some (.inl (0 : Int32))] [] σ) from ⟨fun q0 => ⟨fun q1 => ((h.1 q0).1 q1), fun q1 => ((h.1 q0).2 q1)⟩, fun q0 => (h.2 q0)⟩)
set_option maxRecDepth 100000 in
set_option maxHeartbeats 400000 in
theorem b_sd87 {K : Option am_V → am_M → Prop} {X : Nat → am_L → List am_V → am_M → Prop} (hX : am_cl eX6_send lX6_send (some .int) K X) {σ : am_M} (a b x y : Int32) (t u : Nat) (h : (((5 : Int32) < (nI u)) → X 165 [some (.inr (.inr (0, 0))), some (.inl a), some (.inl b), some (.inl x), some (.inl y), some (.inl (nI t)), some (.inl (nI u))] [] σ) ∧ (¬ ((5 : Int32) < (nI u)) → (c_ok (am_u (am_u σ 19 0 1 (nI t)) 19 0 3 (nI u)) 0) ∧ (sX3_hasOneWithin [.inr (.inr (7, 0)), .inl ((nI (c_riv (am_u (am_u σ 19 0 1 (nI t)) 19 0 3 (nI u)) 0 ((am_u (am_u σ 19 0 1 (nI t)) 19 0 3 (nI u)) 19 0) (-4 : Int32))) ^^^ (-1 : Int32))] (am_u (am_u σ 19 0 1 (nI t)) 19 0 3 (nI u)) (fun vv tt => X 131 [some (.inr (.inr (0, 0))), some (.inl a), some (.inl b), some (.inl x), some (.inl y), some (.inl (nI t)), some (.inl (nI u))] (vv.toList ++ []) tt)))) : X 87 [some (.inr (.inr (0, 0))), some (.inl a), some (.inl b), some (.inl x), some (.inl y), some (.inl (nI t)), some (.inl (nI u))] [] σ := am_run_ok emX6_send hX [131, 165] 400 (show (((5 : Int32) < (nI u)) → X 165 [some (.inr (.inr (0, 0))), some (.inl a), some (.inl b), some (.inl x), some (.inl y), some (.inl (nI t)), some (.inl (nI u))] [] σ) ∧ (¬ ((5 : Int32) < (nI u)) → (vp_in (1 : Int32) 7) ∧ ((vp_in (3 : Int32) 7) ∧ (3 ≤ 4 ∧ 1 ≤ 8 ∧ True ∧ sX0_rivalsOf [.inr (.inr (3, 0)), .inr (.inr (19, 0)), .inl (-4 : Int32)] (am_u (am_u σ 19 0 1 (nI t)) 19 0 3 (nI u)) (fun vv tt => am_run eX6_send lX6_send (some .int) K X [131, 165] 379 126 [some (.inr (.inr (0, 0))), some (.inl a), some (.inl b), some (.inl x), some (.inl y), some (.inl (nI t)), some (.inl (nI u))] (vv.toList ++ [.inr (.inr (7, 0))]) tt)))) from ⟨fun q0 => (h.1 q0), fun q0 => ⟨am_ci (by decide), ⟨am_ci (by decide), ⟨am_le rfl, am_le rfl, trivial, tX0_rivalsOfg (⟨(h.2 q0).1, (show 2 ≤ 2 ∧ 0 ≤ 8 ∧ True ∧ sX3_hasOneWithin [.inr (.inr (7, 0)), .inl ((nI (c_riv (am_u (am_u σ 19 0 1 (nI t)) 19 0 3 (nI u)) 0 ((am_u (am_u σ 19 0 1 (nI t)) 19 0 3 (nI u)) 19 0) (-4 : Int32))) ^^^ (-1 : Int32))] (am_u (am_u σ 19 0 1 (nI t)) 19 0 3 (nI u)) (fun vv tt => X 131 [some (.inr (.inr (0, 0))), some (.inl a), some (.inl b), some (.inl x), some (.inl y), some (.inl (nI t)), some (.inl (nI u))] (vv.toList ++ []) tt) from ⟨am_le rfl, am_le rfl, trivial, (h.2 q0).2⟩)⟩)⟩⟩⟩⟩)
set_option maxRecDepth 100000 in
set_option maxHeartbeats 400000 in
theorem b_sd131 {K : Option am_V → am_M → Prop} {X : Nat → am_L → List am_V → am_M → Prop} (hX : am_cl eX6_send lX6_send (some .int) K X) {σ : am_M} (a b x y v : Int32) (t u : Nat) (h : ((v = (0 : Int32)) → X 159 [some (.inr (.inr (0, 0))), some (.inl a), some (.inl b), some (.inl x), some (.inl y), some (.inl (nI t)), some (.inl (nI u))] [] σ) ∧ (¬ (v = (0 : Int32)) → ((y = (-4 : Int32)) → X 159 [some (.inr (.inr (0, 0))), some (.inl a), some (.inl b), some (.inl (x + (1 : Int32))), some (.inl (((10 : Int32) * (nI t)) + (nI u))), some (.inl (nI t)), some (.inl (nI u))] [] σ) ∧ (¬ (y = (-4 : Int32)) → X 159 [some (.inr (.inr (0, 0))), some (.inl a), some (.inl b), some (.inl (x + (1 : Int32))), some (.inl y), some (.inl (nI t)), some (.inl (nI u))] [] σ))) : X 131 [some (.inr (.inr (0, 0))), some (.inl a), some (.inl b), some (.inl x), some (.inl y), some (.inl (nI t)), some (.inl (nI u))] [.inl v] σ := am_run_ok emX6_send hX [159] 400 (show ((v = (0 : Int32)) → X 159 [some (.inr (.inr (0, 0))), some (.inl a), some (.inl b), some (.inl x), some (.inl y), some (.inl (nI t)), some (.inl (nI u))] [] σ) ∧ (¬ (v = (0 : Int32)) → ((y = (-4 : Int32)) → X 159 [some (.inr (.inr (0, 0))), some (.inl a), some (.inl b), some (.inl (x + (1 : Int32))), some (.inl (((10 : Int32) * (nI t)) + (nI u))), some (.inl (nI t)), some (.inl (nI u))] [] σ) ∧ (¬ (y = (-4 : Int32)) → X 159 [some (.inr (.inr (0, 0))), some (.inl a), some (.inl b), some (.inl (x + (1 : Int32))), some (.inl y), some (.inl (nI t)), some (.inl (nI u))] [] σ)) from ⟨fun q0 => (h.1 q0), fun q0 => ⟨fun q1 => ((h.2 q0).1 q1), fun q1 => ((h.2 q0).2 q1)⟩⟩)
set_option maxRecDepth 100000 in
set_option maxHeartbeats 400000 in
theorem b_sd159 {K : Option am_V → am_M → Prop} {X : Nat → am_L → List am_V → am_M → Prop} (hX : am_cl eX6_send lX6_send (some .int) K X) {σ : am_M} (a b x y : Int32) (t u : Nat) (h : X 87 [some (.inr (.inr (0, 0))), some (.inl a), some (.inl b), some (.inl x), some (.inl y), some (.inl (nI t)), some (.inl ((nI u) + (1 : Int32)))] [] σ) : X 159 [some (.inr (.inr (0, 0))), some (.inl a), some (.inl b), some (.inl x), some (.inl y), some (.inl (nI t)), some (.inl (nI u))] [] σ := am_run_ok emX6_send hX [87] 400 (show X 87 [some (.inr (.inr (0, 0))), some (.inl a), some (.inl b), some (.inl x), some (.inl y), some (.inl (nI t)), some (.inl ((nI u) + (1 : Int32)))] [] σ from h)
set_option maxRecDepth 100000 in
set_option maxHeartbeats 400000 in
theorem b_sd165 {K : Option am_V → am_M → Prop} {X : Nat → am_L → List am_V → am_M → Prop} (hX : am_cl eX6_send lX6_send (some .int) K X) {σ : am_M} (a b x y : Int32) (t : Nat) (h : X 78 [some (.inr (.inr (0, 0))), some (.inl a), some (.inl b), some (.inl x), some (.inl y), some (.inl ((nI t) + (1 : Int32))), none] [] σ) : X 165 [some (.inr (.inr (0, 0))), some (.inl a), some (.inl b), some (.inl x), some (.inl y), some (.inl (nI t)), none] [] σ := am_run_ok emX6_send hX [78] 400 (show X 78 [some (.inr (.inr (0, 0))), some (.inl a), some (.inl b), some (.inl x), some (.inl y), some (.inl ((nI t) + (1 : Int32))), none] [] σ from h)
set_option maxRecDepth 100000 in
set_option maxHeartbeats 400000 in
theorem b_ua0 {K : Option am_V → am_M → Prop} {X : Nat → am_L → List am_V → am_M → Prop} (hX : am_cl eX7_isUnlikeAll lX7_isUnlikeAll (some .boolean) K X) {σ : am_M} (x y z : Int32) (S : Nat) (h : X 6 [some (.inr (.inr (20, 0))), some (.inl x), some (.inl y), some (.inl z), some (.inl (nI S)), some (.inl (1 : Int32)), some (.inl (0 : Int32)), none, none] [] σ) : X 0 [some (.inr (.inr (20, 0))), some (.inl x), some (.inl y), some (.inl z), some (.inl (nI S)), none, none, none, none] [] σ := am_run_ok emX7_isUnlikeAll hX [6] 400 (show X 6 [some (.inr (.inr (20, 0))), some (.inl x), some (.inl y), some (.inl z), some (.inl (nI S)), some (.inl (1 : Int32)), some (.inl (0 : Int32)), none, none] [] σ from h)
set_option maxRecDepth 100000 in
set_option maxHeartbeats 400000 in
theorem b_ua6 {K : Option am_V → am_M → Prop} {X : Nat → am_L → List am_V → am_M → Prop} (hX : am_cl eX7_isUnlikeAll lX7_isUnlikeAll (some .boolean) K X) {σ : am_M} (x y z b : Int32) (S p : Nat) (h : (((σ 20 0 1) ≤ (nI p)) → (narrow .boolean (.int b) = .int b) ∧ (K (some (.inl b)) σ)) ∧ (¬ ((σ 20 0 1) ≤ (nI p)) → X 18 [some (.inr (.inr (20, 0))), some (.inl x), some (.inl y), some (.inl z), some (.inl (nI S)), some (.inl b), some (.inl (nI p)), some (.inl (1 : Int32)), none] [] σ)) : X 6 [some (.inr (.inr (20, 0))), some (.inl x), some (.inl y), some (.inl z), some (.inl (nI S)), some (.inl b), some (.inl (nI p)), none, none] [] σ := am_run_ok emX7_isUnlikeAll hX [18] 400 (show (((σ 20 0 1) ≤ (nI p)) → (narrow .boolean (.int b) = .int b) ∧ (K (some (.inl b)) σ)) ∧ (¬ ((σ 20 0 1) ≤ (nI p)) → X 18 [some (.inr (.inr (20, 0))), some (.inl x), some (.inl y), some (.inl z), some (.inl (nI S)), some (.inl b), some (.inl (nI p)), some (.inl (1 : Int32)), none] [] σ) from ⟨fun q0 => ⟨(h.1 q0).1, (h.1 q0).2⟩, fun q0 => (h.2 q0)⟩)
set_option maxRecDepth 100000 in
set_option maxHeartbeats 400000 in
theorem b_ub1 {K : Option am_V → am_M → Prop} {X : Nat → am_L → List am_V → am_M → Prop} (hX : am_cl eX7_isUnlikeAll lX7_isUnlikeAll (some .boolean) K X) {σ : am_M} (x y z b : Int32) (S p : Nat) (h : (((((nI S) >>> ((nI p) &&& 31)) &&& (1 : Int32)) = (1 : Int32)) → ((b = (0 : Int32)) → X 18 [some (.inr (.inr (20, 0))), some (.inl x), some (.inl y), some (.inl z), some (.inl (nI S)), some (.inl (0 : Int32)), some (.inl (nI p)), some (.inl (2 : Int32)), some (.inl x)] [] σ) ∧ (¬ (b = (0 : Int32)) → (vp_in ((7 : Int32) * (nI p)) 340) ∧ (((1 : Int32) = 1 ∨ ((1 : Int32) = 2 ∨ (1 : Int32) = 3)) ∧ (((cn (σ 21 0 ((7 : Int32) * (nI p)).toNatClampNeg) (1 : Int32) = true) → (vp_in (((7 : Int32) * (nI p)) + (1 : Int32)) 340) ∧ ((((σ 21 0 (((7 : Int32) * (nI p)) + (1 : Int32)).toNatClampNeg) = x) → X 18 [some (.inr (.inr (20, 0))), some (.inl x), some (.inl y), some (.inl z), some (.inl (nI S)), some (.inl (0 : Int32)), some (.inl (nI p)), some (.inl (2 : Int32)), some (.inl x)] [] σ) ∧ (¬ ((σ 21 0 (((7 : Int32) * (nI p)) + (1 : Int32)).toNatClampNeg) = x) → X 18 [some (.inr (.inr (20, 0))), some (.inl x), some (.inl y), some (.inl z), some (.inl (nI S)), some (.inl (1 : Int32)), some (.inl (nI p)), some (.inl (2 : Int32)), some (.inl x)] [] σ))) ∧ (¬ (cn (σ 21 0 ((7 : Int32) * (nI p)).toNatClampNeg) (1 : Int32) = true) → X 18 [some (.inr (.inr (20, 0))), some (.inl x), some (.inl y), some (.inl z), some (.inl (nI S)), some (.inl (1 : Int32)), some (.inl (nI p)), some (.inl (2 : Int32)), some (.inl x)] [] σ))))) ∧ (¬ ((((nI S) >>> ((nI p) &&& 31)) &&& (1 : Int32)) = (1 : Int32)) → X 112 [some (.inr (.inr (20, 0))), some (.inl x), some (.inl y), some (.inl z), some (.inl (nI S)), some (.inl b), some (.inl (nI p)), some (.inl (1 : Int32)), none] [] σ)) : X 18 [some (.inr (.inr (20, 0))), some (.inl x), some (.inl y), some (.inl z), some (.inl (nI S)), some (.inl b), some (.inl (nI p)), some (.inl (1 : Int32)), none] [] σ := am_run_ok emX7_isUnlikeAll hX [18, 112] 400 (show (((4 : Int32) ≤ (1 : Int32)) → _) ∧ (¬ ((4 : Int32) ≤ (1 : Int32)) → (((((nI S) >>> ((nI p) &&& 31)) &&& (1 : Int32)) = (1 : Int32)) → (((1 : Int32) = (1 : Int32)) → ((b = (0 : Int32)) → X 18 [some (.inr (.inr (20, 0))), some (.inl x), some (.inl y), some (.inl z), some (.inl (nI S)), some (.inl (0 : Int32)), some (.inl (nI p)), some (.inl (2 : Int32)), some (.inl x)] [] σ) ∧ (¬ (b = (0 : Int32)) → (vp_in ((7 : Int32) * (nI p)) 340) ∧ (2 ≤ 2 ∧ 0 ≤ 8 ∧ sX7_counts [.inl (σ 21 0 ((7 : Int32) * (nI p)).toNatClampNeg), .inl (1 : Int32)] σ (fun vv tt => am_run eX7_isUnlikeAll lX7_isUnlikeAll (some .boolean) K X [18, 112] 374 78 [some (.inr (.inr (20, 0))), some (.inl x), some (.inl y), some (.inl z), some (.inl (nI S)), some (.inl b), some (.inl (nI p)), some (.inl (1 : Int32)), some (.inl x)] (vv.toList ++ []) tt)))) ∧ (¬ ((1 : Int32) = (1 : Int32)) → _)) ∧ (¬ ((((nI S) >>> ((nI p) &&& 31)) &&& (1 : Int32)) = (1 : Int32)) → X 112 [some (.inr (.inr (20, 0))), some (.inl x), some (.inl y), some (.inl z), some (.inl (nI S)), some (.inl b), some (.inl (nI p)), some (.inl (1 : Int32)), none] [] σ)) from ⟨fun q => absurd q (by decide), fun _ => ⟨fun q0 => ⟨fun _ => ⟨fun q1 => ((h.1 q0).1 q1), fun q1 => ⟨((h.1 q0).2 q1).1, ⟨am_le rfl, am_le rfl, uX7_counts (⟨((h.1 q0).2 q1).2.1, ⟨fun q2 => (show (((1 : Int32) = (0 : Int32)) → _) ∧ (¬ ((1 : Int32) = (0 : Int32)) → (vp_in (((7 : Int32) * (nI p)) + (1 : Int32)) 340) ∧ ((((σ 21 0 (((7 : Int32) * (nI p)) + (1 : Int32)).toNatClampNeg) = x) → X 18 [some (.inr (.inr (20, 0))), some (.inl x), some (.inl y), some (.inl z), some (.inl (nI S)), some (.inl (0 : Int32)), some (.inl (nI p)), some (.inl (2 : Int32)), some (.inl x)] [] σ) ∧ (¬ ((σ 21 0 (((7 : Int32) * (nI p)) + (1 : Int32)).toNatClampNeg) = x) → X 18 [some (.inr (.inr (20, 0))), some (.inl x), some (.inl y), some (.inl z), some (.inl (nI S)), some (.inl (1 : Int32)), some (.inl (nI p)), some (.inl (2 : Int32)), some (.inl x)] [] σ))) from ⟨fun q => absurd q (by decide), fun _ => ⟨(((h.1 q0).2 q1).2.2.1 q2).1, ⟨fun q3 => ((((h.1 q0).2 q1).2.2.1 q2).2.1 q3), fun q3 => ((((h.1 q0).2 q1).2.2.1 q2).2.2 q3)⟩⟩⟩), fun q2 => (show (((0 : Int32) = (0 : Int32)) → X 18 [some (.inr (.inr (20, 0))), some (.inl x), some (.inl y), some (.inl z), some (.inl (nI S)), some (.inl (1 : Int32)), some (.inl (nI p)), some (.inl (2 : Int32)), some (.inl x)] [] σ) ∧ (¬ ((0 : Int32) = (0 : Int32)) → _) from ⟨fun _ => (((h.1 q0).2 q1).2.2.2 q2), fun q => absurd (by decide) q⟩)⟩⟩)⟩⟩⟩, fun q => absurd (by decide) q⟩, fun q0 => (h.2 q0)⟩⟩)
set_option maxRecDepth 100000 in
set_option maxHeartbeats 400000 in
theorem b_ub2 {K : Option am_V → am_M → Prop} {X : Nat → am_L → List am_V → am_M → Prop} (hX : am_cl eX7_isUnlikeAll lX7_isUnlikeAll (some .boolean) K X) {σ : am_M} (x y z b : Int32) (S p : Nat) (h : (((((nI S) >>> ((nI p) &&& 31)) &&& (1 : Int32)) = (1 : Int32)) → ((b = (0 : Int32)) → X 18 [some (.inr (.inr (20, 0))), some (.inl x), some (.inl y), some (.inl z), some (.inl (nI S)), some (.inl (0 : Int32)), some (.inl (nI p)), some (.inl (3 : Int32)), some (.inl y)] [] σ) ∧ (¬ (b = (0 : Int32)) → (vp_in ((7 : Int32) * (nI p)) 340) ∧ (((2 : Int32) = 1 ∨ ((2 : Int32) = 2 ∨ (2 : Int32) = 3)) ∧ (((cn (σ 21 0 ((7 : Int32) * (nI p)).toNatClampNeg) (2 : Int32) = true) → (vp_in (((7 : Int32) * (nI p)) + (2 : Int32)) 340) ∧ ((((σ 21 0 (((7 : Int32) * (nI p)) + (2 : Int32)).toNatClampNeg) = y) → X 18 [some (.inr (.inr (20, 0))), some (.inl x), some (.inl y), some (.inl z), some (.inl (nI S)), some (.inl (0 : Int32)), some (.inl (nI p)), some (.inl (3 : Int32)), some (.inl y)] [] σ) ∧ (¬ ((σ 21 0 (((7 : Int32) * (nI p)) + (2 : Int32)).toNatClampNeg) = y) → X 18 [some (.inr (.inr (20, 0))), some (.inl x), some (.inl y), some (.inl z), some (.inl (nI S)), some (.inl (1 : Int32)), some (.inl (nI p)), some (.inl (3 : Int32)), some (.inl y)] [] σ))) ∧ (¬ (cn (σ 21 0 ((7 : Int32) * (nI p)).toNatClampNeg) (2 : Int32) = true) → X 18 [some (.inr (.inr (20, 0))), some (.inl x), some (.inl y), some (.inl z), some (.inl (nI S)), some (.inl (1 : Int32)), some (.inl (nI p)), some (.inl (3 : Int32)), some (.inl y)] [] σ))))) ∧ (¬ ((((nI S) >>> ((nI p) &&& 31)) &&& (1 : Int32)) = (1 : Int32)) → X 112 [some (.inr (.inr (20, 0))), some (.inl x), some (.inl y), some (.inl z), some (.inl (nI S)), some (.inl b), some (.inl (nI p)), some (.inl (2 : Int32)), none] [] σ)) : X 18 [some (.inr (.inr (20, 0))), some (.inl x), some (.inl y), some (.inl z), some (.inl (nI S)), some (.inl b), some (.inl (nI p)), some (.inl (2 : Int32)), none] [] σ := am_run_ok emX7_isUnlikeAll hX [18, 112] 400 (show (((4 : Int32) ≤ (2 : Int32)) → _) ∧ (¬ ((4 : Int32) ≤ (2 : Int32)) → (((((nI S) >>> ((nI p) &&& 31)) &&& (1 : Int32)) = (1 : Int32)) → (((2 : Int32) = (1 : Int32)) → _) ∧ (¬ ((2 : Int32) = (1 : Int32)) → (((2 : Int32) = (2 : Int32)) → ((b = (0 : Int32)) → X 18 [some (.inr (.inr (20, 0))), some (.inl x), some (.inl y), some (.inl z), some (.inl (nI S)), some (.inl (0 : Int32)), some (.inl (nI p)), some (.inl (3 : Int32)), some (.inl y)] [] σ) ∧ (¬ (b = (0 : Int32)) → (vp_in ((7 : Int32) * (nI p)) 340) ∧ (2 ≤ 2 ∧ 0 ≤ 8 ∧ sX7_counts [.inl (σ 21 0 ((7 : Int32) * (nI p)).toNatClampNeg), .inl (2 : Int32)] σ (fun vv tt => am_run eX7_isUnlikeAll lX7_isUnlikeAll (some .boolean) K X [18, 112] 371 78 [some (.inr (.inr (20, 0))), some (.inl x), some (.inl y), some (.inl z), some (.inl (nI S)), some (.inl b), some (.inl (nI p)), some (.inl (2 : Int32)), some (.inl y)] (vv.toList ++ []) tt)))) ∧ (¬ ((2 : Int32) = (2 : Int32)) → _))) ∧ (¬ ((((nI S) >>> ((nI p) &&& 31)) &&& (1 : Int32)) = (1 : Int32)) → X 112 [some (.inr (.inr (20, 0))), some (.inl x), some (.inl y), some (.inl z), some (.inl (nI S)), some (.inl b), some (.inl (nI p)), some (.inl (2 : Int32)), none] [] σ)) from ⟨fun q => absurd q (by decide), fun _ => ⟨fun q0 => ⟨fun q => absurd q (by decide), fun _ => ⟨fun _ => ⟨fun q1 => ((h.1 q0).1 q1), fun q1 => ⟨((h.1 q0).2 q1).1, ⟨am_le rfl, am_le rfl, uX7_counts (⟨((h.1 q0).2 q1).2.1, ⟨fun q2 => (show (((1 : Int32) = (0 : Int32)) → _) ∧ (¬ ((1 : Int32) = (0 : Int32)) → (vp_in (((7 : Int32) * (nI p)) + (2 : Int32)) 340) ∧ ((((σ 21 0 (((7 : Int32) * (nI p)) + (2 : Int32)).toNatClampNeg) = y) → X 18 [some (.inr (.inr (20, 0))), some (.inl x), some (.inl y), some (.inl z), some (.inl (nI S)), some (.inl (0 : Int32)), some (.inl (nI p)), some (.inl (3 : Int32)), some (.inl y)] [] σ) ∧ (¬ ((σ 21 0 (((7 : Int32) * (nI p)) + (2 : Int32)).toNatClampNeg) = y) → X 18 [some (.inr (.inr (20, 0))), some (.inl x), some (.inl y), some (.inl z), some (.inl (nI S)), some (.inl (1 : Int32)), some (.inl (nI p)), some (.inl (3 : Int32)), some (.inl y)] [] σ))) from ⟨fun q => absurd q (by decide), fun _ => ⟨(((h.1 q0).2 q1).2.2.1 q2).1, ⟨fun q3 => ((((h.1 q0).2 q1).2.2.1 q2).2.1 q3), fun q3 => ((((h.1 q0).2 q1).2.2.1 q2).2.2 q3)⟩⟩⟩), fun q2 => (show (((0 : Int32) = (0 : Int32)) → X 18 [some (.inr (.inr (20, 0))), some (.inl x), some (.inl y), some (.inl z), some (.inl (nI S)), some (.inl (1 : Int32)), some (.inl (nI p)), some (.inl (3 : Int32)), some (.inl y)] [] σ) ∧ (¬ ((0 : Int32) = (0 : Int32)) → _) from ⟨fun _ => (((h.1 q0).2 q1).2.2.2 q2), fun q => absurd (by decide) q⟩)⟩⟩)⟩⟩⟩, fun q => absurd (by decide) q⟩⟩, fun q0 => (h.2 q0)⟩⟩)
set_option maxRecDepth 100000 in
set_option maxHeartbeats 400000 in
theorem b_ub3 {K : Option am_V → am_M → Prop} {X : Nat → am_L → List am_V → am_M → Prop} (hX : am_cl eX7_isUnlikeAll lX7_isUnlikeAll (some .boolean) K X) {σ : am_M} (x y z b : Int32) (S p : Nat) (h : (((((nI S) >>> ((nI p) &&& 31)) &&& (1 : Int32)) = (1 : Int32)) → ((b = (0 : Int32)) → X 18 [some (.inr (.inr (20, 0))), some (.inl x), some (.inl y), some (.inl z), some (.inl (nI S)), some (.inl (0 : Int32)), some (.inl (nI p)), some (.inl (4 : Int32)), some (.inl z)] [] σ) ∧ (¬ (b = (0 : Int32)) → (vp_in ((7 : Int32) * (nI p)) 340) ∧ (((3 : Int32) = 1 ∨ ((3 : Int32) = 2 ∨ (3 : Int32) = 3)) ∧ (((cn (σ 21 0 ((7 : Int32) * (nI p)).toNatClampNeg) (3 : Int32) = true) → (vp_in (((7 : Int32) * (nI p)) + (3 : Int32)) 340) ∧ ((((σ 21 0 (((7 : Int32) * (nI p)) + (3 : Int32)).toNatClampNeg) = z) → X 18 [some (.inr (.inr (20, 0))), some (.inl x), some (.inl y), some (.inl z), some (.inl (nI S)), some (.inl (0 : Int32)), some (.inl (nI p)), some (.inl (4 : Int32)), some (.inl z)] [] σ) ∧ (¬ ((σ 21 0 (((7 : Int32) * (nI p)) + (3 : Int32)).toNatClampNeg) = z) → X 18 [some (.inr (.inr (20, 0))), some (.inl x), some (.inl y), some (.inl z), some (.inl (nI S)), some (.inl (1 : Int32)), some (.inl (nI p)), some (.inl (4 : Int32)), some (.inl z)] [] σ))) ∧ (¬ (cn (σ 21 0 ((7 : Int32) * (nI p)).toNatClampNeg) (3 : Int32) = true) → X 18 [some (.inr (.inr (20, 0))), some (.inl x), some (.inl y), some (.inl z), some (.inl (nI S)), some (.inl (1 : Int32)), some (.inl (nI p)), some (.inl (4 : Int32)), some (.inl z)] [] σ))))) ∧ (¬ ((((nI S) >>> ((nI p) &&& 31)) &&& (1 : Int32)) = (1 : Int32)) → X 112 [some (.inr (.inr (20, 0))), some (.inl x), some (.inl y), some (.inl z), some (.inl (nI S)), some (.inl b), some (.inl (nI p)), some (.inl (3 : Int32)), none] [] σ)) : X 18 [some (.inr (.inr (20, 0))), some (.inl x), some (.inl y), some (.inl z), some (.inl (nI S)), some (.inl b), some (.inl (nI p)), some (.inl (3 : Int32)), none] [] σ := am_run_ok emX7_isUnlikeAll hX [18, 112] 400 (show (((4 : Int32) ≤ (3 : Int32)) → _) ∧ (¬ ((4 : Int32) ≤ (3 : Int32)) → (((((nI S) >>> ((nI p) &&& 31)) &&& (1 : Int32)) = (1 : Int32)) → (((3 : Int32) = (1 : Int32)) → _) ∧ (¬ ((3 : Int32) = (1 : Int32)) → (((3 : Int32) = (2 : Int32)) → _) ∧ (¬ ((3 : Int32) = (2 : Int32)) → ((b = (0 : Int32)) → X 18 [some (.inr (.inr (20, 0))), some (.inl x), some (.inl y), some (.inl z), some (.inl (nI S)), some (.inl (0 : Int32)), some (.inl (nI p)), some (.inl (4 : Int32)), some (.inl z)] [] σ) ∧ (¬ (b = (0 : Int32)) → (vp_in ((7 : Int32) * (nI p)) 340) ∧ (2 ≤ 2 ∧ 0 ≤ 8 ∧ sX7_counts [.inl (σ 21 0 ((7 : Int32) * (nI p)).toNatClampNeg), .inl (3 : Int32)] σ (fun vv tt => am_run eX7_isUnlikeAll lX7_isUnlikeAll (some .boolean) K X [18, 112] 372 78 [some (.inr (.inr (20, 0))), some (.inl x), some (.inl y), some (.inl z), some (.inl (nI S)), some (.inl b), some (.inl (nI p)), some (.inl (3 : Int32)), some (.inl z)] (vv.toList ++ []) tt)))))) ∧ (¬ ((((nI S) >>> ((nI p) &&& 31)) &&& (1 : Int32)) = (1 : Int32)) → X 112 [some (.inr (.inr (20, 0))), some (.inl x), some (.inl y), some (.inl z), some (.inl (nI S)), some (.inl b), some (.inl (nI p)), some (.inl (3 : Int32)), none] [] σ)) from ⟨fun q => absurd q (by decide), fun _ => ⟨fun q0 => ⟨fun q => absurd q (by decide), fun _ => ⟨fun q => absurd q (by decide), fun _ => ⟨fun q1 => ((h.1 q0).1 q1), fun q1 => ⟨((h.1 q0).2 q1).1, ⟨am_le rfl, am_le rfl, uX7_counts (⟨((h.1 q0).2 q1).2.1, ⟨fun q2 => (show (((1 : Int32) = (0 : Int32)) → _) ∧ (¬ ((1 : Int32) = (0 : Int32)) → (vp_in (((7 : Int32) * (nI p)) + (3 : Int32)) 340) ∧ ((((σ 21 0 (((7 : Int32) * (nI p)) + (3 : Int32)).toNatClampNeg) = z) → X 18 [some (.inr (.inr (20, 0))), some (.inl x), some (.inl y), some (.inl z), some (.inl (nI S)), some (.inl (0 : Int32)), some (.inl (nI p)), some (.inl (4 : Int32)), some (.inl z)] [] σ) ∧ (¬ ((σ 21 0 (((7 : Int32) * (nI p)) + (3 : Int32)).toNatClampNeg) = z) → X 18 [some (.inr (.inr (20, 0))), some (.inl x), some (.inl y), some (.inl z), some (.inl (nI S)), some (.inl (1 : Int32)), some (.inl (nI p)), some (.inl (4 : Int32)), some (.inl z)] [] σ))) from ⟨fun q => absurd q (by decide), fun _ => ⟨(((h.1 q0).2 q1).2.2.1 q2).1, ⟨fun q3 => ((((h.1 q0).2 q1).2.2.1 q2).2.1 q3), fun q3 => ((((h.1 q0).2 q1).2.2.1 q2).2.2 q3)⟩⟩⟩), fun q2 => (show (((0 : Int32) = (0 : Int32)) → X 18 [some (.inr (.inr (20, 0))), some (.inl x), some (.inl y), some (.inl z), some (.inl (nI S)), some (.inl (1 : Int32)), some (.inl (nI p)), some (.inl (4 : Int32)), some (.inl z)] [] σ) ∧ (¬ ((0 : Int32) = (0 : Int32)) → _) from ⟨fun _ => (((h.1 q0).2 q1).2.2.2 q2), fun q => absurd (by decide) q⟩)⟩⟩)⟩⟩⟩⟩⟩, fun q0 => (h.2 q0)⟩⟩)
set_option maxRecDepth 100000 in
set_option maxHeartbeats 400000 in
theorem b_ub4 {K : Option am_V → am_M → Prop} {X : Nat → am_L → List am_V → am_M → Prop} (hX : am_cl eX7_isUnlikeAll lX7_isUnlikeAll (some .boolean) K X) {σ : am_M} (x y z b : Int32) (S p : Nat) (h : X 112 [some (.inr (.inr (20, 0))), some (.inl x), some (.inl y), some (.inl z), some (.inl (nI S)), some (.inl b), some (.inl (nI p)), some (.inl (4 : Int32)), none] [] σ) : X 18 [some (.inr (.inr (20, 0))), some (.inl x), some (.inl y), some (.inl z), some (.inl (nI S)), some (.inl b), some (.inl (nI p)), some (.inl (4 : Int32)), none] [] σ := am_run_ok emX7_isUnlikeAll hX [18, 112] 400 (show (((4 : Int32) ≤ (4 : Int32)) → X 112 [some (.inr (.inr (20, 0))), some (.inl x), some (.inl y), some (.inl z), some (.inl (nI S)), some (.inl b), some (.inl (nI p)), some (.inl (4 : Int32)), none] [] σ) ∧ (¬ ((4 : Int32) ≤ (4 : Int32)) → _) from ⟨fun _ => h, fun q => absurd (by decide) q⟩)
set_option maxRecDepth 100000 in
set_option maxHeartbeats 400000 in
theorem b_ua112 {K : Option am_V → am_M → Prop} {X : Nat → am_L → List am_V → am_M → Prop} (hX : am_cl eX7_isUnlikeAll lX7_isUnlikeAll (some .boolean) K X) {σ : am_M} (x y z b : Int32) (S p : Nat) (h : X 6 [some (.inr (.inr (20, 0))), some (.inl x), some (.inl y), some (.inl z), some (.inl (nI S)), some (.inl b), some (.inl ((nI p) + (1 : Int32))), none, none] [] σ) : X 112 [some (.inr (.inr (20, 0))), some (.inl x), some (.inl y), some (.inl z), some (.inl (nI S)), some (.inl b), some (.inl (nI p)), none, none] [] σ := am_run_ok emX7_isUnlikeAll hX [6] 400 (show X 6 [some (.inr (.inr (20, 0))), some (.inl x), some (.inl y), some (.inl z), some (.inl (nI S)), some (.inl b), some (.inl ((nI p) + (1 : Int32))), none, none] [] σ from h)
set_option maxRecDepth 100000 in
set_option maxHeartbeats 400000 in
theorem b_cs0 {K : Option am_V → am_M → Prop} {X : Nat → am_L → List am_V → am_M → Prop} (hX : am_cl eX7_canSend lX7_canSend (some .boolean) K X) {σ : am_M} (x y z : Int32) (h : (m_ok σ) ∧ ((m_ok σ) ∧ (X 20 [some (.inr (.inr (20, 0))), some (.inl x), some (.inl y), some (.inl z), some (.inl (nI (m_here σ))), some (.inl (nI (p_who (m_r σ 0) (m_n σ) (2 : Int32)))), some (.inl (0 : Int32)), some (.inl (0 : Int32)), none] [] σ))) : X 0 [some (.inr (.inr (20, 0))), some (.inl x), some (.inl y), some (.inl z), none, none, none, none, none] [] σ := am_run_ok emX7_canSend hX [20] 400 (show 1 ≤ 1 ∧ 0 ≤ 8 ∧ True ∧ sX7_hereNow [.inr (.inr (20, 0))] σ (fun vv tt => am_run eX7_canSend lX7_canSend (some .boolean) K X [20] 398 4 [some (.inr (.inr (20, 0))), some (.inl x), some (.inl y), some (.inl z), none, none, none, none, none] (vv.toList ++ []) tt) from ⟨am_le rfl, am_le rfl, trivial, uX7_hereNow (⟨h.1, (show 3 ≤ 3 ∧ 0 ≤ 8 ∧ True ∧ sX7_whoOn [.inr (.inr (20, 0)), .inl (0 : Int32), .inl (2 : Int32)] σ (fun vv tt => am_run eX7_canSend lX7_canSend (some .boolean) K X [20] 393 12 [some (.inr (.inr (20, 0))), some (.inl x), some (.inl y), some (.inl z), some (.inl (nI (m_here σ))), none, none, none, none] (vv.toList ++ []) tt) from ⟨am_le rfl, am_le rfl, trivial, wX7_whoOn (g := 0) (⟨(by decide), ⟨h.2.1, (show X 20 [some (.inr (.inr (20, 0))), some (.inl x), some (.inl y), some (.inl z), some (.inl (nI (m_here σ))), some (.inl (nI (p_who (m_r σ 0) (m_n σ) (2 : Int32)))), some (.inl (0 : Int32)), some (.inl (0 : Int32)), none] [] σ from h.2.2)⟩⟩)⟩)⟩)⟩)
set_option maxRecDepth 100000 in
set_option maxHeartbeats 400000 in
theorem b_cs20 {K : Option am_V → am_M → Prop} {X : Nat → am_L → List am_V → am_M → Prop} (hX : am_cl eX7_canSend lX7_canSend (some .boolean) K X) {σ : am_M} (x y z c : Int32) (H A S : Nat) (h : (((nI H) < (nI S)) → (narrow .boolean (.int c) = .int c) ∧ (K (some (.inl c)) σ)) ∧ (¬ ((nI H) < (nI S)) → ((c = (0 : Int32)) → ((((nI S) &&& ((nI H) ^^^ (-1 : Int32))) = (0 : Int32)) → ((((nI A) &&& ((nI S) ^^^ (-1 : Int32))) = (0 : Int32)) → (S < 512) ∧ ((((nI (q_pop S 9)) = (((σ 21 0 63) + (3 : Int32)) - (1 : Int32))) → (m_ok σ) ∧ ((S < 512) ∧ (((p_un (m_r σ 0) (m_n σ) S = true) → sX7_isUnlikeAll [.inr (.inr (20, 0)), .inl x, .inl y, .inl z, .inl (nI S)] σ (fun vv tt => X 97 [some (.inr (.inr (20, 0))), some (.inl x), some (.inl y), some (.inl z), some (.inl (nI H)), some (.inl (nI A)), some (.inl c), some (.inl (nI S)), some (.inl (1 : Int32))] (vv.toList ++ []) tt)) ∧ (¬ (p_un (m_r σ 0) (m_n σ) S = true) → X 105 [some (.inr (.inr (20, 0))), some (.inl x), some (.inl y), some (.inl z), some (.inl (nI H)), some (.inl (nI A)), some (.inl c), some (.inl (nI S)), some (.inl (1 : Int32))] [.inl (0 : Int32)] σ)))) ∧ (¬ ((nI (q_pop S 9)) = (((σ 21 0 63) + (3 : Int32)) - (1 : Int32))) → X 105 [some (.inr (.inr (20, 0))), some (.inl x), some (.inl y), some (.inl z), some (.inl (nI H)), some (.inl (nI A)), some (.inl c), some (.inl (nI S)), some (.inl (0 : Int32))] [.inl (0 : Int32)] σ))) ∧ (¬ (((nI A) &&& ((nI S) ^^^ (-1 : Int32))) = (0 : Int32)) → X 105 [some (.inr (.inr (20, 0))), some (.inl x), some (.inl y), some (.inl z), some (.inl (nI H)), some (.inl (nI A)), some (.inl c), some (.inl (nI S)), some (.inl (0 : Int32))] [.inl (0 : Int32)] σ)) ∧ (¬ (((nI S) &&& ((nI H) ^^^ (-1 : Int32))) = (0 : Int32)) → X 105 [some (.inr (.inr (20, 0))), some (.inl x), some (.inl y), some (.inl z), some (.inl (nI H)), some (.inl (nI A)), some (.inl c), some (.inl (nI S)), some (.inl (0 : Int32))] [.inl (0 : Int32)] σ)) ∧ (¬ (c = (0 : Int32)) → (narrow .boolean (.int c) = .int c) ∧ (K (some (.inl c)) σ)))) : X 20 [some (.inr (.inr (20, 0))), some (.inl x), some (.inl y), some (.inl z), some (.inl (nI H)), some (.inl (nI A)), some (.inl c), some (.inl (nI S)), none] [] σ := am_run_ok emX7_canSend hX [97, 105] 400 (show (((nI H) < (nI S)) → (narrow .boolean (.int c) = .int c) ∧ (K (some (.inl c)) σ)) ∧ (¬ ((nI H) < (nI S)) → ((c = (0 : Int32)) → ((((nI S) &&& ((nI H) ^^^ (-1 : Int32))) = (0 : Int32)) → ((((nI A) &&& ((nI S) ^^^ (-1 : Int32))) = (0 : Int32)) → 1 ≤ 1 ∧ 0 ≤ 8 ∧ sX7_bitsOf [.inl (nI S)] σ (fun vv tt => am_run eX7_canSend lX7_canSend (some .boolean) K X [97, 105] 381 57 [some (.inr (.inr (20, 0))), some (.inl x), some (.inl y), some (.inl z), some (.inl (nI H)), some (.inl (nI A)), some (.inl c), some (.inl (nI S)), none] (vv.toList ++ []) tt)) ∧ (¬ (((nI A) &&& ((nI S) ^^^ (-1 : Int32))) = (0 : Int32)) → (((0 : Int32) = (0 : Int32)) → X 105 [some (.inr (.inr (20, 0))), some (.inl x), some (.inl y), some (.inl z), some (.inl (nI H)), some (.inl (nI A)), some (.inl c), some (.inl (nI S)), some (.inl (0 : Int32))] [.inl (0 : Int32)] σ) ∧ (¬ ((0 : Int32) = (0 : Int32)) → _))) ∧ (¬ (((nI S) &&& ((nI H) ^^^ (-1 : Int32))) = (0 : Int32)) → (((0 : Int32) = (0 : Int32)) → X 105 [some (.inr (.inr (20, 0))), some (.inl x), some (.inl y), some (.inl z), some (.inl (nI H)), some (.inl (nI A)), some (.inl c), some (.inl (nI S)), some (.inl (0 : Int32))] [.inl (0 : Int32)] σ) ∧ (¬ ((0 : Int32) = (0 : Int32)) → _))) ∧ (¬ (c = (0 : Int32)) → (narrow .boolean (.int c) = .int c) ∧ (K (some (.inl c)) σ))) from ⟨fun q0 => ⟨(h.1 q0).1, (h.1 q0).2⟩, fun q0 => ⟨fun q1 => ⟨fun q2 => ⟨fun q3 => ⟨am_le rfl, am_le rfl, uX7_bitsOf (⟨((((h.2 q0).1 q1).1 q2).1 q3).1, (show 2 ≤ 3 ∧ 1 ≤ 8 ∧ True ∧ sX7_seatsOn [.inr (.inr (20, 0)), .inl (0 : Int32)] σ (fun vv tt => am_run eX7_canSend lX7_canSend (some .boolean) K X [97, 105] 378 62 [some (.inr (.inr (20, 0))), some (.inl x), some (.inl y), some (.inl z), some (.inl (nI H)), some (.inl (nI A)), some (.inl c), some (.inl (nI S)), none] (vv.toList ++ [.inl (nI (q_pop S 9))]) tt) from ⟨am_le rfl, am_le rfl, trivial, tX7_seatsOn (⟨am_ci (by decide), (show (((nI (q_pop S 9)) = (((σ 21 0 63) + (3 : Int32)) - (1 : Int32))) → (((1 : Int32) = (0 : Int32)) → _) ∧ (¬ ((1 : Int32) = (0 : Int32)) → 2 ≤ 2 ∧ 0 ≤ 8 ∧ True ∧ sX7_isUnlike [.inr (.inr (20, 0)), .inl (nI S)] σ (fun vv tt => am_run eX7_canSend lX7_canSend (some .boolean) K X [97, 105] 367 85 [some (.inr (.inr (20, 0))), some (.inl x), some (.inl y), some (.inl z), some (.inl (nI H)), some (.inl (nI A)), some (.inl c), some (.inl (nI S)), some (.inl (1 : Int32))] (vv.toList ++ []) tt))) ∧ (¬ ((nI (q_pop S 9)) = (((σ 21 0 63) + (3 : Int32)) - (1 : Int32))) → (((0 : Int32) = (0 : Int32)) → X 105 [some (.inr (.inr (20, 0))), some (.inl x), some (.inl y), some (.inl z), some (.inl (nI H)), some (.inl (nI A)), some (.inl c), some (.inl (nI S)), some (.inl (0 : Int32))] [.inl (0 : Int32)] σ) ∧ (¬ ((0 : Int32) = (0 : Int32)) → _)) from ⟨fun q4 => ⟨fun q => absurd q (by decide), fun _ => ⟨am_le rfl, am_le rfl, trivial, wX7_isUnlike (S := S) (⟨(((((h.2 q0).1 q1).1 q2).1 q3).2.1 q4).1, ⟨(((((h.2 q0).1 q1).1 q2).1 q3).2.1 q4).2.1, ⟨fun q5 => (show (((1 : Int32) = (0 : Int32)) → _) ∧ (¬ ((1 : Int32) = (0 : Int32)) → 5 ≤ 5 ∧ 0 ≤ 8 ∧ True ∧ sX7_isUnlikeAll [.inr (.inr (20, 0)), .inl x, .inl y, .inl z, .inl (nI S)] σ (fun vv tt => X 97 [some (.inr (.inr (20, 0))), some (.inl x), some (.inl y), some (.inl z), some (.inl (nI H)), some (.inl (nI A)), some (.inl c), some (.inl (nI S)), some (.inl (1 : Int32))] (vv.toList ++ []) tt)) from ⟨fun q => absurd q (by decide), fun _ => ⟨am_le rfl, am_le rfl, trivial, ((((((h.2 q0).1 q1).1 q2).1 q3).2.1 q4).2.2.1 q5)⟩⟩), fun q5 => (show (((0 : Int32) = (0 : Int32)) → X 105 [some (.inr (.inr (20, 0))), some (.inl x), some (.inl y), some (.inl z), some (.inl (nI H)), some (.inl (nI A)), some (.inl c), some (.inl (nI S)), some (.inl (1 : Int32))] [.inl (0 : Int32)] σ) ∧ (¬ ((0 : Int32) = (0 : Int32)) → _) from ⟨fun _ => ((((((h.2 q0).1 q1).1 q2).1 q3).2.1 q4).2.2.2 q5), fun q => absurd (by decide) q⟩)⟩⟩⟩)⟩⟩, fun q4 => ⟨fun _ => (((((h.2 q0).1 q1).1 q2).1 q3).2.2 q4), fun q => absurd (by decide) q⟩⟩)⟩)⟩)⟩)⟩, fun q3 => ⟨fun _ => ((((h.2 q0).1 q1).1 q2).2 q3), fun q => absurd (by decide) q⟩⟩, fun q2 => ⟨fun _ => (((h.2 q0).1 q1).2 q2), fun q => absurd (by decide) q⟩⟩, fun q1 => ⟨((h.2 q0).2 q1).1, ((h.2 q0).2 q1).2⟩⟩⟩)
set_option maxRecDepth 100000 in
set_option maxHeartbeats 400000 in
theorem b_cs97 {K : Option am_V → am_M → Prop} {X : Nat → am_L → List am_V → am_M → Prop} (hX : am_cl eX7_canSend lX7_canSend (some .boolean) K X) {σ : am_M} (x y z c v : Int32) (H A S : Nat) (h : ((v = (0 : Int32)) → X 105 [some (.inr (.inr (20, 0))), some (.inl x), some (.inl y), some (.inl z), some (.inl (nI H)), some (.inl (nI A)), some (.inl c), some (.inl (nI S)), none] [.inl (0 : Int32)] σ) ∧ (¬ (v = (0 : Int32)) → X 105 [some (.inr (.inr (20, 0))), some (.inl x), some (.inl y), some (.inl z), some (.inl (nI H)), some (.inl (nI A)), some (.inl c), some (.inl (nI S)), none] [.inl (1 : Int32)] σ)) : X 97 [some (.inr (.inr (20, 0))), some (.inl x), some (.inl y), some (.inl z), some (.inl (nI H)), some (.inl (nI A)), some (.inl c), some (.inl (nI S)), none] [.inl v] σ := am_run_ok emX7_canSend hX [105] 400 (show ((v = (0 : Int32)) → X 105 [some (.inr (.inr (20, 0))), some (.inl x), some (.inl y), some (.inl z), some (.inl (nI H)), some (.inl (nI A)), some (.inl c), some (.inl (nI S)), none] [.inl (0 : Int32)] σ) ∧ (¬ (v = (0 : Int32)) → X 105 [some (.inr (.inr (20, 0))), some (.inl x), some (.inl y), some (.inl z), some (.inl (nI H)), some (.inl (nI A)), some (.inl c), some (.inl (nI S)), none] [.inl (1 : Int32)] σ) from ⟨fun q0 => (h.1 q0), fun q0 => (h.2 q0)⟩)
set_option maxRecDepth 100000 in
set_option maxHeartbeats 400000 in
theorem b_cs105 {K : Option am_V → am_M → Prop} {X : Nat → am_L → List am_V → am_M → Prop} (hX : am_cl eX7_canSend lX7_canSend (some .boolean) K X) {σ : am_M} (x y z c v : Int32) (H A S : Nat) (h : X 20 [some (.inr (.inr (20, 0))), some (.inl x), some (.inl y), some (.inl z), some (.inl (nI H)), some (.inl (nI A)), some (.inl v), some (.inl ((nI S) + (1 : Int32))), none] [] σ) : X 105 [some (.inr (.inr (20, 0))), some (.inl x), some (.inl y), some (.inl z), some (.inl (nI H)), some (.inl (nI A)), some (.inl c), some (.inl (nI S)), none] [.inl v] σ := am_run_ok emX7_canSend hX [20] 400 (show X 20 [some (.inr (.inr (20, 0))), some (.inl x), some (.inl y), some (.inl z), some (.inl (nI H)), some (.inl (nI A)), some (.inl v), some (.inl ((nI S) + (1 : Int32))), none] [] σ from h)
set_option maxRecDepth 100000 in
set_option maxHeartbeats 400000 in
theorem b_sn0 {K : Option am_V → am_M → Prop} {X : Nat → am_L → List am_V → am_M → Prop} (hX : am_cl eX7_send lX7_send (some .int) K X) {σ : am_M} (a b : Int32) (h : ((a < (0 : Int32)) → K (some (.inl (-1 : Int32))) σ) ∧ (¬ (a < (0 : Int32)) → (((5 : Int32) < a) → K (some (.inl (-1 : Int32))) σ) ∧ (¬ ((5 : Int32) < a) → ((b < (0 : Int32)) → K (some (.inl (-1 : Int32))) σ) ∧ (¬ (b < (0 : Int32)) → (((1 : Int32) < b) → K (some (.inl (-1 : Int32))) σ) ∧ (¬ ((1 : Int32) < b) → X 33 [some (.inr (.inr (20, 0))), some (.inl a), some (.inl b), some (.inl (0 : Int32)), some (.inl (-4 : Int32)), some (.inl (0 : Int32))] [] σ))))) : X 0 [some (.inr (.inr (20, 0))), some (.inl a), some (.inl b), none, none, none] [] σ := am_run_ok emX7_send hX [33] 400 (show 3 ≤ 3 ∧ 0 ≤ 8 ∧ sX7_in [.inr (.inl (a).toInt64), .inr (.inl (0 : Int64)), .inr (.inl (5 : Int64))] σ (fun vv tt => am_run eX7_send lX7_send (some .int) K X [33] 395 9 [some (.inr (.inr (20, 0))), some (.inl a), some (.inl b), none, none, none] (vv.toList ++ []) tt) from ⟨am_le rfl, am_le rfl, uX7_in (v := a) (a := (0 : Int32)) (b := (5 : Int32)) (⟨fun q0 => (show (((0 : Int32) = (0 : Int32)) → K (some (.inl (-1 : Int32))) σ) ∧ (¬ ((0 : Int32) = (0 : Int32)) → _) from ⟨fun _ => (h.1 q0), fun q => absurd (by decide) q⟩), fun q0 => ⟨fun q1 => (show (((0 : Int32) = (0 : Int32)) → K (some (.inl (-1 : Int32))) σ) ∧ (¬ ((0 : Int32) = (0 : Int32)) → _) from ⟨fun _ => ((h.2 q0).1 q1), fun q => absurd (by decide) q⟩), fun q1 => (show (((1 : Int32) = (0 : Int32)) → _) ∧ (¬ ((1 : Int32) = (0 : Int32)) → 3 ≤ 3 ∧ 0 ≤ 8 ∧ sX7_in [.inr (.inl (b).toInt64), .inr (.inl (0 : Int64)), .inr (.inl (1 : Int64))] σ (fun vv tt => am_run eX7_send lX7_send (some .int) K X [33] 389 19 [some (.inr (.inr (20, 0))), some (.inl a), some (.inl b), none, none, none] (vv.toList ++ []) tt)) from ⟨fun q => absurd q (by decide), fun _ => ⟨am_le rfl, am_le rfl, uX7_in (v := b) (a := (0 : Int32)) (b := (1 : Int32)) (⟨fun q2 => (show (((0 : Int32) = (0 : Int32)) → K (some (.inl (-1 : Int32))) σ) ∧ (¬ ((0 : Int32) = (0 : Int32)) → _) from ⟨fun _ => (((h.2 q0).2 q1).1 q2), fun q => absurd (by decide) q⟩), fun q2 => ⟨fun q3 => (show (((0 : Int32) = (0 : Int32)) → K (some (.inl (-1 : Int32))) σ) ∧ (¬ ((0 : Int32) = (0 : Int32)) → _) from ⟨fun _ => ((((h.2 q0).2 q1).2 q2).1 q3), fun q => absurd (by decide) q⟩), fun q3 => (show (((1 : Int32) = (0 : Int32)) → _) ∧ (¬ ((1 : Int32) = (0 : Int32)) → X 33 [some (.inr (.inr (20, 0))), some (.inl a), some (.inl b), some (.inl (0 : Int32)), some (.inl (-4 : Int32)), some (.inl (0 : Int32))] [] σ) from ⟨fun q => absurd q (by decide), fun _ => ((((h.2 q0).2 q1).2 q2).2 q3)⟩)⟩⟩)⟩⟩)⟩⟩)⟩)
set_option maxRecDepth 100000 in
set_option maxHeartbeats 400000 in
theorem b_sn33 {K : Option am_V → am_M → Prop} {X : Nat → am_L → List am_V → am_M → Prop} (hX : am_cl eX7_send lX7_send (some .int) K X) {σ : am_M} (a b x y : Int32) (t : Nat) (h : (((36 : Int32) ≤ (nI t)) → ((b = (0 : Int32)) → K (some (.inl x)) σ) ∧ (¬ (b = (0 : Int32)) → K (some (.inl y)) σ)) ∧ (¬ ((36 : Int32) ≤ (nI t)) → sX7_canSend [.inr (.inr (20, 0)), .inl ((nI t) / (6 : Int32)), .inl a, .inl ((nI t) - (nI t) / (6 : Int32) * (6 : Int32))] σ (fun vv tt => X 55 [some (.inr (.inr (20, 0))), some (.inl a), some (.inl b), some (.inl x), some (.inl y), some (.inl (nI t))] (vv.toList ++ []) tt))) : X 33 [some (.inr (.inr (20, 0))), some (.inl a), some (.inl b), some (.inl x), some (.inl y), some (.inl (nI t))] [] σ := am_run_ok emX7_send hX [55] 400 (show (((36 : Int32) ≤ (nI t)) → ((b = (0 : Int32)) → K (some (.inl x)) σ) ∧ (¬ (b = (0 : Int32)) → K (some (.inl y)) σ)) ∧ (¬ ((36 : Int32) ≤ (nI t)) → (¬ (6 : Int32) = 0) ∧ ((¬ (6 : Int32) = 0) ∧ (4 ≤ 4 ∧ 0 ≤ 8 ∧ True ∧ sX7_canSend [.inr (.inr (20, 0)), .inl ((nI t) / (6 : Int32)), .inl a, .inl ((nI t) - (nI t) / (6 : Int32) * (6 : Int32))] σ (fun vv tt => X 55 [some (.inr (.inr (20, 0))), some (.inl a), some (.inl b), some (.inl x), some (.inl y), some (.inl (nI t))] (vv.toList ++ []) tt)))) from ⟨fun q0 => ⟨fun q1 => ((h.1 q0).1 q1), fun q1 => ((h.1 q0).2 q1)⟩, fun q0 => ⟨(by decide), ⟨(by decide), ⟨am_le rfl, am_le rfl, trivial, (h.2 q0)⟩⟩⟩⟩)
set_option maxRecDepth 100000 in
set_option maxHeartbeats 400000 in
theorem b_sn55 {K : Option am_V → am_M → Prop} {X : Nat → am_L → List am_V → am_M → Prop} (hX : am_cl eX7_send lX7_send (some .int) K X) {σ : am_M} (a b x y v : Int32) (t : Nat) (h : ((v = (0 : Int32)) → X 33 [some (.inr (.inr (20, 0))), some (.inl a), some (.inl b), some (.inl x), some (.inl y), some (.inl ((nI t) + (1 : Int32)))] [] σ) ∧ (¬ (v = (0 : Int32)) → ((x = (0 : Int32)) → X 33 [some (.inr (.inr (20, 0))), some (.inl a), some (.inl b), some (.inl (x + (1 : Int32))), some (.inl (((10 : Int32) * ((nI t) / (6 : Int32))) + ((nI t) - (nI t) / (6 : Int32) * (6 : Int32)))), some (.inl ((nI t) + (1 : Int32)))] [] σ) ∧ (¬ (x = (0 : Int32)) → X 33 [some (.inr (.inr (20, 0))), some (.inl a), some (.inl b), some (.inl (x + (1 : Int32))), some (.inl y), some (.inl ((nI t) + (1 : Int32)))] [] σ))) : X 55 [some (.inr (.inr (20, 0))), some (.inl a), some (.inl b), some (.inl x), some (.inl y), some (.inl (nI t))] [.inl v] σ := am_run_ok emX7_send hX [33] 400 (show ((v = (0 : Int32)) → X 33 [some (.inr (.inr (20, 0))), some (.inl a), some (.inl b), some (.inl x), some (.inl y), some (.inl ((nI t) + (1 : Int32)))] [] σ) ∧ (¬ (v = (0 : Int32)) → ((x = (0 : Int32)) → (¬ (6 : Int32) = 0) ∧ ((¬ (6 : Int32) = 0) ∧ (X 33 [some (.inr (.inr (20, 0))), some (.inl a), some (.inl b), some (.inl (x + (1 : Int32))), some (.inl (((10 : Int32) * ((nI t) / (6 : Int32))) + ((nI t) - (nI t) / (6 : Int32) * (6 : Int32)))), some (.inl ((nI t) + (1 : Int32)))] [] σ))) ∧ (¬ (x = (0 : Int32)) → X 33 [some (.inr (.inr (20, 0))), some (.inl a), some (.inl b), some (.inl (x + (1 : Int32))), some (.inl y), some (.inl ((nI t) + (1 : Int32)))] [] σ)) from ⟨fun q0 => (h.1 q0), fun q0 => ⟨fun q1 => ⟨(by decide), ⟨(by decide), ((h.2 q0).1 q1)⟩⟩, fun q1 => ((h.2 q0).2 q1)⟩⟩)
def bI (b : Bool) : Int32 := if b then 1 else 0
theorem bI_n (b : Bool) : narrow .boolean (.int (bI b)) = .int (bI b) := by cases b <;> rfl
theorem bI_0 (b : Bool) : bI b = 0 ↔ b = false := by cases b <;> decide
/-- a plain one, with a trade, a town and a tale -/
def gs (x y z : Int32) : Nat → Int32 := fun j => if j = 1 then x else if j = 2 then y else if j = 3 then z else 0
def hit (b : Nat → Int32) (w : Nat) (v : Int32) : Bool := cn (b 0) (nI w) && decide (b w = v)
theorem cn_0 (w : Int32) : cn 0 w = true := by
  unfold cn
  simp
theorem al_gs (x y z : Int32) (b : Nat → Int32) : al (gs x y z) b = (hit b 1 x || (hit b 2 y || hit b 3 z)) := by
  unfold al alw hit gs
  simp only [show ¬ (0 : Nat) = 1 by decide, show ¬ (0 : Nat) = 2 by decide, show ¬ (0 : Nat) = 3 by decide, show ¬ (2 : Nat) = 1 by decide, show ¬ (3 : Nat) = 1 by decide, show ¬ (3 : Nat) = 2 by decide, if_true, if_false, cn_0, Bool.true_and]
  rw [Bool.and_comm, Bool.and_comm (y := cn (b 0) (nI 2)), Bool.and_comm (y := cn (b 0) (nI 3))]
  congr 1
  · congr 1
    exact decide_eq_decide.mpr eq_comm
  · congr 1
    · congr 1
      exact decide_eq_decide.mpr eq_comm
    · congr 1
      exact decide_eq_decide.mpr eq_comm
def g_un (r : Rw) (g : Nat → Int32) (S : Nat) : Nat → Bool
  | 0 => true
  | n + 1 => g_un r g S n && (!(S.testBit n) || !(al g (r n)))
theorem g_un_iff {r : Rw} {g : Nat → Int32} {S : Nat} : ∀ {n : Nat}, g_un r g S n = true ↔ ∀ p, p < n → S.testBit p = true → al g (r p) = false
  | 0 => ⟨fun _ p hp => absurd hp (Nat.not_lt_zero p), fun _ => rfl⟩
  | n + 1 => by
    unfold g_un
    rw [Bool.and_eq_true, g_un_iff]
    constructor
    · rintro ⟨a, b⟩ p hp hs
      by_cases c : p = n
      · subst c
        rw [hs] at b
        simpa using b
      · exact a p (by omega) hs
    · intro a
      refine ⟨fun p hp => a p (by omega), ?_⟩
      cases hs : S.testBit n
      · rfl
      · rw [a n (by omega) hs]
        rfl
theorem tX7_isUnlikeAll {σ : am_M} {x y z : Int32} {S : Nat} {K : am_K} (ho : m_ok σ) (hS : S < 512) (h : K (some (.inl (bI (g_un (m_r σ 0) (gs x y z) S (m_n σ))))) σ) : sX7_isUnlikeAll [am_r 20 0, .inl x, .inl y, .inl z, .inl (nI S)] σ K := by
  obtain ⟨hn, h9⟩ := m_ok_e ho
  generalize m_n σ = n at hn h9 h
  refine ⟨am_le rfl, fun X hX => b_ua0 hX x y z S ?_⟩
  refine q_dn (W := fun i => X 6 [some (am_r 20 0), some (.inl x), some (.inl y), some (.inl z), some (.inl (nI S)), some (.inl (bI (g_un (m_r σ 0) (gs x y z) S i))), some (.inl (nI i)), none, none] [] σ) (n := n) (fun i hi IH => ?_) ?_ 0 (Nat.zero_le _)
  · refine b_ua6 hX x y z _ S i ⟨fun q => absurd (by rw [hn] at q; exact q) (nI_ge hi (by omega)), fun _ => ?_⟩
    have f112 : ∀ (b : Int32) (w u : Option am_V), X 6 [some (am_r 20 0), some (.inl x), some (.inl y), some (.inl z), some (.inl (nI S)), some (.inl b), some (.inl (nI (i + 1))), none, none] [] σ → X 112 [some (am_r 20 0), some (.inl x), some (.inl y), some (.inl z), some (.inl (nI S)), some (.inl b), some (.inl (nI i)), w, u] [] σ := fun b w u g => by
      refine am_fo hX (ls := [some (am_r 20 0), some (.inl x), some (.inl y), some (.inl z), some (.inl (nI S)), some (.inl b), some (.inl (nI i)), none, none]) ⟨rfl, rfl, rfl, rfl, rfl, rfl, rfl, trivial⟩ (b_ua112 hX x y z b S i ?_)
      rw [show nI i + (1 : Int32) = nI (i + 1) from nI_add i 1]
      exact g
    have bt : (nI S >>> (nI i &&& 31) &&& (1 : Int32) = 1) ↔ S.testBit i = true := by rw [q_bitv (by omega) (by omega), q_ite1]
    cases cb : S.testBit i
    · have e : g_un (m_r σ 0) (gs x y z) S (i + 1) = g_un (m_r σ 0) (gs x y z) S i := by
        show (g_un (m_r σ 0) (gs x y z) S i && (!(S.testBit i) || _)) = _
        rw [cb]
        simp
      rw [e] at IH
      exact b_ub1 hX x y z _ S i ⟨fun q => absurd (bt.1 q) (by rw [cb]; decide), fun _ => f112 _ _ _ IH⟩
    · have e : g_un (m_r σ 0) (gs x y z) S (i + 1) = (((g_un (m_r σ 0) (gs x y z) S i && !hit (m_r σ 0 i) 1 x) && !hit (m_r σ 0 i) 2 y) && !hit (m_r σ 0 i) 3 z) := by
        show (g_un (m_r σ 0) (gs x y z) S i && (!(S.testBit i) || !(al (gs x y z) (m_r σ 0 i)))) = _
        rw [cb, al_gs]
        cases g_un (m_r σ 0) (gs x y z) S i <;> cases hit (m_r σ 0 i) 1 x <;> cases hit (m_r σ 0 i) 2 y <;> cases hit (m_r σ 0 i) 3 z <;> rfl
      rw [e] at IH
      have bt1 := bt.2 cb
      have e0 : σ 21 0 ((7 : Int32) * nI i).toNatClampNeg = m_r σ 0 i 0 := by
        rw [m_i7, nI_clamp (by omega)]
        show σ 21 0 (7 * i) = σ 21 0 (0 + 7 * i + 0)
        rw [Nat.zero_add, Nat.add_zero]
      have v0 : vp_in ((7 : Int32) * nI i) 340 := by
        rw [m_i7]
        exact q_in (by omega) (by decide)
      have ew : ∀ w, w < 7 → σ 21 0 ((7 : Int32) * nI i + nI w).toNatClampNeg = m_r σ 0 i w ∧ vp_in ((7 : Int32) * nI i + nI w) 340 := fun w hw => by
        rw [m_i7w, nI_clamp (by omega)]
        refine ⟨?_, q_in (by omega) (by decide)⟩
        show σ 21 0 (7 * i + w) = σ 21 0 (0 + 7 * i + w)
        rw [Nat.zero_add]
      have s4 : ∀ (b : Bool) (u : Option am_V), X 6 [some (am_r 20 0), some (.inl x), some (.inl y), some (.inl z), some (.inl (nI S)), some (.inl (bI b)), some (.inl (nI (i + 1))), none, none] [] σ → X 18 [some (am_r 20 0), some (.inl x), some (.inl y), some (.inl z), some (.inl (nI S)), some (.inl (bI b)), some (.inl (nI i)), some (.inl (4 : Int32)), u] [] σ := fun b u g => am_fo hX (ls := [some (am_r 20 0), some (.inl x), some (.inl y), some (.inl z), some (.inl (nI S)), some (.inl (bI b)), some (.inl (nI i)), some (.inl (4 : Int32)), none]) ⟨rfl, rfl, rfl, rfl, rfl, rfl, rfl, rfl, trivial⟩ (b_ub4 hX x y z _ S i (f112 _ _ _ g))
      have s3 : ∀ (b : Bool) (u : Option am_V), X 6 [some (am_r 20 0), some (.inl x), some (.inl y), some (.inl z), some (.inl (nI S)), some (.inl (bI (b && !hit (m_r σ 0 i) 3 z))), some (.inl (nI (i + 1))), none, none] [] σ → X 18 [some (am_r 20 0), some (.inl x), some (.inl y), some (.inl z), some (.inl (nI S)), some (.inl (bI b)), some (.inl (nI i)), some (.inl (3 : Int32)), u] [] σ := fun b u g => am_fo hX (ls := [some (am_r 20 0), some (.inl x), some (.inl y), some (.inl z), some (.inl (nI S)), some (.inl (bI b)), some (.inl (nI i)), some (.inl (3 : Int32)), none]) ⟨rfl, rfl, rfl, rfl, rfl, rfl, rfl, rfl, trivial⟩ (b_ub3 hX x y z _ S i (by
        rw [e0, show (σ 21 0 ((7 : Int32) * nI i + (3 : Int32)).toNatClampNeg = m_r σ 0 i 3) from (ew 3 (by decide)).1]
        refine ⟨fun _ => ⟨fun c => ?_, fun c => ⟨v0, Or.inr (Or.inr rfl), fun d => ⟨(ew 3 (by decide)).2, fun f => ?_, fun f => ?_⟩, fun d => ?_⟩⟩, fun q => absurd bt1 q⟩
        · rw [(bI_0 b).1 c] at g
          exact s4 false _ g
        · have : (b && !hit (m_r σ 0 i) 3 z) = false := by
            unfold hit
            rw [show cn (m_r σ 0 i 0) (nI 3) = true from d, f]
            simp
          rw [this] at g
          exact s4 false _ g
        · have : (b && !hit (m_r σ 0 i) 3 z) = true := by
            unfold hit
            rw [decide_eq_false f, (Bool.eq_false_or_eq_true b).resolve_right (fun w => c ((bI_0 b).2 w))]
            simp
          rw [this] at g
          exact s4 true _ g
        · have : (b && !hit (m_r σ 0 i) 3 z) = true := by
            unfold hit
            rw [show cn (m_r σ 0 i 0) (nI 3) = false from Bool.eq_false_iff.mpr d, (Bool.eq_false_or_eq_true b).resolve_right (fun w => c ((bI_0 b).2 w))]
            rfl
          rw [this] at g
          exact s4 true _ g))
      have s2 : ∀ (b : Bool) (u : Option am_V), X 6 [some (am_r 20 0), some (.inl x), some (.inl y), some (.inl z), some (.inl (nI S)), some (.inl (bI ((b && !hit (m_r σ 0 i) 2 y) && !hit (m_r σ 0 i) 3 z))), some (.inl (nI (i + 1))), none, none] [] σ → X 18 [some (am_r 20 0), some (.inl x), some (.inl y), some (.inl z), some (.inl (nI S)), some (.inl (bI b)), some (.inl (nI i)), some (.inl (2 : Int32)), u] [] σ := fun b u g => am_fo hX (ls := [some (am_r 20 0), some (.inl x), some (.inl y), some (.inl z), some (.inl (nI S)), some (.inl (bI b)), some (.inl (nI i)), some (.inl (2 : Int32)), none]) ⟨rfl, rfl, rfl, rfl, rfl, rfl, rfl, rfl, trivial⟩ (b_ub2 hX x y z _ S i (by
        rw [e0, show (σ 21 0 ((7 : Int32) * nI i + (2 : Int32)).toNatClampNeg = m_r σ 0 i 2) from (ew 2 (by decide)).1]
        refine ⟨fun _ => ⟨fun c => ?_, fun c => ⟨v0, Or.inr (Or.inl rfl), fun d => ⟨(ew 2 (by decide)).2, fun f => ?_, fun f => ?_⟩, fun d => ?_⟩⟩, fun q => absurd bt1 q⟩
        · rw [(bI_0 b).1 c] at g
          exact s3 false _ g
        · have : (b && !hit (m_r σ 0 i) 2 y) = false := by
            unfold hit
            rw [show cn (m_r σ 0 i 0) (nI 2) = true from d, f]
            simp
          rw [this] at g
          exact s3 false _ g
        · have : (b && !hit (m_r σ 0 i) 2 y) = true := by
            unfold hit
            rw [decide_eq_false f, (Bool.eq_false_or_eq_true b).resolve_right (fun w => c ((bI_0 b).2 w))]
            simp
          rw [this] at g
          exact s3 true _ g
        · have : (b && !hit (m_r σ 0 i) 2 y) = true := by
            unfold hit
            rw [show cn (m_r σ 0 i 0) (nI 2) = false from Bool.eq_false_iff.mpr d, (Bool.eq_false_or_eq_true b).resolve_right (fun w => c ((bI_0 b).2 w))]
            rfl
          rw [this] at g
          exact s3 true _ g))
      refine b_ub1 hX x y z _ S i ?_
      rw [e0, show (σ 21 0 ((7 : Int32) * nI i + (1 : Int32)).toNatClampNeg = m_r σ 0 i 1) from (ew 1 (by decide)).1]
      revert IH
      generalize g_un (m_r σ 0) (gs x y z) S i = b
      intro g
      refine ⟨fun _ => ⟨fun c => ?_, fun c => ⟨v0, Or.inl rfl, fun d => ⟨(ew 1 (by decide)).2, fun f => ?_, fun f => ?_⟩, fun d => ?_⟩⟩, fun q => absurd bt1 q⟩
      · rw [(bI_0 b).1 c] at g
        exact s2 false _ g
      · have : (b && !hit (m_r σ 0 i) 1 x) = false := by
          unfold hit
          rw [show cn (m_r σ 0 i 0) (nI 1) = true from d, f]
          simp
        rw [this] at g
        exact s2 false _ g
      · have : (b && !hit (m_r σ 0 i) 1 x) = true := by
          unfold hit
          rw [decide_eq_false f, (Bool.eq_false_or_eq_true b).resolve_right (fun w => c ((bI_0 b).2 w))]
          simp
        rw [this] at g
        exact s2 true _ g
      · have : (b && !hit (m_r σ 0 i) 1 x) = true := by
          unfold hit
          rw [show cn (m_r σ 0 i 0) (nI 1) = false from Bool.eq_false_iff.mpr d, (Bool.eq_false_or_eq_true b).resolve_right (fun w => c ((bI_0 b).2 w))]
          rfl
        rw [this] at g
        exact s2 true _ g
  · exact b_ua6 hX x y z _ S n ⟨fun _ => ⟨bI_n _, h⟩, fun q => absurd (by rw [hn]; exact nI_le (Nat.le_refl _) (by omega)) q⟩
def q_ex (P : Nat → Bool) : Nat → Bool
  | 0 => false
  | n + 1 => q_ex P n || P n
theorem q_ex_iff {P : Nat → Bool} : ∀ {n : Nat}, q_ex P n = true ↔ ∃ x, x < n ∧ P x = true
  | 0 => ⟨fun q => absurd (show false = true from q) (by decide), fun ⟨x, hx, _⟩ => absurd hx (Nat.not_lt_zero x)⟩
  | n + 1 => by
    unfold q_ex
    rw [Bool.or_eq_true, q_ex_iff]
    constructor
    · rintro (⟨x, hx, a⟩ | a)
      · exact ⟨x, by omega, a⟩
      · exact ⟨n, by omega, a⟩
    · rintro ⟨x, hx, a⟩
      by_cases c : x = n
      · subst c
        exact Or.inr a
      · exact Or.inl ⟨x, by omega, a⟩
/-- can one of these be sent -/
def g_cs (σ : am_M) (g : Nat → Int32) (pl S : Nat) : Bool := p_gd (m_r σ 0) (m_n σ) (pl - 1) (m_here σ) (p_who (m_r σ 0) (m_n σ) 2) S && g_un (m_r σ 0) g S (m_n σ)
theorem tX7_canSend {σ : am_M} {x y z : Int32} {pl : Nat} {K : am_K} (ho : m_ok σ) (hpl : σ 21 0 63 + 3 = nI pl) (h5 : pl ≤ 5) (h2 : 2 ≤ pl) (hw : p_who (m_r σ 0) (m_n σ) 2 < 512) (h : K (some (.inl (bI (q_ex (g_cs σ (gs x y z) pl) (m_here σ + 1))))) σ) : sX7_canSend [am_r 20 0, .inl x, .inl y, .inl z] σ K := by
  have hH := m_here_512 ho
  refine ⟨am_le rfl, fun X hX => b_cs0 hX x y z ⟨ho, ho, ?_⟩⟩
  have key : ∀ S, g_cs σ (gs x y z) pl S = (decide (q_df S (m_here σ) = 0) && (decide (q_df (p_who (m_r σ 0) (m_n σ) 2) S = 0) && (decide (q_pop S 9 = pl - 1) && p_un (m_r σ 0) (m_n σ) S)) && g_un (m_r σ 0) (gs x y z) S (m_n σ)) := fun S => rfl
  generalize m_here σ = H at hH h key ⊢
  generalize p_who (m_r σ 0) (m_n σ) 2 = A at hw key ⊢
  generalize g_cs σ (gs x y z) pl = P at h key
  have fin : ∀ i, i ≤ H + 1 → (i = H + 1 ∨ q_ex P i = true) → q_ex P i = q_ex P (H + 1) := fun i hi q => by
    rcases q with q | q
    · rw [q]
    · obtain ⟨x, hx, e⟩ := q_ex_iff.1 q
      rw [q, q_ex_iff.2 ⟨x, by omega, e⟩]
  refine q_dn (W := fun i => X 20 [some (am_r 20 0), some (.inl x), some (.inl y), some (.inl z), some (.inl (nI H)), some (.inl (nI A)), some (.inl (bI (q_ex P i))), some (.inl (nI i)), none] [] σ) (n := H + 1) (fun i hi IH => ?_) ?_ 0 (Nat.zero_le _)
  · refine b_cs20 hX x y z _ H A i ?_
    have hq := q_pop_le i 9
    rw [nI_ltI (by omega) (by omega), bI_0, q_dfz (by omega), q_dfz (by omega), hpl, show nI pl - (1 : Int32) = nI (pl - 1) from pk_sub (b := 1) (by omega), nI_eq (by omega) (by omega)]
    have s105 : ∀ (v : Bool) (u : Option am_V), q_ex P i = false → P i = v → X 105 [some (am_r 20 0), some (.inl x), some (.inl y), some (.inl z), some (.inl (nI H)), some (.inl (nI A)), some (.inl (bI (q_ex P i))), some (.inl (nI i)), u] [.inl (bI v)] σ := fun v u e1 e2 => by
      refine am_fo hX (ls := [some (am_r 20 0), some (.inl x), some (.inl y), some (.inl z), some (.inl (nI H)), some (.inl (nI A)), some (.inl (bI (q_ex P i))), some (.inl (nI i)), none]) ⟨rfl, rfl, rfl, rfl, rfl, rfl, rfl, rfl, trivial⟩ (b_cs105 hX x y z _ _ H A i ?_)
      have e : q_ex P (i + 1) = v := by
        show (q_ex P i || P i) = v
        rw [e1, e2]
        rfl
      rw [e] at IH
      rw [show nI i + (1 : Int32) = nI (i + 1) from nI_add i 1]
      exact IH
    have ki := key i
    refine ⟨fun q => absurd q (by omega), fun _ => ⟨fun c => ⟨fun d1 => ⟨fun d2 => ⟨by omega, fun d3 => ⟨ho, by omega, fun d4 => ?_, fun d4 => s105 false _ c ?_⟩, fun d3 => s105 false _ c ?_⟩, fun d2 => s105 false _ c ?_⟩, fun d1 => s105 false _ c ?_⟩, fun c => ⟨bI_n _, ?_⟩⟩⟩
    · rw [d1, d2, d3, d4] at ki
      simp at ki
      refine tX7_isUnlikeAll ho (by omega) ?_
      rw [← ki]
      refine am_fo hX (ls := [some (am_r 20 0), some (.inl x), some (.inl y), some (.inl z), some (.inl (nI H)), some (.inl (nI A)), some (.inl (bI (q_ex P i))), some (.inl (nI i)), none]) ⟨rfl, rfl, rfl, rfl, rfl, rfl, rfl, rfl, trivial⟩ (b_cs97 hX x y z _ _ H A i ?_)
      cases e : P i
      · exact ⟨fun _ => s105 false _ c e, fun q => absurd rfl q⟩
      · exact ⟨fun q => absurd q (by decide), fun _ => s105 true _ c e⟩
    · rw [ki, Bool.eq_false_iff.mpr d4]
      simp
    · rw [ki, decide_eq_false d3]
      simp
    · rw [ki, decide_eq_false d2]
      simp
    · rw [ki, decide_eq_false d1]
      simp
    · rw [fin i (by omega) (Or.inr (by simpa using c))]
      exact h
  · exact b_cs20 hX x y z _ H A (H + 1) ⟨fun _ => ⟨bI_n _, h⟩, fun q => absurd (nI_lt (Nat.lt_succ_self H) (by omega)) q⟩
/-- the least pair -/
def sl (bg : Nat → Bool) : Nat → Int32
  | 0 => -4
  | c + 1 => if bg c then (if q_ct bg c = 0 then nI (10 * (c / 6) + c % 6) else sl bg c) else sl bg c
theorem sl_s (bg : Nat → Bool) (c : Nat) : sl bg (c + 1) = if bg c then (if q_ct bg c = 0 then nI (10 * (c / 6) + c % 6) else sl bg c) else sl bg c := rfl
theorem q_ct_s (bg : Nat → Bool) (c : Nat) : q_ct bg (c + 1) = if bg c then q_ct bg c + 1 else q_ct bg c := rfl
theorem sl_4 {bg : Nat → Bool} : ∀ {c : Nat}, c ≤ 100 → (sl bg c = -4 ↔ q_ct bg c = 0)
  | 0, _ => ⟨fun _ => rfl, fun _ => rfl⟩
  | c + 1, h => by
    have ih := sl_4 (bg := bg) (c := c) (by omega)
    rw [sl_s, q_ct_s]
    cases bg c
    · exact ih
    · rw [if_pos rfl, if_pos rfl]
      by_cases d : q_ct bg c = 0
      · rw [if_pos d]
        exact ⟨fun q => absurd q (q_m4 (by omega)), fun q => absurd q (by omega)⟩
      · rw [if_neg d]
        exact ⟨fun q => absurd (ih.1 q) d, fun q => absurd q (by omega)⟩
theorem q_ct_lim {P : Nat → Bool} : ∀ n, q_ct P n ≤ n
  | 0 => Nat.le_refl _
  | n + 1 => by
    have := q_ct_lim (P := P) n
    unfold q_ct
    split <;> omega
theorem pr_send {σ : am_M} {a b : Int32} (hI : Inv σ) : pairI sX6_send sX7_send [.inl a, .inl b] σ := by
  obtain ⟨n, pl, hv⟩ := id hI
  obtain ⟨h9, a1, a2, -⟩ := id hv
  obtain ⟨b1, b2, b3, b4, b5, b6, b7, b8, b9, b10, b11⟩ := id a2
  obtain ⟨k1, k2, k3, k4, k5, k6, k7, k8, k9, k10, k11, k12, k13⟩ := iv_q hv ivz_refl
  refine ⟨am_le rfl, fun X hX => b_sd0 hX a b ⟨fun c1 => ⟨_, rfl, am_le rfl, fun Y hY => b_sn0 hY a b ⟨fun _ => ⟨rfl, hI⟩, fun q => absurd c1 q⟩⟩, fun c1 => ⟨fun c2 => ⟨_, rfl, am_le rfl, fun Y hY => b_sn0 hY a b ⟨fun q => absurd q c1, fun _ => ⟨fun _ => ⟨rfl, hI⟩, fun q => absurd c2 q⟩⟩⟩, fun c2 => ⟨fun c3 => ⟨_, rfl, am_le rfl, fun Y hY => b_sn0 hY a b ⟨fun q => absurd q c1, fun _ => ⟨fun q => absurd q c2, fun _ => ⟨fun _ => ⟨rfl, hI⟩, fun q => absurd c3 q⟩⟩⟩⟩, fun c3 => ⟨fun c4 => ⟨_, rfl, am_le rfl, fun Y hY => b_sn0 hY a b ⟨fun q => absurd q c1, fun _ => ⟨fun q => absurd q c2, fun _ => ⟨fun q => absurd q c3, fun _ => ⟨fun _ => ⟨rfl, hI⟩, fun q => absurd c4 q⟩⟩⟩⟩⟩, fun c4 => ⟨k9, k9, ?_⟩⟩⟩⟩⟩⟩
  rw [b3, show nI pl - (1 : Int32) = nI (pl - 1) from pk_sub (b := 1) (by omega)]
  refine tX3_gather k9 (by omega) (q_512 h9 k4) (q_512 h9 (k13 2)) fun τ0 hg => ?_
  rw [k10] at hg
  refine b_sd55 hX a b ?_
  have hs0 := s_got_has hg (p_gd_126 h9 (by omega))
  have hg0 : ivz σ (am_u (am_u τ0 19 0 0 (0 : Int32)) 19 0 2 a) := ivz_trans (ivz_got hg) (ivz_of fun k _ _ _ _ _ c19 _ _ => by rw [am_u_k c19, am_u_k c19])
  have hs1 : s_has (am_u (am_u τ0 19 0 0 (0 : Int32)) 19 0 2 a) (q_ls (p_gd (c_r σ 0) n (pl - 1) (c_here σ 0) (c_who σ 0 2)) (2 ^ n)) := hs0
  have hm1 : (am_u (am_u τ0 19 0 0 (0 : Int32)) 19 0 2 a) 19 0 0 = 0 ∧ (am_u (am_u τ0 19 0 0 (0 : Int32)) 19 0 2 a) 19 0 2 = a := ⟨rfl, rfl⟩
  generalize am_u (am_u τ0 19 0 0 (0 : Int32)) 19 0 2 a = τ1 at hg0 hs1 hm1 ⊢
  generalize hL : q_ls (p_gd (c_r σ 0) n (pl - 1) (c_here σ 0) (c_who σ 0 2)) (2 ^ n) = Ls at hs1
  have hbg : ∃ bg : Nat → Bool, ∀ c, bg c = Ls.any fun S => g_un (c_r σ 0) (gs (nI (c / 6)) a (nI (c % 6))) S n := ⟨_, fun _ => rfl⟩
  obtain ⟨bg, hbg⟩ := hbg
  have ref : ∀ (τ : am_M), ivz σ τ → ∀ v : Int32, v = (if b = 0 then nI (q_ct bg 36) else sl bg 36) → sX7_send [am_r 20 0, .inl a, .inl b] τ (fun w τ2 => w = some (.inl v) ∧ Inv τ2) := by
    intro τ hz v hvv
    obtain ⟨j1, j2, j3, j4, j5, j6, j7, j8, j9, j10, j11, j12, j13⟩ := iv_q hv hz
    have hI2 : Inv τ := ⟨n, pl, iv_z hz hv⟩
    refine ⟨am_le rfl, fun Y hY => b_sn0 hY a b ⟨fun q => absurd q c1, fun _ => ⟨fun q => absurd q c2, fun _ => ⟨fun q => absurd q c3, fun _ => ⟨fun q => absurd q c4, fun _ => ?_⟩⟩⟩⟩⟩
    have ebg : ∀ c, q_ex (g_cs τ (gs (nI (c / 6)) a (nI (c % 6))) pl) (m_here τ + 1) = bg c := fun c => by
      rw [hbg, Bool.eq_iff_iff, q_ex_iff, List.any_eq_true]
      have e1 : ∀ S, g_cs τ (gs (nI (c / 6)) a (nI (c % 6))) pl S = (p_gd (c_r σ 0) n (pl - 1) (c_here σ 0) (c_who σ 0 2) S && g_un (c_r σ 0) (gs (nI (c / 6)) a (nI (c % 6))) S n) := fun S => by
        unfold g_cs p_gd
        rw [j2, j3, j5, j6]
        congr 1
        rw [Bool.eq_iff_iff, g_un_iff, g_un_iff]
        constructor
        · intro g p hp hs
          rw [← g p hp hs]
          exact al_cg (fun _ _ => rfl) (fun j hj => (j8 p j hp (by omega)).symm)
        · intro g p hp hs
          rw [← g p hp hs]
          exact al_cg (fun _ _ => rfl) (fun j hj => j8 p j hp (by omega))
      constructor
      · rintro ⟨S, hS, q⟩
        rw [e1, Bool.and_eq_true] at q
        refine ⟨S, ?_, q.2⟩
        rw [← hL, q_ls_mem]
        exact ⟨by rw [j3] at hS; omega, q.1⟩
      · rintro ⟨S, hS, q⟩
        rw [← hL, q_ls_mem] at hS
        refine ⟨S, ?_, by rw [e1, hS.2, q]; rfl⟩
        have := hS.2
        unfold p_gd at this
        rw [Bool.and_eq_true] at this
        have := q_sub_le (of_decide_eq_true this.1)
        rw [j3]
        omega
    refine q_dn (W := fun c => Y 33 [some (am_r 20 0), some (.inl a), some (.inl b), some (.inl (nI (q_ct bg c))), some (.inl (sl bg c)), some (.inl (nI c))] [] τ) (n := 36) (fun c hc IH => ?_) ?_ 0 (Nat.zero_le _)
    · refine b_sn33 hY a b _ _ c ?_
      have e6 : nI c / (6 : Int32) = nI (c / 6) := pk_div (d := 6) (by omega) (by decide) (by decide)
      have r6 : nI c - nI c / (6 : Int32) * (6 : Int32) = nI (c % 6) := pk_rem (d := 6) (by omega) (by decide) (by decide)
      rw [show ((36 : Int32) ≤ nI c ↔ 36 ≤ c) from nI_leI (a := 36) (by decide) (by omega), r6, e6]
      refine ⟨fun q => absurd q (by omega), fun _ => tX7_canSend (pl := pl) j1 j7 b5.2 b5.1 (by rw [j2, j5]; exact q_512 h9 (j13 2)) ?_⟩
      rw [ebg]
      have hl := q_ct_lim (P := bg) c
      have hz0 : nI (q_ct bg c) = (0 : Int32) ↔ q_ct bg c = 0 := nI_eq (b := 0) (by omega) (by decide)
      refine b_sn55 hY a b _ _ _ c ?_
      rw [bI_0, hz0, r6, e6, show (10 : Int32) * nI (c / 6) = nI (10 * (c / 6)) from pk_mul 10 _, nI_add, show nI c + (1 : Int32) = nI (c + 1) from nI_add c 1, show nI (q_ct bg c) + (1 : Int32) = nI (q_ct bg c + 1) from nI_add _ 1]
      rw [q_ct_s, sl_s] at IH
      refine ⟨fun d => ?_, fun d => ⟨fun f => ?_, fun f => ?_⟩⟩
      · rw [if_neg (by rw [d]; decide), if_neg (by rw [d]; decide)] at IH
        exact IH
      · have d' : bg c = true := by simpa using d
        rw [if_pos d', if_pos d', if_pos f] at IH
        exact IH
      · have d' : bg c = true := by simpa using d
        rw [if_pos d', if_pos d', if_neg f] at IH
        exact IH
    · refine b_sn33 hY a b _ _ 36 ⟨fun _ => ⟨fun d => ?_, fun d => ?_⟩, fun q => absurd (by decide) q⟩
      · rw [hvv, if_pos d]
        exact ⟨rfl, hI2⟩
      · rw [hvv, if_neg d]
        exact ⟨rfl, hI2⟩
  have outer := q_dn (W := fun t => ∀ τ : am_M, ivz σ τ → s_has τ Ls → (τ 19 0 0 = 0 ∧ τ 19 0 2 = a) → X 78 [some (am_r 0 0), some (.inl a), some (.inl b), some (.inl (nI (q_ct bg (6 * t)))), some (.inl (sl bg (6 * t))), some (.inl (nI t)), none] [] τ) (n := 6) (fun t ht IHt τ hz hs hm => ?_) (fun τ hz hs hm => ?_) 0 (Nat.zero_le _) τ1 hg0 hs1 hm1
  · exact outer
  · refine b_sd78 hX a b _ _ t ?_
    rw [show ((5 : Int32) < nI t ↔ 5 < t) from nI_ltI (a := 5) (by decide) (by omega)]
    refine ⟨fun q => absurd q (by omega), fun _ => ?_⟩
    have inner := q_dn (W := fun u => ∀ τ : am_M, ivz σ τ → s_has τ Ls → (τ 19 0 0 = 0 ∧ τ 19 0 2 = a) → X 87 [some (am_r 0 0), some (.inl a), some (.inl b), some (.inl (nI (q_ct bg (6 * t + u)))), some (.inl (sl bg (6 * t + u))), some (.inl (nI t)), some (.inl (nI u))] [] τ) (n := 6) (fun u hu IH τ hz hs hm => ?_) (fun τ hz hs hm => ?_) 0 (Nat.zero_le _) τ hz hs hm
    · exact inner
    · refine b_sd87 hX a b _ _ t u ?_
      rw [show ((5 : Int32) < nI u ↔ 5 < u) from nI_ltI (a := 5) (by decide) (by omega)]
      have hz2 : ivz σ (am_u (am_u τ 19 0 1 (nI t)) 19 0 3 (nI u)) := ivz_trans hz (ivz_of fun k _ _ _ _ _ c19 _ _ => by rw [am_u_k c19, am_u_k c19])
      have hs2 : s_has (am_u (am_u τ 19 0 1 (nI t)) 19 0 3 (nI u)) Ls := hs
      have hm2 : (am_u (am_u τ 19 0 1 (nI t)) 19 0 3 (nI u)) 19 0 0 = 0 ∧ (am_u (am_u τ 19 0 1 (nI t)) 19 0 3 (nI u)) 19 0 2 = a := hm
      have hg1 : (am_u (am_u τ 19 0 1 (nI t)) 19 0 3 (nI u)) 19 0 1 = nI t := rfl
      have hg3 : (am_u (am_u τ 19 0 1 (nI t)) 19 0 3 (nI u)) 19 0 3 = nI u := rfl
      generalize am_u (am_u τ 19 0 1 (nI t)) 19 0 3 (nI u) = υ at hz2 hs2 hm2 hg1 hg3 ⊢
      obtain ⟨j1, j2, j3, j4, j5, j6, j7, j8, j9, j10, j11, j12, j13⟩ := iv_q hv hz2
      have eg : ∀ j, j < 4 → υ 19 0 j = gs (nI t) a (nI u) j := fun j hj => by
        rcases (by omega : j = 0 ∨ j = 1 ∨ j = 2 ∨ j = 3) with e | e | e | e <;> subst e
        · exact hm2.1
        · exact hg1
        · exact hm2.2
        · exact hg3
      have es : s_in Ls (nI (c_riv υ 0 (υ 19 0) (-4)) ^^^ (-1)) = bg (6 * t + u) := by
        rw [hbg, show (6 * t + u) / 6 = t by omega, show (6 * t + u) % 6 = u by omega]
        unfold s_in
        rw [Bool.eq_iff_iff, List.any_eq_true, List.any_eq_true]
        have one : ∀ S, S ∈ Ls → (decide (nI S &&& (nI (c_riv υ 0 (υ 19 0) (-4)) ^^^ (-1) ^^^ (-1 : Int32)) = 0) = true ↔ g_un (c_r σ 0) (gs (nI t) a (nI u)) S n = true) := fun S hS => by
          rw [← hL, q_ls_mem] at hS
          have hx : nI (c_riv υ 0 (υ 19 0) (-4)) ^^^ (-1) ^^^ (-1 : Int32) = nI (c_riv υ 0 (υ 19 0) (-4)) := by
            rw [Int32.xor_assoc, show (-1 : Int32) ^^^ (-1) = 0 by decide, Int32.xor_zero]
          have hl : S &&& c_riv υ 0 (υ 19 0) (-4) < 2 ^ 31 := Nat.lt_of_le_of_lt Nat.and_le_left (by have := q_512 h9 hS.1; omega)
          rw [hx, q_and, decide_eq_true_iff, show (nI (S &&& c_riv υ 0 (υ 19 0) (-4)) = (0 : Int32) ↔ S &&& c_riv υ 0 (υ 19 0) (-4) = 0) from nI_eq (b := 0) hl (by decide), g_un_iff]
          have bit : ∀ p, (c_riv υ 0 (υ 19 0) (-4)).testBit p = (decide (p < n) && al (gs (nI t) a (nI u)) (c_r σ 0 p)) := fun p => by
            unfold c_riv
            rw [q_set_bit, j10]
            by_cases hp : p < n
            · have e4 : ¬ nI p = (-4 : Int32) := q_m4 (by omega)
              rw [decide_eq_false e4]
              have hr := ivz_r hz2 (p := p) (by omega)
              have e5 : al (υ 19 0) (υ 5 (9 * 0 + p)) = al (gs (nI t) a (nI u)) (c_r σ 0 p) := by
                refine al_cg eg fun j hj => ?_
                rw [← hr]
                rfl
              rw [e5]
              simp [hp]
            · rw [decide_eq_false hp]
              rfl
          constructor
          · intro q p hp hs
            have := congrArg (fun x => x.testBit p) q
            simp only [Nat.testBit_and, Nat.zero_testBit, bit, hs, decide_eq_true hp, Bool.true_and] at this
            exact this
          · intro q
            apply Nat.eq_of_testBit_eq
            intro p
            rw [Nat.testBit_and, Nat.zero_testBit, bit]
            by_cases hp : p < n
            · cases hs : S.testBit p
              · rfl
              · rw [q p hp hs]
                simp
            · rw [decide_eq_false hp]
              simp
        constructor
        · rintro ⟨S, hS, q⟩
          exact ⟨S, hS, (one S hS).1 q⟩
        · rintro ⟨S, hS, q⟩
          exact ⟨S, hS, (one S hS).2 q⟩
      refine ⟨fun q => absurd q (by omega), fun _ => ⟨j9, tX3_hasOneWithin hs2 ?_⟩⟩
      rw [es]
      have go := IH υ hz2 hs2 hm2
      have hl := q_ct_lim (P := bg) (6 * t + u)
      have hsl : sl bg (6 * t + u) = -4 ↔ q_ct bg (6 * t + u) = 0 := sl_4 (by omega)
      have s159 : ∀ x y : Int32, X 87 [some (am_r 0 0), some (.inl a), some (.inl b), some (.inl x), some (.inl y), some (.inl (nI t)), some (.inl (nI (u + 1)))] [] υ → X 159 [some (am_r 0 0), some (.inl a), some (.inl b), some (.inl x), some (.inl y), some (.inl (nI t)), some (.inl (nI u))] [] υ := fun x y g => b_sd159 hX a b x y t u (by
        rw [show nI u + (1 : Int32) = nI (u + 1) from nI_add u 1]
        exact g)
      rw [show 6 * t + (u + 1) = 6 * t + u + 1 by omega] at go
      rw [q_ct_s, sl_s] at go
      rw [show (6 * t + u) / 6 = t by omega, show (6 * t + u) % 6 = u by omega] at go
      refine ⟨fun d => ?_, fun d => ?_⟩
      · refine b_sd131 hX a b _ _ _ t u ?_
        rw [hsl, show (10 : Int32) * nI t = nI (10 * t) from pk_mul 10 _, nI_add, show nI (q_ct bg (6 * t + u)) + (1 : Int32) = nI (q_ct bg (6 * t + u) + 1) from nI_add _ 1]
        rw [if_pos d, if_pos d] at go
        refine ⟨fun q => absurd q (by decide), fun _ => ⟨fun f => s159 _ _ ?_, fun f => s159 _ _ ?_⟩⟩
        · rw [if_pos f] at go
          exact go
        · rw [if_neg f] at go
          exact go
      · rw [if_neg d, if_neg d] at go
        exact b_sd131 hX a b _ _ _ t u ⟨fun _ => s159 _ _ go, fun q => absurd rfl q⟩
    · refine b_sd87 hX a b _ _ t 6 ⟨fun _ => ?_, fun q => absurd (by decide) q⟩
      refine am_fo hX (ls := [some (am_r 0 0), some (.inl a), some (.inl b), some (.inl (nI (q_ct bg (6 * t + 6)))), some (.inl (sl bg (6 * t + 6))), some (.inl (nI t)), none]) ⟨rfl, rfl, rfl, rfl, rfl, rfl, trivial⟩ (b_sd165 hX a b _ _ t ?_)
      rw [show nI t + (1 : Int32) = nI (t + 1) from nI_add t 1]
      exact IHt τ hz hs hm
  · refine b_sd78 hX a b _ _ 6 ⟨fun _ => ⟨fun d => ⟨_, rfl, ref τ hz _ ?_⟩, fun d => ⟨_, rfl, ref τ hz _ ?_⟩⟩, fun q => absurd (by decide) q⟩
    · rw [if_pos d]
    · rw [if_neg d]
