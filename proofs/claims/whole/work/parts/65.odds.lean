/-! pairs: odds, mean -/
set_option maxRecDepth 100000 in
set_option maxHeartbeats 400000 in
theorem b_pw0 {K : Option am_V → am_M → Prop} {X : Nat → am_L → List am_V → am_M → Prop} (hX : am_cl eX6_power lX6_power (some .long) K X) {σ : am_M} (a b : Int32) (h : X 5 [some (.inl a), some (.inl b), some (.inr (.inl (1 : Int64))), none, some (.inl (0 : Int32))] [] σ) : X 0 [some (.inl a), some (.inl b), none, none, none] [] σ := am_run_ok emX6_power hX [5] 400 (show X 5 [some (.inl a), some (.inl b), some (.inr (.inl (1 : Int64))), none, some (.inl (0 : Int32))] [] σ from h)
set_option maxRecDepth 100000 in
set_option maxHeartbeats 400000 in
theorem b_pw5 {K : Option am_V → am_M → Prop} {X : Nat → am_L → List am_V → am_M → Prop} (hX : am_cl eX6_power lX6_power (some .long) K X) {σ : am_M} (a b : Int32) (x : Int64) (i : Nat) (h : ((b ≤ (nI i)) → K (some (.inr (.inl x))) σ) ∧ (¬ (b ≤ (nI i)) → X 5 [some (.inl a), some (.inl b), some (.inr (.inl (x * (a).toInt64))), none, some (.inl ((nI i) + (1 : Int32)))] [] σ)) : X 5 [some (.inl a), some (.inl b), some (.inr (.inl x)), none, some (.inl (nI i))] [] σ := am_run_ok emX6_power hX [5] 400 (show ((b ≤ (nI i)) → K (some (.inr (.inl x))) σ) ∧ (¬ (b ≤ (nI i)) → X 5 [some (.inl a), some (.inl b), some (.inr (.inl (x * (a).toInt64))), none, some (.inl ((nI i) + (1 : Int32)))] [] σ) from ⟨fun q0 => (h.1 q0), fun q0 => (h.2 q0)⟩)
set_option maxRecDepth 100000 in
set_option maxHeartbeats 400000 in
theorem b_wg0 {K : Option am_V → am_M → Prop} {X : Nat → am_L → List am_V → am_M → Prop} (hX : am_cl eX6_weight lX6_weight (some .long) K X) {σ : am_M} (v : Int32) (w s : Nat) (h : (q_lim ((nI w) &&& ((nI s) ^^^ (-1 : Int32))) 511) ∧ (sX6_power [.inl v, .inl (nI (q_pop ((nI w) &&& ((nI s) ^^^ (-1 : Int32))).toNatClampNeg 9))] σ (fun vv tt => X 12 [some (.inl v), some (.inl (nI w)), some (.inl (nI s))] (vv.toList ++ []) tt))) : X 0 [some (.inl v), some (.inl (nI w)), some (.inl (nI s))] [] σ := am_run_ok emX6_weight hX [12] 400 (show 1 ≤ 2 ∧ 1 ≤ 8 ∧ sJ6_bitCount [.inl ((nI w) &&& ((nI s) ^^^ (-1 : Int32)))] σ (fun vv tt => am_run eX6_weight lX6_weight (some .long) K X [12] 393 9 [some (.inl v), some (.inl (nI w)), some (.inl (nI s))] (vv.toList ++ [.inl v]) tt) from ⟨am_le rfl, am_le rfl, vJ6_bitCount (⟨h.1, (show 2 ≤ 2 ∧ 0 ≤ 8 ∧ sX6_power [.inl v, .inl (nI (q_pop ((nI w) &&& ((nI s) ^^^ (-1 : Int32))).toNatClampNeg 9))] σ (fun vv tt => X 12 [some (.inl v), some (.inl (nI w)), some (.inl (nI s))] (vv.toList ++ []) tt) from ⟨am_le rfl, am_le rfl, h.2⟩)⟩)⟩)
set_option maxRecDepth 100000 in
set_option maxHeartbeats 400000 in
theorem b_wg12 {K : Option am_V → am_M → Prop} {X : Nat → am_L → List am_V → am_M → Prop} (hX : am_cl eX6_weight lX6_weight (some .long) K X) {σ : am_M} (v : Int32) (w s : Nat) (x : Int64) (h : (s < 512) ∧ (sX6_power [.inl ((10 : Int32) - v), .inl (nI (q_pop s 9))] σ (fun vv tt => X 23 [some (.inl v), some (.inl (nI w)), some (.inl (nI s))] (vv.toList ++ [.inr (.inl x)]) tt))) : X 12 [some (.inl v), some (.inl (nI w)), some (.inl (nI s))] [.inr (.inl x)] σ := am_run_ok emX6_weight hX [23] 400 (show 1 ≤ 3 ∧ 3 ≤ 8 ∧ sJ6_bitCount [.inl (nI s)] σ (fun vv tt => am_run eX6_weight lX6_weight (some .long) K X [23] 395 20 [some (.inl v), some (.inl (nI w)), some (.inl (nI s))] (vv.toList ++ [.inl ((10 : Int32) - v), .inr (.inl x)]) tt) from ⟨am_le rfl, am_le rfl, wJ6_bitCount (⟨h.1, (show 2 ≤ 3 ∧ 2 ≤ 8 ∧ sX6_power [.inl ((10 : Int32) - v), .inl (nI (q_pop s 9))] σ (fun vv tt => X 23 [some (.inl v), some (.inl (nI w)), some (.inl (nI s))] (vv.toList ++ [.inr (.inl x)]) tt) from ⟨am_le rfl, am_le rfl, h.2⟩)⟩)⟩)
set_option maxRecDepth 100000 in
set_option maxHeartbeats 400000 in
theorem b_wg23 {K : Option am_V → am_M → Prop} {X : Nat → am_L → List am_V → am_M → Prop} (hX : am_cl eX6_weight lX6_weight (some .long) K X) {σ : am_M} (v : Int32) (w s : Nat) (x y : Int64) (h : K (some (.inr (.inl (x * y)))) σ) : X 23 [some (.inl v), some (.inl (nI w)), some (.inl (nI s))] [.inr (.inl y), .inr (.inl x)] σ := am_run_ok emX6_weight hX [] 400 (show K (some (.inr (.inl (x * y)))) σ from h)
set_option maxRecDepth 100000 in
set_option maxHeartbeats 400000 in
theorem b_gc0 {K : Option am_V → am_M → Prop} {X : Nat → am_L → List am_V → am_M → Prop} (hX : am_cl eX6_commonDivisor lX6_commonDivisor (some .long) K X) {σ : am_M} (a b : Int64) (h : X 9 [some (.inr (.inl a)), none, some (.inr (.inl b)), none, some (.inr (.inl a)), none, some (.inr (.inl b)), none, some (.inl (0 : Int32)), none, none] [] σ) : X 0 [some (.inr (.inl a)), none, some (.inr (.inl b)), none, none, none, none, none, none, none, none] [] σ := am_run_ok emX6_commonDivisor hX [9] 400 (show X 9 [some (.inr (.inl a)), none, some (.inr (.inl b)), none, some (.inr (.inl a)), none, some (.inr (.inl b)), none, some (.inl (0 : Int32)), none, none] [] σ from h)
set_option maxRecDepth 100000 in
set_option maxHeartbeats 400000 in
theorem b_gc9 {K : Option am_V → am_M → Prop} {X : Nat → am_L → List am_V → am_M → Prop} (hX : am_cl eX6_commonDivisor lX6_commonDivisor (some .long) K X) {σ : am_M} (a b x y : Int64) (i : Nat) (h : (((100 : Int32) ≤ (nI i)) → K (some (.inr (.inl x))) σ) ∧ (¬ ((100 : Int32) ≤ (nI i)) → (((lg_cmp y (0 : Int64)) = (0 : Int32)) → K (some (.inr (.inl x))) σ) ∧ (¬ ((lg_cmp y (0 : Int64)) = (0 : Int32)) → (¬ y = 0) ∧ (X 9 [some (.inr (.inl a)), none, some (.inr (.inl b)), none, some (.inr (.inl y)), none, some (.inr (.inl (x - x / y * y))), none, some (.inl ((nI i) + (1 : Int32))), some (.inr (.inl (x - x / y * y))), none] [] σ)))) : X 9 [some (.inr (.inl a)), none, some (.inr (.inl b)), none, some (.inr (.inl x)), none, some (.inr (.inl y)), none, some (.inl (nI i)), none, none] [] σ := am_run_ok emX6_commonDivisor hX [9] 400 (show (((100 : Int32) ≤ (nI i)) → K (some (.inr (.inl x))) σ) ∧ (¬ ((100 : Int32) ≤ (nI i)) → (((lg_cmp y (0 : Int64)) = (0 : Int32)) → K (some (.inr (.inl x))) σ) ∧ (¬ ((lg_cmp y (0 : Int64)) = (0 : Int32)) → (¬ y = 0) ∧ (X 9 [some (.inr (.inl a)), none, some (.inr (.inl b)), none, some (.inr (.inl y)), none, some (.inr (.inl (x - x / y * y))), none, some (.inl ((nI i) + (1 : Int32))), some (.inr (.inl (x - x / y * y))), none] [] σ))) from ⟨fun q0 => (h.1 q0), fun q0 => ⟨fun q1 => ((h.2 q0).1 q1), fun q1 => ⟨((h.2 q0).2 q1).1, ((h.2 q0).2 q1).2⟩⟩⟩)
set_option maxRecDepth 100000 in
set_option maxHeartbeats 400000 in
theorem b_iw0 {K : Option am_V → am_M → Prop} {X : Nat → am_L → List am_V → am_M → Prop} (hX : am_cl eX6_inLowestTerms lX6_inLowestTerms (some .long) K X) {σ : am_M} (a b : Int64) (w : Int32) (h : sX6_commonDivisor [.inr (.inl a), .inr (.inl b)] σ (fun vv tt => X 5 [some (.inr (.inl a)), none, some (.inr (.inl b)), none, some (.inl w), none, none] (vv.toList ++ []) tt)) : X 0 [some (.inr (.inl a)), none, some (.inr (.inl b)), none, some (.inl w), none, none] [] σ := am_run_ok emX6_inLowestTerms hX [5] 400 (show 2 ≤ 2 ∧ 0 ≤ 8 ∧ sX6_commonDivisor [.inr (.inl a), .inr (.inl b)] σ (fun vv tt => X 5 [some (.inr (.inl a)), none, some (.inr (.inl b)), none, some (.inl w), none, none] (vv.toList ++ []) tt) from ⟨am_le rfl, am_le rfl, h⟩)
set_option maxRecDepth 100000 in
set_option maxHeartbeats 400000 in
theorem b_iw5 {K : Option am_V → am_M → Prop} {X : Nat → am_L → List am_V → am_M → Prop} (hX : am_cl eX6_inLowestTerms lX6_inLowestTerms (some .long) K X) {σ : am_M} (a b d : Int64) (w : Int32) (h : (((lg_cmp d (0 : Int64)) = (0 : Int32)) → K (some (.inr (.inl (-1 : Int64)))) σ) ∧ (¬ ((lg_cmp d (0 : Int64)) = (0 : Int32)) → ((w = (0 : Int32)) → (¬ d = 0) ∧ (K (some (.inr (.inl (a / d)))) σ)) ∧ (¬ (w = (0 : Int32)) → (¬ d = 0) ∧ (K (some (.inr (.inl (b / d)))) σ)))) : X 5 [some (.inr (.inl a)), none, some (.inr (.inl b)), none, some (.inl w), none, none] [.inr (.inl d)] σ := am_run_ok emX6_inLowestTerms hX [] 400 (show (((lg_cmp d (0 : Int64)) = (0 : Int32)) → K (some (.inr (.inl (-1 : Int64)))) σ) ∧ (¬ ((lg_cmp d (0 : Int64)) = (0 : Int32)) → ((w = (0 : Int32)) → (¬ d = 0) ∧ (K (some (.inr (.inl (a / d)))) σ)) ∧ (¬ (w = (0 : Int32)) → (¬ d = 0) ∧ (K (some (.inr (.inl (b / d)))) σ))) from ⟨fun q0 => (h.1 q0), fun q0 => ⟨fun q1 => ⟨((h.2 q0).1 q1).1, ((h.2 q0).1 q1).2⟩, fun q1 => ⟨((h.2 q0).2 q1).1, ((h.2 q0).2 q1).2⟩⟩⟩)
set_option maxRecDepth 100000 in
set_option maxHeartbeats 400000 in
theorem b_od0 {K : Option am_V → am_M → Prop} {X : Nat → am_L → List am_V → am_M → Prop} (hX : am_cl eX6_odds lX6_odds (some .long) K X) {σ : am_M} (v b : Int32) (h : ((v < (0 : Int32)) → K (some (.inr (.inl (-1 : Int64)))) σ) ∧ (¬ (v < (0 : Int32)) → (((10 : Int32) < v) → K (some (.inr (.inl (-1 : Int64)))) σ) ∧ (¬ ((10 : Int32) < v) → ((b < (0 : Int32)) → K (some (.inr (.inl (-1 : Int64)))) σ) ∧ (¬ (b < (0 : Int32)) → (((1 : Int32) < b) → K (some (.inr (.inl (-1 : Int64)))) σ) ∧ (¬ ((1 : Int32) < b) → (c_ok σ 0) ∧ ((c_ok σ 0) ∧ (sX3_gather [.inr (.inr (7, 0)), .inr (.inr (3, 0)), .inl (σ 3 0 2), .inl ((nI (c_who σ 0 (1 : Int32))) ||| (nI (c_who σ 0 (2 : Int32)))), .inl (nI (c_who σ 0 (2 : Int32)))] σ (fun vv tt => X 66 [some (.inr (.inr (0, 0))), some (.inl v), some (.inl b), some (.inl (nI (c_who σ 0 (1 : Int32)))), some (.inl (nI (c_who σ 0 (2 : Int32)))), none, none, none] (vv.toList ++ []) tt)))))))) : X 0 [some (.inr (.inr (0, 0))), some (.inl v), some (.inl b), none, none, none, none, none] [] σ := am_run_ok emX6_odds hX [66] 400 (show 3 ≤ 3 ∧ 0 ≤ 8 ∧ sX6_isWithin [.inl v, .inl (0 : Int32), .inl (10 : Int32)] σ (fun vv tt => am_run eX6_odds lX6_odds (some .long) K X [66] 396 7 [some (.inr (.inr (0, 0))), some (.inl v), some (.inl b), none, none, none, none, none] (vv.toList ++ []) tt) from ⟨am_le rfl, am_le rfl, tX6_isWithin (⟨fun q0 => (show (((0 : Int32) = (0 : Int32)) → K (some (.inr (.inl (-1 : Int64)))) σ) ∧ (¬ ((0 : Int32) = (0 : Int32)) → _) from ⟨fun _ => (h.1 q0), fun q => absurd (by decide) q⟩), fun q0 => ⟨fun q1 => (show (((0 : Int32) = (0 : Int32)) → K (some (.inr (.inl (-1 : Int64)))) σ) ∧ (¬ ((0 : Int32) = (0 : Int32)) → _) from ⟨fun _ => ((h.2 q0).1 q1), fun q => absurd (by decide) q⟩), fun q1 => (show (((1 : Int32) = (0 : Int32)) → _) ∧ (¬ ((1 : Int32) = (0 : Int32)) → 3 ≤ 3 ∧ 0 ≤ 8 ∧ sX6_isWithin [.inl b, .inl (0 : Int32), .inl (1 : Int32)] σ (fun vv tt => am_run eX6_odds lX6_odds (some .long) K X [66] 391 16 [some (.inr (.inr (0, 0))), some (.inl v), some (.inl b), none, none, none, none, none] (vv.toList ++ []) tt)) from ⟨fun q => absurd q (by decide), fun _ => ⟨am_le rfl, am_le rfl, tX6_isWithin (⟨fun q2 => (show (((0 : Int32) = (0 : Int32)) → K (some (.inr (.inl (-1 : Int64)))) σ) ∧ (¬ ((0 : Int32) = (0 : Int32)) → _) from ⟨fun _ => (((h.2 q0).2 q1).1 q2), fun q => absurd (by decide) q⟩), fun q2 => ⟨fun q3 => (show (((0 : Int32) = (0 : Int32)) → K (some (.inr (.inl (-1 : Int64)))) σ) ∧ (¬ ((0 : Int32) = (0 : Int32)) → _) from ⟨fun _ => ((((h.2 q0).2 q1).2 q2).1 q3), fun q => absurd (by decide) q⟩), fun q3 => (show (((1 : Int32) = (0 : Int32)) → _) ∧ (¬ ((1 : Int32) = (0 : Int32)) → 2 ≤ 2 ∧ 0 ≤ 8 ∧ True ∧ sX0_those [.inr (.inr (3, 0)), .inl (1 : Int32)] σ (fun vv tt => am_run eX6_odds lX6_odds (some .long) K X [66] 386 31 [some (.inr (.inr (0, 0))), some (.inl v), some (.inl b), none, none, none, none, none] (vv.toList ++ []) tt)) from ⟨fun q => absurd q (by decide), fun _ => ⟨am_le rfl, am_le rfl, trivial, tX0_those (⟨((((h.2 q0).2 q1).2 q2).2 q3).1, (show 2 ≤ 2 ∧ 0 ≤ 8 ∧ True ∧ sX0_those [.inr (.inr (3, 0)), .inl (2 : Int32)] σ (fun vv tt => am_run eX6_odds lX6_odds (some .long) K X [66] 381 40 [some (.inr (.inr (0, 0))), some (.inl v), some (.inl b), some (.inl (nI (c_who σ 0 (1 : Int32)))), none, none, none, none] (vv.toList ++ []) tt) from ⟨am_le rfl, am_le rfl, trivial, tX0_those (⟨((((h.2 q0).2 q1).2 q2).2 q3).2.1, (show 5 ≤ 5 ∧ 0 ≤ 8 ∧ True ∧ sX3_gather [.inr (.inr (7, 0)), .inr (.inr (3, 0)), .inl (σ 3 0 2), .inl ((nI (c_who σ 0 (1 : Int32))) ||| (nI (c_who σ 0 (2 : Int32)))), .inl (nI (c_who σ 0 (2 : Int32)))] σ (fun vv tt => X 66 [some (.inr (.inr (0, 0))), some (.inl v), some (.inl b), some (.inl (nI (c_who σ 0 (1 : Int32)))), some (.inl (nI (c_who σ 0 (2 : Int32)))), none, none, none] (vv.toList ++ []) tt) from ⟨am_le rfl, am_le rfl, trivial, ((((h.2 q0).2 q1).2 q2).2 q3).2.2⟩)⟩)⟩)⟩)⟩⟩)⟩⟩)⟩⟩)⟩⟩)⟩)
set_option maxRecDepth 100000 in
set_option maxHeartbeats 400000 in
theorem b_me0 {K : Option am_V → am_M → Prop} {X : Nat → am_L → List am_V → am_M → Prop} (hX : am_cl eX6_mean lX6_mean (some .long) K X) {σ : am_M} (v b : Int32) (h : ((v < (0 : Int32)) → K (some (.inr (.inl (-1 : Int64)))) σ) ∧ (¬ (v < (0 : Int32)) → (((10 : Int32) < v) → K (some (.inr (.inl (-1 : Int64)))) σ) ∧ (¬ ((10 : Int32) < v) → ((b < (0 : Int32)) → K (some (.inr (.inl (-1 : Int64)))) σ) ∧ (¬ (b < (0 : Int32)) → (((1 : Int32) < b) → K (some (.inr (.inl (-1 : Int64)))) σ) ∧ (¬ ((1 : Int32) < b) → (c_ok σ 0) ∧ ((c_ok σ 0) ∧ (sX3_gather [.inr (.inr (7, 0)), .inr (.inr (3, 0)), .inl (σ 3 0 2), .inl ((nI (c_who σ 0 (1 : Int32))) ||| (nI (c_who σ 0 (2 : Int32)))), .inl (0 : Int32)] σ (fun vv tt => X 65 [some (.inr (.inr (0, 0))), some (.inl v), some (.inl b), some (.inl (nI (c_who σ 0 (1 : Int32)))), some (.inl (nI (c_who σ 0 (2 : Int32)))), none, none, none] (vv.toList ++ []) tt)))))))) : X 0 [some (.inr (.inr (0, 0))), some (.inl v), some (.inl b), none, none, none, none, none] [] σ := am_run_ok emX6_mean hX [65] 400 (show 3 ≤ 3 ∧ 0 ≤ 8 ∧ sX6_isWithin [.inl v, .inl (0 : Int32), .inl (10 : Int32)] σ (fun vv tt => am_run eX6_mean lX6_mean (some .long) K X [65] 396 7 [some (.inr (.inr (0, 0))), some (.inl v), some (.inl b), none, none, none, none, none] (vv.toList ++ []) tt) from ⟨am_le rfl, am_le rfl, tX6_isWithin (⟨fun q0 => (show (((0 : Int32) = (0 : Int32)) → K (some (.inr (.inl (-1 : Int64)))) σ) ∧ (¬ ((0 : Int32) = (0 : Int32)) → _) from ⟨fun _ => (h.1 q0), fun q => absurd (by decide) q⟩), fun q0 => ⟨fun q1 => (show (((0 : Int32) = (0 : Int32)) → K (some (.inr (.inl (-1 : Int64)))) σ) ∧ (¬ ((0 : Int32) = (0 : Int32)) → _) from ⟨fun _ => ((h.2 q0).1 q1), fun q => absurd (by decide) q⟩), fun q1 => (show (((1 : Int32) = (0 : Int32)) → _) ∧ (¬ ((1 : Int32) = (0 : Int32)) → 3 ≤ 3 ∧ 0 ≤ 8 ∧ sX6_isWithin [.inl b, .inl (0 : Int32), .inl (1 : Int32)] σ (fun vv tt => am_run eX6_mean lX6_mean (some .long) K X [65] 391 16 [some (.inr (.inr (0, 0))), some (.inl v), some (.inl b), none, none, none, none, none] (vv.toList ++ []) tt)) from ⟨fun q => absurd q (by decide), fun _ => ⟨am_le rfl, am_le rfl, tX6_isWithin (⟨fun q2 => (show (((0 : Int32) = (0 : Int32)) → K (some (.inr (.inl (-1 : Int64)))) σ) ∧ (¬ ((0 : Int32) = (0 : Int32)) → _) from ⟨fun _ => (((h.2 q0).2 q1).1 q2), fun q => absurd (by decide) q⟩), fun q2 => ⟨fun q3 => (show (((0 : Int32) = (0 : Int32)) → K (some (.inr (.inl (-1 : Int64)))) σ) ∧ (¬ ((0 : Int32) = (0 : Int32)) → _) from ⟨fun _ => ((((h.2 q0).2 q1).2 q2).1 q3), fun q => absurd (by decide) q⟩), fun q3 => (show (((1 : Int32) = (0 : Int32)) → _) ∧ (¬ ((1 : Int32) = (0 : Int32)) → 2 ≤ 2 ∧ 0 ≤ 8 ∧ True ∧ sX0_those [.inr (.inr (3, 0)), .inl (1 : Int32)] σ (fun vv tt => am_run eX6_mean lX6_mean (some .long) K X [65] 386 31 [some (.inr (.inr (0, 0))), some (.inl v), some (.inl b), none, none, none, none, none] (vv.toList ++ []) tt)) from ⟨fun q => absurd q (by decide), fun _ => ⟨am_le rfl, am_le rfl, trivial, tX0_those (⟨((((h.2 q0).2 q1).2 q2).2 q3).1, (show 2 ≤ 2 ∧ 0 ≤ 8 ∧ True ∧ sX0_those [.inr (.inr (3, 0)), .inl (2 : Int32)] σ (fun vv tt => am_run eX6_mean lX6_mean (some .long) K X [65] 381 40 [some (.inr (.inr (0, 0))), some (.inl v), some (.inl b), some (.inl (nI (c_who σ 0 (1 : Int32)))), none, none, none, none] (vv.toList ++ []) tt) from ⟨am_le rfl, am_le rfl, trivial, tX0_those (⟨((((h.2 q0).2 q1).2 q2).2 q3).2.1, (show 5 ≤ 5 ∧ 0 ≤ 8 ∧ True ∧ sX3_gather [.inr (.inr (7, 0)), .inr (.inr (3, 0)), .inl (σ 3 0 2), .inl ((nI (c_who σ 0 (1 : Int32))) ||| (nI (c_who σ 0 (2 : Int32)))), .inl (0 : Int32)] σ (fun vv tt => X 65 [some (.inr (.inr (0, 0))), some (.inl v), some (.inl b), some (.inl (nI (c_who σ 0 (1 : Int32)))), some (.inl (nI (c_who σ 0 (2 : Int32)))), none, none, none] (vv.toList ++ []) tt) from ⟨am_le rfl, am_le rfl, trivial, ((((h.2 q0).2 q1).2 q2).2 q3).2.2⟩)⟩)⟩)⟩)⟩⟩)⟩⟩)⟩⟩)⟩⟩)⟩)
set_option maxRecDepth 100000 in
set_option maxHeartbeats 400000 in
theorem b_od66 {K : Option am_V → am_M → Prop} {X : Nat → am_L → List am_V → am_M → Prop} (hX : am_cl eX6_odds lX6_odds (some .long) K X) {σ : am_M} (v b : Int32) (w q : Nat) (h : X 72 [some (.inr (.inr (0, 0))), some (.inl v), some (.inl b), some (.inl (nI w)), some (.inl (nI q)), some (.inr (.inl (0 : Int64))), none, some (.inl (0 : Int32))] [] σ) : X 66 [some (.inr (.inr (0, 0))), some (.inl v), some (.inl b), some (.inl (nI w)), some (.inl (nI q)), none, none, none] [] σ := am_run_ok emX6_odds hX [72] 400 (show X 72 [some (.inr (.inr (0, 0))), some (.inl v), some (.inl b), some (.inl (nI w)), some (.inl (nI q)), some (.inr (.inl (0 : Int64))), none, some (.inl (0 : Int32))] [] σ from h)
set_option maxRecDepth 100000 in
set_option maxHeartbeats 400000 in
theorem b_me65 {K : Option am_V → am_M → Prop} {X : Nat → am_L → List am_V → am_M → Prop} (hX : am_cl eX6_mean lX6_mean (some .long) K X) {σ : am_M} (v b : Int32) (w q : Nat) (h : sX3_pack [.inr (.inr (7, 0))] σ (fun vv tt => X 72 [some (.inr (.inr (0, 0))), some (.inl v), some (.inl b), some (.inl (nI w)), some (.inl (nI q)), none, none, none] (vv.toList ++ []) tt)) : X 65 [some (.inr (.inr (0, 0))), some (.inl v), some (.inl b), some (.inl (nI w)), some (.inl (nI q)), none, none, none] [] σ := am_run_ok emX6_mean hX [72] 400 (show 1 ≤ 1 ∧ 0 ≤ 8 ∧ True ∧ sX3_pack [.inr (.inr (7, 0))] σ (fun vv tt => X 72 [some (.inr (.inr (0, 0))), some (.inl v), some (.inl b), some (.inl (nI w)), some (.inl (nI q)), none, none, none] (vv.toList ++ []) tt) from ⟨am_le rfl, am_le rfl, trivial, h⟩)
set_option maxRecDepth 100000 in
set_option maxHeartbeats 400000 in
theorem b_me72 {K : Option am_V → am_M → Prop} {X : Nat → am_L → List am_V → am_M → Prop} (hX : am_cl eX6_mean lX6_mean (some .long) K X) {σ : am_M} (v b : Int32) (w q : Nat) (h : X 78 [some (.inr (.inr (0, 0))), some (.inl v), some (.inl b), some (.inl (nI w)), some (.inl (nI q)), some (.inr (.inl (0 : Int64))), none, some (.inl (0 : Int32))] [] σ) : X 72 [some (.inr (.inr (0, 0))), some (.inl v), some (.inl b), some (.inl (nI w)), some (.inl (nI q)), none, none, none] [] σ := am_run_ok emX6_mean hX [78] 400 (show X 78 [some (.inr (.inr (0, 0))), some (.inl v), some (.inl b), some (.inl (nI w)), some (.inl (nI q)), some (.inr (.inl (0 : Int64))), none, some (.inl (0 : Int32))] [] σ from h)
set_option maxRecDepth 100000 in
set_option maxHeartbeats 400000 in
theorem b_od72 {K : Option am_V → am_M → Prop} {X : Nat → am_L → List am_V → am_M → Prop} (hX : am_cl eX6_odds lX6_odds (some .long) K X) {σ : am_M} (v b : Int32) (w q t : Nat) (s : Int64) (h : (((nI w) < (nI t)) → (w < 512) ∧ (X 128 [some (.inr (.inr (0, 0))), some (.inl v), some (.inl b), some (.inl (nI w)), some (.inl (nI q)), some (.inr (.inl s)), none, some (.inl (nI t))] [.inl (nI (q_pop w 9)), .inl (10 : Int32), .inr (.inl s)] σ)) ∧ (¬ ((nI w) < (nI t)) → ((((nI t) &&& ((nI w) ^^^ (-1 : Int32))) = (0 : Int32)) → sX3_hasOneWithin [.inr (.inr (7, 0)), .inl ((nI t) ||| (nI q))] σ (fun vv tt => X 99 [some (.inr (.inr (0, 0))), some (.inl v), some (.inl b), some (.inl (nI w)), some (.inl (nI q)), some (.inr (.inl s)), none, some (.inl (nI t))] (vv.toList ++ []) tt)) ∧ (¬ (((nI t) &&& ((nI w) ^^^ (-1 : Int32))) = (0 : Int32)) → X 114 [some (.inr (.inr (0, 0))), some (.inl v), some (.inl b), some (.inl (nI w)), some (.inl (nI q)), some (.inr (.inl s)), none, some (.inl (nI t))] [] σ))) : X 72 [some (.inr (.inr (0, 0))), some (.inl v), some (.inl b), some (.inl (nI w)), some (.inl (nI q)), some (.inr (.inl s)), none, some (.inl (nI t))] [] σ := am_run_ok emX6_odds hX [99, 114, 128] 400 (show (((nI w) < (nI t)) → 1 ≤ 3 ∧ 3 ≤ 8 ∧ sJ6_bitCount [.inl (nI w)] σ (fun vv tt => X 128 [some (.inr (.inr (0, 0))), some (.inl v), some (.inl b), some (.inl (nI w)), some (.inl (nI q)), some (.inr (.inl s)), none, some (.inl (nI t))] (vv.toList ++ [.inl (10 : Int32), .inr (.inl s)]) tt)) ∧ (¬ ((nI w) < (nI t)) → ((((nI t) &&& ((nI w) ^^^ (-1 : Int32))) = (0 : Int32)) → 2 ≤ 2 ∧ 0 ≤ 8 ∧ True ∧ sX3_hasOneWithin [.inr (.inr (7, 0)), .inl ((nI t) ||| (nI q))] σ (fun vv tt => X 99 [some (.inr (.inr (0, 0))), some (.inl v), some (.inl b), some (.inl (nI w)), some (.inl (nI q)), some (.inr (.inl s)), none, some (.inl (nI t))] (vv.toList ++ []) tt)) ∧ (¬ (((nI t) &&& ((nI w) ^^^ (-1 : Int32))) = (0 : Int32)) → X 114 [some (.inr (.inr (0, 0))), some (.inl v), some (.inl b), some (.inl (nI w)), some (.inl (nI q)), some (.inr (.inl s)), none, some (.inl (nI t))] [] σ)) from ⟨fun q0 => ⟨am_le rfl, am_le rfl, wJ6_bitCount (⟨(h.1 q0).1, (show X 128 [some (.inr (.inr (0, 0))), some (.inl v), some (.inl b), some (.inl (nI w)), some (.inl (nI q)), some (.inr (.inl s)), none, some (.inl (nI t))] [.inl (nI (q_pop w 9)), .inl (10 : Int32), .inr (.inl s)] σ from (h.1 q0).2)⟩)⟩, fun q0 => ⟨fun q1 => ⟨am_le rfl, am_le rfl, trivial, ((h.2 q0).1 q1)⟩, fun q1 => ((h.2 q0).2 q1)⟩⟩)
set_option maxRecDepth 100000 in
set_option maxHeartbeats 400000 in
theorem b_od99 {K : Option am_V → am_M → Prop} {X : Nat → am_L → List am_V → am_M → Prop} (hX : am_cl eX6_odds lX6_odds (some .long) K X) {σ : am_M} (v b u : Int32) (w q t : Nat) (s : Int64) (h : ((u = (0 : Int32)) → X 114 [some (.inr (.inr (0, 0))), some (.inl v), some (.inl b), some (.inl (nI w)), some (.inl (nI q)), some (.inr (.inl s)), none, some (.inl (nI t))] [] σ) ∧ (¬ (u = (0 : Int32)) → sX6_weight [.inl v, .inl (nI w), .inl (nI t)] σ (fun vv tt => X 111 [some (.inr (.inr (0, 0))), some (.inl v), some (.inl b), some (.inl (nI w)), some (.inl (nI q)), some (.inr (.inl s)), none, some (.inl (nI t))] (vv.toList ++ [.inr (.inl s)]) tt))) : X 99 [some (.inr (.inr (0, 0))), some (.inl v), some (.inl b), some (.inl (nI w)), some (.inl (nI q)), some (.inr (.inl s)), none, some (.inl (nI t))] [.inl u] σ := am_run_ok emX6_odds hX [111, 114] 400 (show ((u = (0 : Int32)) → X 114 [some (.inr (.inr (0, 0))), some (.inl v), some (.inl b), some (.inl (nI w)), some (.inl (nI q)), some (.inr (.inl s)), none, some (.inl (nI t))] [] σ) ∧ (¬ (u = (0 : Int32)) → 3 ≤ 4 ∧ 2 ≤ 8 ∧ sX6_weight [.inl v, .inl (nI w), .inl (nI t)] σ (fun vv tt => X 111 [some (.inr (.inr (0, 0))), some (.inl v), some (.inl b), some (.inl (nI w)), some (.inl (nI q)), some (.inr (.inl s)), none, some (.inl (nI t))] (vv.toList ++ [.inr (.inl s)]) tt)) from ⟨fun q0 => (h.1 q0), fun q0 => ⟨am_le rfl, am_le rfl, (h.2 q0)⟩⟩)
set_option maxRecDepth 100000 in
set_option maxHeartbeats 400000 in
theorem b_od111 {K : Option am_V → am_M → Prop} {X : Nat → am_L → List am_V → am_M → Prop} (hX : am_cl eX6_odds lX6_odds (some .long) K X) {σ : am_M} (v b : Int32) (w q t : Nat) (s x : Int64) (h : X 114 [some (.inr (.inr (0, 0))), some (.inl v), some (.inl b), some (.inl (nI w)), some (.inl (nI q)), some (.inr (.inl (s + x))), none, some (.inl (nI t))] [] σ) : X 111 [some (.inr (.inr (0, 0))), some (.inl v), some (.inl b), some (.inl (nI w)), some (.inl (nI q)), some (.inr (.inl s)), none, some (.inl (nI t))] [.inr (.inl x), .inr (.inl s)] σ := am_run_ok emX6_odds hX [114] 400 (show X 114 [some (.inr (.inr (0, 0))), some (.inl v), some (.inl b), some (.inl (nI w)), some (.inl (nI q)), some (.inr (.inl (s + x))), none, some (.inl (nI t))] [] σ from h)
set_option maxRecDepth 100000 in
set_option maxHeartbeats 400000 in
theorem b_od114 {K : Option am_V → am_M → Prop} {X : Nat → am_L → List am_V → am_M → Prop} (hX : am_cl eX6_odds lX6_odds (some .long) K X) {σ : am_M} (v b : Int32) (w q t : Nat) (s : Int64) (h : X 72 [some (.inr (.inr (0, 0))), some (.inl v), some (.inl b), some (.inl (nI w)), some (.inl (nI q)), some (.inr (.inl s)), none, some (.inl ((nI t) + (1 : Int32)))] [] σ) : X 114 [some (.inr (.inr (0, 0))), some (.inl v), some (.inl b), some (.inl (nI w)), some (.inl (nI q)), some (.inr (.inl s)), none, some (.inl (nI t))] [] σ := am_run_ok emX6_odds hX [72] 400 (show X 72 [some (.inr (.inr (0, 0))), some (.inl v), some (.inl b), some (.inl (nI w)), some (.inl (nI q)), some (.inr (.inl s)), none, some (.inl ((nI t) + (1 : Int32)))] [] σ from h)
set_option maxRecDepth 100000 in
set_option maxHeartbeats 400000 in
theorem b_od128 {K : Option am_V → am_M → Prop} {X : Nat → am_L → List am_V → am_M → Prop} (hX : am_cl eX6_odds lX6_odds (some .long) K X) {σ : am_M} (v b x y : Int32) (w q t : Nat) (s : Int64) (h : sX6_power [.inl x, .inl y] σ (fun vv tt => X 131 [some (.inr (.inr (0, 0))), some (.inl v), some (.inl b), some (.inl (nI w)), some (.inl (nI q)), some (.inr (.inl s)), none, some (.inl (nI t))] (vv.toList ++ [.inr (.inl s)]) tt)) : X 128 [some (.inr (.inr (0, 0))), some (.inl v), some (.inl b), some (.inl (nI w)), some (.inl (nI q)), some (.inr (.inl s)), none, some (.inl (nI t))] [.inl y, .inl x, .inr (.inl s)] σ := am_run_ok emX6_odds hX [131] 400 (show 2 ≤ 3 ∧ 2 ≤ 8 ∧ sX6_power [.inl x, .inl y] σ (fun vv tt => X 131 [some (.inr (.inr (0, 0))), some (.inl v), some (.inl b), some (.inl (nI w)), some (.inl (nI q)), some (.inr (.inl s)), none, some (.inl (nI t))] (vv.toList ++ [.inr (.inl s)]) tt) from ⟨am_le rfl, am_le rfl, h⟩)
set_option maxRecDepth 100000 in
set_option maxHeartbeats 400000 in
theorem b_od131 {K : Option am_V → am_M → Prop} {X : Nat → am_L → List am_V → am_M → Prop} (hX : am_cl eX6_odds lX6_odds (some .long) K X) {σ : am_M} (v b : Int32) (w q t : Nat) (s x : Int64) (h : sX6_inLowestTerms [.inr (.inl s), .inr (.inl x), .inl b] σ (fun vv tt => X 135 [some (.inr (.inr (0, 0))), some (.inl v), some (.inl b), some (.inl (nI w)), some (.inl (nI q)), some (.inr (.inl s)), none, some (.inl (nI t))] (vv.toList ++ []) tt)) : X 131 [some (.inr (.inr (0, 0))), some (.inl v), some (.inl b), some (.inl (nI w)), some (.inl (nI q)), some (.inr (.inl s)), none, some (.inl (nI t))] [.inr (.inl x), .inr (.inl s)] σ := am_run_ok emX6_odds hX [135] 400 (show 3 ≤ 3 ∧ 0 ≤ 8 ∧ sX6_inLowestTerms [.inr (.inl s), .inr (.inl x), .inl b] σ (fun vv tt => X 135 [some (.inr (.inr (0, 0))), some (.inl v), some (.inl b), some (.inl (nI w)), some (.inl (nI q)), some (.inr (.inl s)), none, some (.inl (nI t))] (vv.toList ++ []) tt) from ⟨am_le rfl, am_le rfl, h⟩)
set_option maxRecDepth 100000 in
set_option maxHeartbeats 400000 in
theorem b_od135 {K : Option am_V → am_M → Prop} {X : Nat → am_L → List am_V → am_M → Prop} (hX : am_cl eX6_odds lX6_odds (some .long) K X) {σ : am_M} (v b : Int32) (w q t : Nat) (s x : Int64) (h : K (some (.inr (.inl x))) σ) : X 135 [some (.inr (.inr (0, 0))), some (.inl v), some (.inl b), some (.inl (nI w)), some (.inl (nI q)), some (.inr (.inl s)), none, some (.inl (nI t))] [.inr (.inl x)] σ := am_run_ok emX6_odds hX [] 400 (show K (some (.inr (.inl x))) σ from h)
set_option maxRecDepth 100000 in
set_option maxHeartbeats 400000 in
theorem b_me78 {K : Option am_V → am_M → Prop} {X : Nat → am_L → List am_V → am_M → Prop} (hX : am_cl eX6_mean lX6_mean (some .long) K X) {σ : am_M} (v b : Int32) (w q t : Nat) (s : Int64) (h : (((nI w) < (nI t)) → (w < 512) ∧ (X 134 [some (.inr (.inr (0, 0))), some (.inl v), some (.inl b), some (.inl (nI w)), some (.inl (nI q)), some (.inr (.inl s)), none, some (.inl (nI t))] [.inl (nI (q_pop w 9)), .inl (10 : Int32), .inr (.inl s)] σ)) ∧ (¬ ((nI w) < (nI t)) → ((((nI t) &&& ((nI w) ^^^ (-1 : Int32))) = (0 : Int32)) → (vp_in ((nI t) ||| (nI q)) 512) ∧ (sX6_weight [.inl v, .inl (nI w), .inl (nI t)] σ (fun vv tt => X 116 [some (.inr (.inr (0, 0))), some (.inl v), some (.inl b), some (.inl (nI w)), some (.inl (nI q)), some (.inr (.inl s)), none, some (.inl (nI t))] (vv.toList ++ [.inr (.inl ((σ 10 0 ((nI t) ||| (nI q)).toNatClampNeg)).toInt64), .inr (.inl s)]) tt))) ∧ (¬ (((nI t) &&& ((nI w) ^^^ (-1 : Int32))) = (0 : Int32)) → X 120 [some (.inr (.inr (0, 0))), some (.inl v), some (.inl b), some (.inl (nI w)), some (.inl (nI q)), some (.inr (.inl s)), none, some (.inl (nI t))] [] σ))) : X 78 [some (.inr (.inr (0, 0))), some (.inl v), some (.inl b), some (.inl (nI w)), some (.inl (nI q)), some (.inr (.inl s)), none, some (.inl (nI t))] [] σ := am_run_ok emX6_mean hX [116, 120, 134] 400 (show (((nI w) < (nI t)) → 1 ≤ 3 ∧ 3 ≤ 8 ∧ sJ6_bitCount [.inl (nI w)] σ (fun vv tt => X 134 [some (.inr (.inr (0, 0))), some (.inl v), some (.inl b), some (.inl (nI w)), some (.inl (nI q)), some (.inr (.inl s)), none, some (.inl (nI t))] (vv.toList ++ [.inl (10 : Int32), .inr (.inl s)]) tt)) ∧ (¬ ((nI w) < (nI t)) → ((((nI t) &&& ((nI w) ^^^ (-1 : Int32))) = (0 : Int32)) → (vp_in ((nI t) ||| (nI q)) 512) ∧ (3 ≤ 5 ∧ 4 ≤ 8 ∧ sX6_weight [.inl v, .inl (nI w), .inl (nI t)] σ (fun vv tt => X 116 [some (.inr (.inr (0, 0))), some (.inl v), some (.inl b), some (.inl (nI w)), some (.inl (nI q)), some (.inr (.inl s)), none, some (.inl (nI t))] (vv.toList ++ [.inr (.inl ((σ 10 0 ((nI t) ||| (nI q)).toNatClampNeg)).toInt64), .inr (.inl s)]) tt))) ∧ (¬ (((nI t) &&& ((nI w) ^^^ (-1 : Int32))) = (0 : Int32)) → X 120 [some (.inr (.inr (0, 0))), some (.inl v), some (.inl b), some (.inl (nI w)), some (.inl (nI q)), some (.inr (.inl s)), none, some (.inl (nI t))] [] σ)) from ⟨fun q0 => ⟨am_le rfl, am_le rfl, wJ6_bitCount (⟨(h.1 q0).1, (show X 134 [some (.inr (.inr (0, 0))), some (.inl v), some (.inl b), some (.inl (nI w)), some (.inl (nI q)), some (.inr (.inl s)), none, some (.inl (nI t))] [.inl (nI (q_pop w 9)), .inl (10 : Int32), .inr (.inl s)] σ from (h.1 q0).2)⟩)⟩, fun q0 => ⟨fun q1 => ⟨((h.2 q0).1 q1).1, ⟨am_le rfl, am_le rfl, ((h.2 q0).1 q1).2⟩⟩, fun q1 => ((h.2 q0).2 q1)⟩⟩)
set_option maxRecDepth 100000 in
set_option maxHeartbeats 400000 in
theorem b_me116 {K : Option am_V → am_M → Prop} {X : Nat → am_L → List am_V → am_M → Prop} (hX : am_cl eX6_mean lX6_mean (some .long) K X) {σ : am_M} (v b : Int32) (w q t : Nat) (s x y : Int64) (h : X 120 [some (.inr (.inr (0, 0))), some (.inl v), some (.inl b), some (.inl (nI w)), some (.inl (nI q)), some (.inr (.inl (s + (y * x)))), none, some (.inl (nI t))] [] σ) : X 116 [some (.inr (.inr (0, 0))), some (.inl v), some (.inl b), some (.inl (nI w)), some (.inl (nI q)), some (.inr (.inl s)), none, some (.inl (nI t))] [.inr (.inl x), .inr (.inl y), .inr (.inl s)] σ := am_run_ok emX6_mean hX [120] 400 (show X 120 [some (.inr (.inr (0, 0))), some (.inl v), some (.inl b), some (.inl (nI w)), some (.inl (nI q)), some (.inr (.inl (s + (y * x)))), none, some (.inl (nI t))] [] σ from h)
set_option maxRecDepth 100000 in
set_option maxHeartbeats 400000 in
theorem b_me120 {K : Option am_V → am_M → Prop} {X : Nat → am_L → List am_V → am_M → Prop} (hX : am_cl eX6_mean lX6_mean (some .long) K X) {σ : am_M} (v b : Int32) (w q t : Nat) (s : Int64) (h : X 78 [some (.inr (.inr (0, 0))), some (.inl v), some (.inl b), some (.inl (nI w)), some (.inl (nI q)), some (.inr (.inl s)), none, some (.inl ((nI t) + (1 : Int32)))] [] σ) : X 120 [some (.inr (.inr (0, 0))), some (.inl v), some (.inl b), some (.inl (nI w)), some (.inl (nI q)), some (.inr (.inl s)), none, some (.inl (nI t))] [] σ := am_run_ok emX6_mean hX [78] 400 (show X 78 [some (.inr (.inr (0, 0))), some (.inl v), some (.inl b), some (.inl (nI w)), some (.inl (nI q)), some (.inr (.inl s)), none, some (.inl ((nI t) + (1 : Int32)))] [] σ from h)
set_option maxRecDepth 100000 in
set_option maxHeartbeats 400000 in
theorem b_me134 {K : Option am_V → am_M → Prop} {X : Nat → am_L → List am_V → am_M → Prop} (hX : am_cl eX6_mean lX6_mean (some .long) K X) {σ : am_M} (v b x y : Int32) (w q t : Nat) (s : Int64) (h : sX6_power [.inl x, .inl y] σ (fun vv tt => X 137 [some (.inr (.inr (0, 0))), some (.inl v), some (.inl b), some (.inl (nI w)), some (.inl (nI q)), some (.inr (.inl s)), none, some (.inl (nI t))] (vv.toList ++ [.inr (.inl s)]) tt)) : X 134 [some (.inr (.inr (0, 0))), some (.inl v), some (.inl b), some (.inl (nI w)), some (.inl (nI q)), some (.inr (.inl s)), none, some (.inl (nI t))] [.inl y, .inl x, .inr (.inl s)] σ := am_run_ok emX6_mean hX [137] 400 (show 2 ≤ 3 ∧ 2 ≤ 8 ∧ sX6_power [.inl x, .inl y] σ (fun vv tt => X 137 [some (.inr (.inr (0, 0))), some (.inl v), some (.inl b), some (.inl (nI w)), some (.inl (nI q)), some (.inr (.inl s)), none, some (.inl (nI t))] (vv.toList ++ [.inr (.inl s)]) tt) from ⟨am_le rfl, am_le rfl, h⟩)
set_option maxRecDepth 100000 in
set_option maxHeartbeats 400000 in
theorem b_me137 {K : Option am_V → am_M → Prop} {X : Nat → am_L → List am_V → am_M → Prop} (hX : am_cl eX6_mean lX6_mean (some .long) K X) {σ : am_M} (v b : Int32) (w q t : Nat) (s x : Int64) (h : sX6_inLowestTerms [.inr (.inl s), .inr (.inl x), .inl b] σ (fun vv tt => X 141 [some (.inr (.inr (0, 0))), some (.inl v), some (.inl b), some (.inl (nI w)), some (.inl (nI q)), some (.inr (.inl s)), none, some (.inl (nI t))] (vv.toList ++ []) tt)) : X 137 [some (.inr (.inr (0, 0))), some (.inl v), some (.inl b), some (.inl (nI w)), some (.inl (nI q)), some (.inr (.inl s)), none, some (.inl (nI t))] [.inr (.inl x), .inr (.inl s)] σ := am_run_ok emX6_mean hX [141] 400 (show 3 ≤ 3 ∧ 0 ≤ 8 ∧ sX6_inLowestTerms [.inr (.inl s), .inr (.inl x), .inl b] σ (fun vv tt => X 141 [some (.inr (.inr (0, 0))), some (.inl v), some (.inl b), some (.inl (nI w)), some (.inl (nI q)), some (.inr (.inl s)), none, some (.inl (nI t))] (vv.toList ++ []) tt) from ⟨am_le rfl, am_le rfl, h⟩)
set_option maxRecDepth 100000 in
set_option maxHeartbeats 400000 in
theorem b_me141 {K : Option am_V → am_M → Prop} {X : Nat → am_L → List am_V → am_M → Prop} (hX : am_cl eX6_mean lX6_mean (some .long) K X) {σ : am_M} (v b : Int32) (w q t : Nat) (s x : Int64) (h : K (some (.inr (.inl x))) σ) : X 141 [some (.inr (.inr (0, 0))), some (.inl v), some (.inl b), some (.inl (nI w)), some (.inl (nI q)), some (.inr (.inl s)), none, some (.inl (nI t))] [.inr (.inl x)] σ := am_run_ok emX6_mean hX [] 400 (show K (some (.inr (.inl x))) σ from h)
set_option maxRecDepth 100000 in
set_option maxHeartbeats 400000 in
theorem b_hf0 {K : Option am_V → am_M → Prop} {X : Nat → am_L → List am_V → am_M → Prop} (hX : am_cl eX7_hasFilling lX7_hasFilling (some .boolean) K X) {σ : am_M} (f : Nat) (h : X 4 [some (.inr (.inr (20, 0))), some (.inl (nI f)), some (.inl (0 : Int32)), some (.inl (0 : Int32))] [] σ) : X 0 [some (.inr (.inr (20, 0))), some (.inl (nI f)), none, none] [] σ := am_run_ok emX7_hasFilling hX [4] 400 (show X 4 [some (.inr (.inr (20, 0))), some (.inl (nI f)), some (.inl (0 : Int32)), some (.inl (0 : Int32))] [] σ from h)
set_option maxRecDepth 100000 in
set_option maxHeartbeats 400000 in
theorem b_hf4 {K : Option am_V → am_M → Prop} {X : Nat → am_L → List am_V → am_M → Prop} (hX : am_cl eX7_hasFilling lX7_hasFilling (some .boolean) K X) {σ : am_M} (f t : Nat) (h1 : Int32) (h : (((nI f) < (nI t)) → (narrow .boolean (.int h1) = .int h1) ∧ (K (some (.inl h1)) σ)) ∧ (¬ ((nI f) < (nI t)) → ((h1 = (0 : Int32)) → sX7_isFilling [.inr (.inr (20, 0)), .inl (nI t), .inl (nI f)] σ (fun vv tt => X 19 [some (.inr (.inr (20, 0))), some (.inl (nI f)), some (.inl h1), some (.inl (nI t))] (vv.toList ++ []) tt)) ∧ (¬ (h1 = (0 : Int32)) → (narrow .boolean (.int h1) = .int h1) ∧ (K (some (.inl h1)) σ)))) : X 4 [some (.inr (.inr (20, 0))), some (.inl (nI f)), some (.inl h1), some (.inl (nI t))] [] σ := am_run_ok emX7_hasFilling hX [19] 400 (show (((nI f) < (nI t)) → (narrow .boolean (.int h1) = .int h1) ∧ (K (some (.inl h1)) σ)) ∧ (¬ ((nI f) < (nI t)) → ((h1 = (0 : Int32)) → 3 ≤ 3 ∧ 0 ≤ 8 ∧ True ∧ sX7_isFilling [.inr (.inr (20, 0)), .inl (nI t), .inl (nI f)] σ (fun vv tt => X 19 [some (.inr (.inr (20, 0))), some (.inl (nI f)), some (.inl h1), some (.inl (nI t))] (vv.toList ++ []) tt)) ∧ (¬ (h1 = (0 : Int32)) → (narrow .boolean (.int h1) = .int h1) ∧ (K (some (.inl h1)) σ))) from ⟨fun q0 => ⟨(h.1 q0).1, (h.1 q0).2⟩, fun q0 => ⟨fun q1 => ⟨am_le rfl, am_le rfl, trivial, ((h.2 q0).1 q1)⟩, fun q1 => ⟨((h.2 q0).2 q1).1, ((h.2 q0).2 q1).2⟩⟩⟩)
set_option maxRecDepth 100000 in
set_option maxHeartbeats 400000 in
theorem b_hf19 {K : Option am_V → am_M → Prop} {X : Nat → am_L → List am_V → am_M → Prop} (hX : am_cl eX7_hasFilling lX7_hasFilling (some .boolean) K X) {σ : am_M} (f t : Nat) (h1 u : Int32) (h : X 4 [some (.inr (.inr (20, 0))), some (.inl (nI f)), some (.inl u), some (.inl ((nI t) + (1 : Int32)))] [] σ) : X 19 [some (.inr (.inr (20, 0))), some (.inl (nI f)), some (.inl h1), some (.inl (nI t))] [.inl u] σ := am_run_ok emX7_hasFilling hX [4] 400 (show X 4 [some (.inr (.inr (20, 0))), some (.inl (nI f)), some (.inl u), some (.inl ((nI t) + (1 : Int32)))] [] σ from h)
set_option maxRecDepth 100000 in
set_option maxHeartbeats 400000 in
theorem b_lw0 {K : Option am_V → am_M → Prop} {X : Nat → am_L → List am_V → am_M → Prop} (hX : am_cl eX7_lowest lX7_lowest (some .long) K X) {σ : am_M} (a b : Int64) (w : Int32) (h : X 6 [some (.inr (.inl a)), none, some (.inr (.inl b)), none, some (.inl w), some (.inr (.inl a)), none, some (.inr (.inl b)), none, none, none] [] σ) : X 0 [some (.inr (.inl a)), none, some (.inr (.inl b)), none, some (.inl w), none, none, none, none, none, none] [] σ := am_run_ok emX7_lowest hX [6] 400 (show X 6 [some (.inr (.inl a)), none, some (.inr (.inl b)), none, some (.inl w), some (.inr (.inl a)), none, some (.inr (.inl b)), none, none, none] [] σ from h)
set_option maxRecDepth 100000 in
set_option maxHeartbeats 400000 in
theorem b_lw6 {K : Option am_V → am_M → Prop} {X : Nat → am_L → List am_V → am_M → Prop} (hX : am_cl eX7_lowest lX7_lowest (some .long) K X) {σ : am_M} (a b x y : Int64) (w : Int32) (h : (((lg_cmp y (0 : Int64)) = (0 : Int32)) → ((w = (0 : Int32)) → (¬ x = 0) ∧ (K (some (.inr (.inl (a / x)))) σ)) ∧ (¬ (w = (0 : Int32)) → (¬ x = 0) ∧ (K (some (.inr (.inl (b / x)))) σ))) ∧ (¬ ((lg_cmp y (0 : Int64)) = (0 : Int32)) → (¬ y = 0) ∧ (X 6 [some (.inr (.inl a)), none, some (.inr (.inl b)), none, some (.inl w), some (.inr (.inl y)), none, some (.inr (.inl (x - x / y * y))), none, some (.inr (.inl (x - x / y * y))), none] [] σ))) : X 6 [some (.inr (.inl a)), none, some (.inr (.inl b)), none, some (.inl w), some (.inr (.inl x)), none, some (.inr (.inl y)), none, none, none] [] σ := am_run_ok emX7_lowest hX [6] 400 (show (((lg_cmp y (0 : Int64)) = (0 : Int32)) → ((w = (0 : Int32)) → (¬ x = 0) ∧ (K (some (.inr (.inl (a / x)))) σ)) ∧ (¬ (w = (0 : Int32)) → (¬ x = 0) ∧ (K (some (.inr (.inl (b / x)))) σ))) ∧ (¬ ((lg_cmp y (0 : Int64)) = (0 : Int32)) → (¬ y = 0) ∧ (X 6 [some (.inr (.inl a)), none, some (.inr (.inl b)), none, some (.inl w), some (.inr (.inl y)), none, some (.inr (.inl (x - x / y * y))), none, some (.inr (.inl (x - x / y * y))), none] [] σ)) from ⟨fun q0 => ⟨fun q1 => ⟨((h.1 q0).1 q1).1, ((h.1 q0).1 q1).2⟩, fun q1 => ⟨((h.1 q0).2 q1).1, ((h.1 q0).2 q1).2⟩⟩, fun q0 => ⟨(h.2 q0).1, (h.2 q0).2⟩⟩)
set_option maxRecDepth 100000 in
set_option maxHeartbeats 400000 in
theorem b_ox0 {K : Option am_V → am_M → Prop} {X : Nat → am_L → List am_V → am_M → Prop} (hX : am_cl eX7_odds lX7_odds (some .long) K X) {σ : am_M} (v b : Int32) (h : ((v < (0 : Int32)) → K (some (.inr (.inl (-1 : Int64)))) σ) ∧ (¬ (v < (0 : Int32)) → (((10 : Int32) < v) → K (some (.inr (.inl (-1 : Int64)))) σ) ∧ (¬ ((10 : Int32) < v) → ((b < (0 : Int32)) → K (some (.inr (.inl (-1 : Int64)))) σ) ∧ (¬ (b < (0 : Int32)) → (((1 : Int32) < b) → K (some (.inr (.inl (-1 : Int64)))) σ) ∧ (¬ ((1 : Int32) < b) → sX7_meanOf [.inr (.inr (20, 0)), .inl v, .inl (1 : Int32), .inl b] σ (fun vv tt => X 29 [some (.inr (.inr (20, 0))), some (.inl v), some (.inl b)] (vv.toList ++ []) tt)))))) : X 0 [some (.inr (.inr (20, 0))), some (.inl v), some (.inl b)] [] σ := am_run_ok emX7_odds hX [29] 400 (show 3 ≤ 3 ∧ 0 ≤ 8 ∧ sX7_in [.inr (.inl (v).toInt64), .inr (.inl (0 : Int64)), .inr (.inl (10 : Int64))] σ (fun vv tt => am_run eX7_odds lX7_odds (some .long) K X [29] 395 9 [some (.inr (.inr (20, 0))), some (.inl v), some (.inl b)] (vv.toList ++ []) tt) from ⟨am_le rfl, am_le rfl, uX7_in (v := v) (a := (0 : Int32)) (b := (10 : Int32)) (⟨fun q0 => (show (((0 : Int32) = (0 : Int32)) → K (some (.inr (.inl (-1 : Int64)))) σ) ∧ (¬ ((0 : Int32) = (0 : Int32)) → _) from ⟨fun _ => (h.1 q0), fun q => absurd (by decide) q⟩), fun q0 => ⟨fun q1 => (show (((0 : Int32) = (0 : Int32)) → K (some (.inr (.inl (-1 : Int64)))) σ) ∧ (¬ ((0 : Int32) = (0 : Int32)) → _) from ⟨fun _ => ((h.2 q0).1 q1), fun q => absurd (by decide) q⟩), fun q1 => (show (((1 : Int32) = (0 : Int32)) → _) ∧ (¬ ((1 : Int32) = (0 : Int32)) → 3 ≤ 3 ∧ 0 ≤ 8 ∧ sX7_in [.inr (.inl (b).toInt64), .inr (.inl (0 : Int64)), .inr (.inl (1 : Int64))] σ (fun vv tt => am_run eX7_odds lX7_odds (some .long) K X [29] 389 19 [some (.inr (.inr (20, 0))), some (.inl v), some (.inl b)] (vv.toList ++ []) tt)) from ⟨fun q => absurd q (by decide), fun _ => ⟨am_le rfl, am_le rfl, uX7_in (v := b) (a := (0 : Int32)) (b := (1 : Int32)) (⟨fun q2 => (show (((0 : Int32) = (0 : Int32)) → K (some (.inr (.inl (-1 : Int64)))) σ) ∧ (¬ ((0 : Int32) = (0 : Int32)) → _) from ⟨fun _ => (((h.2 q0).2 q1).1 q2), fun q => absurd (by decide) q⟩), fun q2 => ⟨fun q3 => (show (((0 : Int32) = (0 : Int32)) → K (some (.inr (.inl (-1 : Int64)))) σ) ∧ (¬ ((0 : Int32) = (0 : Int32)) → _) from ⟨fun _ => ((((h.2 q0).2 q1).2 q2).1 q3), fun q => absurd (by decide) q⟩), fun q3 => (show (((1 : Int32) = (0 : Int32)) → _) ∧ (¬ ((1 : Int32) = (0 : Int32)) → 4 ≤ 4 ∧ 0 ≤ 8 ∧ True ∧ sX7_meanOf [.inr (.inr (20, 0)), .inl v, .inl (1 : Int32), .inl b] σ (fun vv tt => X 29 [some (.inr (.inr (20, 0))), some (.inl v), some (.inl b)] (vv.toList ++ []) tt)) from ⟨fun q => absurd q (by decide), fun _ => ⟨am_le rfl, am_le rfl, trivial, ((((h.2 q0).2 q1).2 q2).2 q3)⟩⟩)⟩⟩)⟩⟩)⟩⟩)⟩)
set_option maxRecDepth 100000 in
set_option maxHeartbeats 400000 in
theorem b_ox29 {K : Option am_V → am_M → Prop} {X : Nat → am_L → List am_V → am_M → Prop} (hX : am_cl eX7_odds lX7_odds (some .long) K X) {σ : am_M} (v b : Int32) (x : Int64) (h : K (some (.inr (.inl x))) σ) : X 29 [some (.inr (.inr (20, 0))), some (.inl v), some (.inl b)] [.inr (.inl x)] σ := am_run_ok emX7_odds hX [] 400 (show K (some (.inr (.inl x))) σ from h)
set_option maxRecDepth 100000 in
set_option maxHeartbeats 400000 in
theorem b_mx0 {K : Option am_V → am_M → Prop} {X : Nat → am_L → List am_V → am_M → Prop} (hX : am_cl eX7_mean lX7_mean (some .long) K X) {σ : am_M} (v b : Int32) (h : ((v < (0 : Int32)) → K (some (.inr (.inl (-1 : Int64)))) σ) ∧ (¬ (v < (0 : Int32)) → (((10 : Int32) < v) → K (some (.inr (.inl (-1 : Int64)))) σ) ∧ (¬ ((10 : Int32) < v) → ((b < (0 : Int32)) → K (some (.inr (.inl (-1 : Int64)))) σ) ∧ (¬ (b < (0 : Int32)) → (((1 : Int32) < b) → K (some (.inr (.inl (-1 : Int64)))) σ) ∧ (¬ ((1 : Int32) < b) → sX7_meanOf [.inr (.inr (20, 0)), .inl v, .inl (0 : Int32), .inl b] σ (fun vv tt => X 29 [some (.inr (.inr (20, 0))), some (.inl v), some (.inl b)] (vv.toList ++ []) tt)))))) : X 0 [some (.inr (.inr (20, 0))), some (.inl v), some (.inl b)] [] σ := am_run_ok emX7_mean hX [29] 400 (show 3 ≤ 3 ∧ 0 ≤ 8 ∧ sX7_in [.inr (.inl (v).toInt64), .inr (.inl (0 : Int64)), .inr (.inl (10 : Int64))] σ (fun vv tt => am_run eX7_mean lX7_mean (some .long) K X [29] 395 9 [some (.inr (.inr (20, 0))), some (.inl v), some (.inl b)] (vv.toList ++ []) tt) from ⟨am_le rfl, am_le rfl, uX7_in (v := v) (a := (0 : Int32)) (b := (10 : Int32)) (⟨fun q0 => (show (((0 : Int32) = (0 : Int32)) → K (some (.inr (.inl (-1 : Int64)))) σ) ∧ (¬ ((0 : Int32) = (0 : Int32)) → _) from ⟨fun _ => (h.1 q0), fun q => absurd (by decide) q⟩), fun q0 => ⟨fun q1 => (show (((0 : Int32) = (0 : Int32)) → K (some (.inr (.inl (-1 : Int64)))) σ) ∧ (¬ ((0 : Int32) = (0 : Int32)) → _) from ⟨fun _ => ((h.2 q0).1 q1), fun q => absurd (by decide) q⟩), fun q1 => (show (((1 : Int32) = (0 : Int32)) → _) ∧ (¬ ((1 : Int32) = (0 : Int32)) → 3 ≤ 3 ∧ 0 ≤ 8 ∧ sX7_in [.inr (.inl (b).toInt64), .inr (.inl (0 : Int64)), .inr (.inl (1 : Int64))] σ (fun vv tt => am_run eX7_mean lX7_mean (some .long) K X [29] 389 19 [some (.inr (.inr (20, 0))), some (.inl v), some (.inl b)] (vv.toList ++ []) tt)) from ⟨fun q => absurd q (by decide), fun _ => ⟨am_le rfl, am_le rfl, uX7_in (v := b) (a := (0 : Int32)) (b := (1 : Int32)) (⟨fun q2 => (show (((0 : Int32) = (0 : Int32)) → K (some (.inr (.inl (-1 : Int64)))) σ) ∧ (¬ ((0 : Int32) = (0 : Int32)) → _) from ⟨fun _ => (((h.2 q0).2 q1).1 q2), fun q => absurd (by decide) q⟩), fun q2 => ⟨fun q3 => (show (((0 : Int32) = (0 : Int32)) → K (some (.inr (.inl (-1 : Int64)))) σ) ∧ (¬ ((0 : Int32) = (0 : Int32)) → _) from ⟨fun _ => ((((h.2 q0).2 q1).2 q2).1 q3), fun q => absurd (by decide) q⟩), fun q3 => (show (((1 : Int32) = (0 : Int32)) → _) ∧ (¬ ((1 : Int32) = (0 : Int32)) → 4 ≤ 4 ∧ 0 ≤ 8 ∧ True ∧ sX7_meanOf [.inr (.inr (20, 0)), .inl v, .inl (0 : Int32), .inl b] σ (fun vv tt => X 29 [some (.inr (.inr (20, 0))), some (.inl v), some (.inl b)] (vv.toList ++ []) tt)) from ⟨fun q => absurd q (by decide), fun _ => ⟨am_le rfl, am_le rfl, trivial, ((((h.2 q0).2 q1).2 q2).2 q3)⟩⟩)⟩⟩)⟩⟩)⟩⟩)⟩)
set_option maxRecDepth 100000 in
set_option maxHeartbeats 400000 in
theorem b_mx29 {K : Option am_V → am_M → Prop} {X : Nat → am_L → List am_V → am_M → Prop} (hX : am_cl eX7_mean lX7_mean (some .long) K X) {σ : am_M} (v b : Int32) (x : Int64) (h : K (some (.inr (.inl x))) σ) : X 29 [some (.inr (.inr (20, 0))), some (.inl v), some (.inl b)] [.inr (.inl x)] σ := am_run_ok emX7_mean hX [] 400 (show K (some (.inr (.inl x))) σ from h)
set_option maxRecDepth 100000 in
set_option maxHeartbeats 400000 in
theorem b_mo0 {K : Option am_V → am_M → Prop} {X : Nat → am_L → List am_V → am_M → Prop} (hX : am_cl eX7_meanOf lX7_meanOf (some .long) K X) {σ : am_M} (v f b : Int32) (h : (m_ok σ) ∧ ((m_ok σ) ∧ (sX7_layMost [.inr (.inr (20, 0)), .inl ((σ 21 0 63) + (3 : Int32))] σ (fun vv tt => X 31 [some (.inr (.inr (20, 0))), some (.inl v), some (.inl f), some (.inl b), some (.inl (nI (p_who (m_r σ 0) (m_n σ) (1 : Int32)))), some (.inl (nI (p_who (m_r σ 0) (m_n σ) (2 : Int32)))), some (.inr (.inl (0 : Int64))), none, some (.inr (.inl (1 : Int64))), none, none, none, none, none] (vv.toList ++ []) tt)))) : X 0 [some (.inr (.inr (20, 0))), some (.inl v), some (.inl f), some (.inl b), none, none, none, none, none, none, none, none, none, none] [] σ := am_run_ok emX7_meanOf hX [31] 400 (show 3 ≤ 3 ∧ 0 ≤ 8 ∧ True ∧ sX7_whoOn [.inr (.inr (20, 0)), .inl (0 : Int32), .inl (1 : Int32)] σ (fun vv tt => am_run eX7_meanOf lX7_meanOf (some .long) K X [31] 396 6 [some (.inr (.inr (20, 0))), some (.inl v), some (.inl f), some (.inl b), none, none, none, none, none, none, none, none, none, none] (vv.toList ++ []) tt) from ⟨am_le rfl, am_le rfl, trivial, wX7_whoOn (g := 0) (⟨(by decide), ⟨h.1, (show 3 ≤ 3 ∧ 0 ≤ 8 ∧ True ∧ sX7_whoOn [.inr (.inr (20, 0)), .inl (0 : Int32), .inl (2 : Int32)] σ (fun vv tt => am_run eX7_meanOf lX7_meanOf (some .long) K X [31] 391 14 [some (.inr (.inr (20, 0))), some (.inl v), some (.inl f), some (.inl b), some (.inl (nI (p_who (m_r σ 0) (m_n σ) (1 : Int32)))), none, none, none, none, none, none, none, none, none] (vv.toList ++ []) tt) from ⟨am_le rfl, am_le rfl, trivial, wX7_whoOn (g := 0) (⟨(by decide), ⟨h.2.1, (show 2 ≤ 3 ∧ 1 ≤ 8 ∧ True ∧ sX7_seatsOn [.inr (.inr (20, 0)), .inl (0 : Int32)] σ (fun vv tt => am_run eX7_meanOf lX7_meanOf (some .long) K X [31] 382 28 [some (.inr (.inr (20, 0))), some (.inl v), some (.inl f), some (.inl b), some (.inl (nI (p_who (m_r σ 0) (m_n σ) (1 : Int32)))), some (.inl (nI (p_who (m_r σ 0) (m_n σ) (2 : Int32)))), some (.inr (.inl (0 : Int64))), none, some (.inr (.inl (1 : Int64))), none, none, none, none, none] (vv.toList ++ [.inr (.inr (20, 0))]) tt) from ⟨am_le rfl, am_le rfl, trivial, tX7_seatsOn (⟨am_ci (by decide), (show 2 ≤ 2 ∧ 0 ≤ 8 ∧ True ∧ sX7_layMost [.inr (.inr (20, 0)), .inl ((σ 21 0 63) + (3 : Int32))] σ (fun vv tt => X 31 [some (.inr (.inr (20, 0))), some (.inl v), some (.inl f), some (.inl b), some (.inl (nI (p_who (m_r σ 0) (m_n σ) (1 : Int32)))), some (.inl (nI (p_who (m_r σ 0) (m_n σ) (2 : Int32)))), some (.inr (.inl (0 : Int64))), none, some (.inr (.inl (1 : Int64))), none, none, none, none, none] (vv.toList ++ []) tt) from ⟨am_le rfl, am_le rfl, trivial, h.2.2⟩)⟩)⟩)⟩⟩)⟩)⟩⟩)⟩)
set_option maxRecDepth 100000 in
set_option maxHeartbeats 400000 in
theorem b_mo31 {K : Option am_V → am_M → Prop} {X : Nat → am_L → List am_V → am_M → Prop} (hX : am_cl eX7_meanOf lX7_meanOf (some .long) K X) {σ : am_M} (v f b : Int32) (w q : Nat) (s d : Int64) (h : X 34 [some (.inr (.inr (20, 0))), some (.inl v), some (.inl f), some (.inl b), some (.inl (nI w)), some (.inl (nI q)), some (.inr (.inl s)), none, some (.inr (.inl d)), none, some (.inl (0 : Int32)), none, none, none] [] σ) : X 31 [some (.inr (.inr (20, 0))), some (.inl v), some (.inl f), some (.inl b), some (.inl (nI w)), some (.inl (nI q)), some (.inr (.inl s)), none, some (.inr (.inl d)), none, none, none, none, none] [] σ := am_run_ok emX7_meanOf hX [34] 400 (show X 34 [some (.inr (.inr (20, 0))), some (.inl v), some (.inl f), some (.inl b), some (.inl (nI w)), some (.inl (nI q)), some (.inr (.inl s)), none, some (.inr (.inl d)), none, some (.inl (0 : Int32)), none, none, none] [] σ from h)
set_option maxRecDepth 100000 in
set_option maxHeartbeats 400000 in
theorem b_mo34 {K : Option am_V → am_M → Prop} {X : Nat → am_L → List am_V → am_M → Prop} (hX : am_cl eX7_meanOf lX7_meanOf (some .long) K X) {σ : am_M} (v f b : Int32) (w q : Nat) (s d : Int64) (t : Nat) (h : (((σ 20 0 1) ≤ (nI t)) → X 72 [some (.inr (.inr (20, 0))), some (.inl v), some (.inl f), some (.inl b), some (.inl (nI w)), some (.inl (nI q)), some (.inr (.inl s)), none, some (.inr (.inl d)), none, some (.inl (nI t)), none, none, none] [] σ) ∧ (¬ ((σ 20 0 1) ≤ (nI t)) → (((((nI w) >>> ((nI t) &&& 31)) &&& (1 : Int32)) = (1 : Int32)) → X 34 [some (.inr (.inr (20, 0))), some (.inl v), some (.inl f), some (.inl b), some (.inl (nI w)), some (.inl (nI q)), some (.inr (.inl s)), none, some (.inr (.inl (d * (10 : Int64)))), none, some (.inl ((nI t) + (1 : Int32))), none, none, none] [] σ) ∧ (¬ ((((nI w) >>> ((nI t) &&& 31)) &&& (1 : Int32)) = (1 : Int32)) → X 34 [some (.inr (.inr (20, 0))), some (.inl v), some (.inl f), some (.inl b), some (.inl (nI w)), some (.inl (nI q)), some (.inr (.inl s)), none, some (.inr (.inl (d * (1 : Int64)))), none, some (.inl ((nI t) + (1 : Int32))), none, none, none] [] σ))) : X 34 [some (.inr (.inr (20, 0))), some (.inl v), some (.inl f), some (.inl b), some (.inl (nI w)), some (.inl (nI q)), some (.inr (.inl s)), none, some (.inr (.inl d)), none, some (.inl (nI t)), none, none, none] [] σ := am_run_ok emX7_meanOf hX [34, 72] 400 (show (((σ 20 0 1) ≤ (nI t)) → X 72 [some (.inr (.inr (20, 0))), some (.inl v), some (.inl f), some (.inl b), some (.inl (nI w)), some (.inl (nI q)), some (.inr (.inl s)), none, some (.inr (.inl d)), none, some (.inl (nI t)), none, none, none] [] σ) ∧ (¬ ((σ 20 0 1) ≤ (nI t)) → (((((nI w) >>> ((nI t) &&& 31)) &&& (1 : Int32)) = (1 : Int32)) → X 34 [some (.inr (.inr (20, 0))), some (.inl v), some (.inl f), some (.inl b), some (.inl (nI w)), some (.inl (nI q)), some (.inr (.inl s)), none, some (.inr (.inl (d * (10 : Int64)))), none, some (.inl ((nI t) + (1 : Int32))), none, none, none] [] σ) ∧ (¬ ((((nI w) >>> ((nI t) &&& 31)) &&& (1 : Int32)) = (1 : Int32)) → X 34 [some (.inr (.inr (20, 0))), some (.inl v), some (.inl f), some (.inl b), some (.inl (nI w)), some (.inl (nI q)), some (.inr (.inl s)), none, some (.inr (.inl (d * (1 : Int64)))), none, some (.inl ((nI t) + (1 : Int32))), none, none, none] [] σ)) from ⟨fun q0 => (h.1 q0), fun q0 => ⟨fun q1 => ((h.2 q0).1 q1), fun q1 => ((h.2 q0).2 q1)⟩⟩)
set_option maxRecDepth 100000 in
set_option maxHeartbeats 400000 in
theorem b_mo72 {K : Option am_V → am_M → Prop} {X : Nat → am_L → List am_V → am_M → Prop} (hX : am_cl eX7_meanOf lX7_meanOf (some .long) K X) {σ : am_M} (v f b : Int32) (w q : Nat) (s d : Int64) (t : Nat) (h : X 75 [some (.inr (.inr (20, 0))), some (.inl v), some (.inl f), some (.inl b), some (.inl (nI w)), some (.inl (nI q)), some (.inr (.inl s)), none, some (.inr (.inl d)), none, some (.inl (0 : Int32)), none, none, none] [] σ) : X 72 [some (.inr (.inr (20, 0))), some (.inl v), some (.inl f), some (.inl b), some (.inl (nI w)), some (.inl (nI q)), some (.inr (.inl s)), none, some (.inr (.inl d)), none, some (.inl (nI t)), none, none, none] [] σ := am_run_ok emX7_meanOf hX [75] 400 (show X 75 [some (.inr (.inr (20, 0))), some (.inl v), some (.inl f), some (.inl b), some (.inl (nI w)), some (.inl (nI q)), some (.inr (.inl s)), none, some (.inr (.inl d)), none, some (.inl (0 : Int32)), none, none, none] [] σ from h)
set_option maxRecDepth 100000 in
set_option maxHeartbeats 400000 in
theorem b_mo75 {K : Option am_V → am_M → Prop} {X : Nat → am_L → List am_V → am_M → Prop} (hX : am_cl eX7_meanOf lX7_meanOf (some .long) K X) {σ : am_M} (v f b : Int32) (w q : Nat) (s d : Int64) (t : Nat) (h : (((nI w) < (nI t)) → sX7_lowest [.inr (.inl s), .inr (.inl d), .inl b] σ (fun vv tt => X 210 [some (.inr (.inr (20, 0))), some (.inl v), some (.inl f), some (.inl b), some (.inl (nI w)), some (.inl (nI q)), some (.inr (.inl s)), none, some (.inr (.inl d)), none, some (.inl (nI t)), none, none, none] (vv.toList ++ []) tt)) ∧ (¬ ((nI w) < (nI t)) → ((((nI t) &&& ((nI w) ^^^ (-1 : Int32))) = (0 : Int32)) → X 98 [some (.inr (.inr (20, 0))), some (.inl v), some (.inl f), some (.inl b), some (.inl (nI w)), some (.inl (nI q)), some (.inr (.inl s)), none, some (.inr (.inl d)), none, some (.inl (nI t)), some (.inr (.inl (1 : Int64))), none, some (.inl (0 : Int32))] [] σ) ∧ (¬ (((nI t) &&& ((nI w) ^^^ (-1 : Int32))) = (0 : Int32)) → X 196 [some (.inr (.inr (20, 0))), some (.inl v), some (.inl f), some (.inl b), some (.inl (nI w)), some (.inl (nI q)), some (.inr (.inl s)), none, some (.inr (.inl d)), none, some (.inl (nI t)), none, none, none] [] σ))) : X 75 [some (.inr (.inr (20, 0))), some (.inl v), some (.inl f), some (.inl b), some (.inl (nI w)), some (.inl (nI q)), some (.inr (.inl s)), none, some (.inr (.inl d)), none, some (.inl (nI t)), none, none, none] [] σ := am_run_ok emX7_meanOf hX [98, 196, 210] 400 (show (((nI w) < (nI t)) → 3 ≤ 3 ∧ 0 ≤ 8 ∧ sX7_lowest [.inr (.inl s), .inr (.inl d), .inl b] σ (fun vv tt => X 210 [some (.inr (.inr (20, 0))), some (.inl v), some (.inl f), some (.inl b), some (.inl (nI w)), some (.inl (nI q)), some (.inr (.inl s)), none, some (.inr (.inl d)), none, some (.inl (nI t)), none, none, none] (vv.toList ++ []) tt)) ∧ (¬ ((nI w) < (nI t)) → ((((nI t) &&& ((nI w) ^^^ (-1 : Int32))) = (0 : Int32)) → X 98 [some (.inr (.inr (20, 0))), some (.inl v), some (.inl f), some (.inl b), some (.inl (nI w)), some (.inl (nI q)), some (.inr (.inl s)), none, some (.inr (.inl d)), none, some (.inl (nI t)), some (.inr (.inl (1 : Int64))), none, some (.inl (0 : Int32))] [] σ) ∧ (¬ (((nI t) &&& ((nI w) ^^^ (-1 : Int32))) = (0 : Int32)) → X 196 [some (.inr (.inr (20, 0))), some (.inl v), some (.inl f), some (.inl b), some (.inl (nI w)), some (.inl (nI q)), some (.inr (.inl s)), none, some (.inr (.inl d)), none, some (.inl (nI t)), none, none, none] [] σ)) from ⟨fun q0 => ⟨am_le rfl, am_le rfl, (h.1 q0)⟩, fun q0 => ⟨fun q1 => ((h.2 q0).1 q1), fun q1 => ((h.2 q0).2 q1)⟩⟩)
set_option maxRecDepth 100000 in
set_option maxHeartbeats 400000 in
theorem b_mo98 {K : Option am_V → am_M → Prop} {X : Nat → am_L → List am_V → am_M → Prop} (hX : am_cl eX7_meanOf lX7_meanOf (some .long) K X) {σ : am_M} (v f b : Int32) (w q : Nat) (s d : Int64) (t p : Nat) (x : Int64) (h : (((σ 20 0 1) ≤ (nI p)) → X 153 [some (.inr (.inr (20, 0))), some (.inl v), some (.inl f), some (.inl b), some (.inl (nI w)), some (.inl (nI q)), some (.inr (.inl s)), none, some (.inr (.inl d)), none, some (.inl (nI t)), some (.inr (.inl x)), none, some (.inl (nI p))] [] σ) ∧ (¬ ((σ 20 0 1) ≤ (nI p)) → (((((nI w) >>> ((nI p) &&& 31)) &&& (1 : Int32)) = (0 : Int32)) → X 98 [some (.inr (.inr (20, 0))), some (.inl v), some (.inl f), some (.inl b), some (.inl (nI w)), some (.inl (nI q)), some (.inr (.inl s)), none, some (.inr (.inl d)), none, some (.inl (nI t)), some (.inr (.inl (x * (1 : Int64)))), none, some (.inl ((nI p) + (1 : Int32)))] [] σ) ∧ (¬ ((((nI w) >>> ((nI p) &&& 31)) &&& (1 : Int32)) = (0 : Int32)) → (((((nI t) >>> ((nI p) &&& 31)) &&& (1 : Int32)) = (1 : Int32)) → X 98 [some (.inr (.inr (20, 0))), some (.inl v), some (.inl f), some (.inl b), some (.inl (nI w)), some (.inl (nI q)), some (.inr (.inl s)), none, some (.inr (.inl d)), none, some (.inl (nI t)), some (.inr (.inl (x * (((10 : Int32) - v)).toInt64))), none, some (.inl ((nI p) + (1 : Int32)))] [] σ) ∧ (¬ ((((nI t) >>> ((nI p) &&& 31)) &&& (1 : Int32)) = (1 : Int32)) → X 98 [some (.inr (.inr (20, 0))), some (.inl v), some (.inl f), some (.inl b), some (.inl (nI w)), some (.inl (nI q)), some (.inr (.inl s)), none, some (.inr (.inl d)), none, some (.inl (nI t)), some (.inr (.inl (x * (v).toInt64))), none, some (.inl ((nI p) + (1 : Int32)))] [] σ)))) : X 98 [some (.inr (.inr (20, 0))), some (.inl v), some (.inl f), some (.inl b), some (.inl (nI w)), some (.inl (nI q)), some (.inr (.inl s)), none, some (.inr (.inl d)), none, some (.inl (nI t)), some (.inr (.inl x)), none, some (.inl (nI p))] [] σ := am_run_ok emX7_meanOf hX [98, 153] 400 (show (((σ 20 0 1) ≤ (nI p)) → X 153 [some (.inr (.inr (20, 0))), some (.inl v), some (.inl f), some (.inl b), some (.inl (nI w)), some (.inl (nI q)), some (.inr (.inl s)), none, some (.inr (.inl d)), none, some (.inl (nI t)), some (.inr (.inl x)), none, some (.inl (nI p))] [] σ) ∧ (¬ ((σ 20 0 1) ≤ (nI p)) → (((((nI w) >>> ((nI p) &&& 31)) &&& (1 : Int32)) = (0 : Int32)) → X 98 [some (.inr (.inr (20, 0))), some (.inl v), some (.inl f), some (.inl b), some (.inl (nI w)), some (.inl (nI q)), some (.inr (.inl s)), none, some (.inr (.inl d)), none, some (.inl (nI t)), some (.inr (.inl (x * (1 : Int64)))), none, some (.inl ((nI p) + (1 : Int32)))] [] σ) ∧ (¬ ((((nI w) >>> ((nI p) &&& 31)) &&& (1 : Int32)) = (0 : Int32)) → (((((nI t) >>> ((nI p) &&& 31)) &&& (1 : Int32)) = (1 : Int32)) → X 98 [some (.inr (.inr (20, 0))), some (.inl v), some (.inl f), some (.inl b), some (.inl (nI w)), some (.inl (nI q)), some (.inr (.inl s)), none, some (.inr (.inl d)), none, some (.inl (nI t)), some (.inr (.inl (x * (((10 : Int32) - v)).toInt64))), none, some (.inl ((nI p) + (1 : Int32)))] [] σ) ∧ (¬ ((((nI t) >>> ((nI p) &&& 31)) &&& (1 : Int32)) = (1 : Int32)) → X 98 [some (.inr (.inr (20, 0))), some (.inl v), some (.inl f), some (.inl b), some (.inl (nI w)), some (.inl (nI q)), some (.inr (.inl s)), none, some (.inr (.inl d)), none, some (.inl (nI t)), some (.inr (.inl (x * (v).toInt64))), none, some (.inl ((nI p) + (1 : Int32)))] [] σ))) from ⟨fun q0 => (h.1 q0), fun q0 => ⟨fun q1 => ((h.2 q0).1 q1), fun q1 => ⟨fun q2 => (((h.2 q0).2 q1).1 q2), fun q2 => (((h.2 q0).2 q1).2 q2)⟩⟩⟩)
set_option maxRecDepth 100000 in
set_option maxHeartbeats 400000 in
theorem b_mo153 {K : Option am_V → am_M → Prop} {X : Nat → am_L → List am_V → am_M → Prop} (hX : am_cl eX7_meanOf lX7_meanOf (some .long) K X) {σ : am_M} (v f b : Int32) (w q : Nat) (s d : Int64) (t : Nat) (x : Int64) (h : ((f = (0 : Int32)) → (vp_in ((nI t) ||| (nI q)) 512) ∧ (X 196 [some (.inr (.inr (20, 0))), some (.inl v), some (.inl f), some (.inl b), some (.inl (nI w)), some (.inl (nI q)), some (.inr (.inl (s + (x * ((σ 26 0 ((nI t) ||| (nI q)).toNatClampNeg)).toInt64)))), none, some (.inr (.inl d)), none, some (.inl (nI t)), some (.inr (.inl x)), none, none] [] σ)) ∧ (¬ (f = (0 : Int32)) → sX7_hasFilling [.inr (.inr (20, 0)), .inl ((nI t) ||| (nI q))] σ (fun vv tt => X 183 [some (.inr (.inr (20, 0))), some (.inl v), some (.inl f), some (.inl b), some (.inl (nI w)), some (.inl (nI q)), some (.inr (.inl s)), none, some (.inr (.inl d)), none, some (.inl (nI t)), some (.inr (.inl x)), none, none] (vv.toList ++ [.inr (.inl x), .inr (.inl s)]) tt))) : X 153 [some (.inr (.inr (20, 0))), some (.inl v), some (.inl f), some (.inl b), some (.inl (nI w)), some (.inl (nI q)), some (.inr (.inl s)), none, some (.inr (.inl d)), none, some (.inl (nI t)), some (.inr (.inl x)), none, none] [] σ := am_run_ok emX7_meanOf hX [183, 196] 400 (show ((f = (0 : Int32)) → (vp_in ((nI t) ||| (nI q)) 512) ∧ (X 196 [some (.inr (.inr (20, 0))), some (.inl v), some (.inl f), some (.inl b), some (.inl (nI w)), some (.inl (nI q)), some (.inr (.inl (s + (x * ((σ 26 0 ((nI t) ||| (nI q)).toNatClampNeg)).toInt64)))), none, some (.inr (.inl d)), none, some (.inl (nI t)), some (.inr (.inl x)), none, none] [] σ)) ∧ (¬ (f = (0 : Int32)) → 2 ≤ 4 ∧ 4 ≤ 8 ∧ True ∧ sX7_hasFilling [.inr (.inr (20, 0)), .inl ((nI t) ||| (nI q))] σ (fun vv tt => X 183 [some (.inr (.inr (20, 0))), some (.inl v), some (.inl f), some (.inl b), some (.inl (nI w)), some (.inl (nI q)), some (.inr (.inl s)), none, some (.inr (.inl d)), none, some (.inl (nI t)), some (.inr (.inl x)), none, none] (vv.toList ++ [.inr (.inl x), .inr (.inl s)]) tt)) from ⟨fun q0 => ⟨(h.1 q0).1, (h.1 q0).2⟩, fun q0 => ⟨am_le rfl, am_le rfl, trivial, (h.2 q0)⟩⟩)
set_option maxRecDepth 100000 in
set_option maxHeartbeats 400000 in
theorem b_mo183 {K : Option am_V → am_M → Prop} {X : Nat → am_L → List am_V → am_M → Prop} (hX : am_cl eX7_meanOf lX7_meanOf (some .long) K X) {σ : am_M} (v f b : Int32) (w q : Nat) (s d : Int64) (t : Nat) (x : Int64) (u : Int32) (h : ((u = (0 : Int32)) → X 196 [some (.inr (.inr (20, 0))), some (.inl v), some (.inl f), some (.inl b), some (.inl (nI w)), some (.inl (nI q)), some (.inr (.inl (s + (x * ((0 : Int32)).toInt64)))), none, some (.inr (.inl d)), none, some (.inl (nI t)), some (.inr (.inl x)), none, none] [] σ) ∧ (¬ (u = (0 : Int32)) → X 196 [some (.inr (.inr (20, 0))), some (.inl v), some (.inl f), some (.inl b), some (.inl (nI w)), some (.inl (nI q)), some (.inr (.inl (s + (x * ((1 : Int32)).toInt64)))), none, some (.inr (.inl d)), none, some (.inl (nI t)), some (.inr (.inl x)), none, none] [] σ)) : X 183 [some (.inr (.inr (20, 0))), some (.inl v), some (.inl f), some (.inl b), some (.inl (nI w)), some (.inl (nI q)), some (.inr (.inl s)), none, some (.inr (.inl d)), none, some (.inl (nI t)), some (.inr (.inl x)), none, none] [.inl u, .inr (.inl x), .inr (.inl s)] σ := am_run_ok emX7_meanOf hX [196] 400 (show ((u = (0 : Int32)) → X 196 [some (.inr (.inr (20, 0))), some (.inl v), some (.inl f), some (.inl b), some (.inl (nI w)), some (.inl (nI q)), some (.inr (.inl (s + (x * ((0 : Int32)).toInt64)))), none, some (.inr (.inl d)), none, some (.inl (nI t)), some (.inr (.inl x)), none, none] [] σ) ∧ (¬ (u = (0 : Int32)) → X 196 [some (.inr (.inr (20, 0))), some (.inl v), some (.inl f), some (.inl b), some (.inl (nI w)), some (.inl (nI q)), some (.inr (.inl (s + (x * ((1 : Int32)).toInt64)))), none, some (.inr (.inl d)), none, some (.inl (nI t)), some (.inr (.inl x)), none, none] [] σ) from ⟨fun q0 => (h.1 q0), fun q0 => (h.2 q0)⟩)
set_option maxRecDepth 100000 in
set_option maxHeartbeats 400000 in
theorem b_mo196 {K : Option am_V → am_M → Prop} {X : Nat → am_L → List am_V → am_M → Prop} (hX : am_cl eX7_meanOf lX7_meanOf (some .long) K X) {σ : am_M} (v f b : Int32) (w q : Nat) (s d : Int64) (t : Nat) (h : X 75 [some (.inr (.inr (20, 0))), some (.inl v), some (.inl f), some (.inl b), some (.inl (nI w)), some (.inl (nI q)), some (.inr (.inl s)), none, some (.inr (.inl d)), none, some (.inl ((nI t) + (1 : Int32))), none, none, none] [] σ) : X 196 [some (.inr (.inr (20, 0))), some (.inl v), some (.inl f), some (.inl b), some (.inl (nI w)), some (.inl (nI q)), some (.inr (.inl s)), none, some (.inr (.inl d)), none, some (.inl (nI t)), none, none, none] [] σ := am_run_ok emX7_meanOf hX [75] 400 (show X 75 [some (.inr (.inr (20, 0))), some (.inl v), some (.inl f), some (.inl b), some (.inl (nI w)), some (.inl (nI q)), some (.inr (.inl s)), none, some (.inr (.inl d)), none, some (.inl ((nI t) + (1 : Int32))), none, none, none] [] σ from h)
set_option maxRecDepth 100000 in
set_option maxHeartbeats 400000 in
theorem b_mo210 {K : Option am_V → am_M → Prop} {X : Nat → am_L → List am_V → am_M → Prop} (hX : am_cl eX7_meanOf lX7_meanOf (some .long) K X) {σ : am_M} (v f b : Int32) (w q : Nat) (s d : Int64) (t : Nat) (x : Int64) (h : K (some (.inr (.inl x))) σ) : X 210 [some (.inr (.inr (20, 0))), some (.inl v), some (.inl f), some (.inl b), some (.inl (nI w)), some (.inl (nI q)), some (.inr (.inl s)), none, some (.inr (.inl d)), none, some (.inl (nI t)), none, none, none] [.inr (.inl x)] σ := am_run_ok emX7_meanOf hX [] 400 (show K (some (.inr (.inl x))) σ from h)
theorem q_cmp_0 {x y : Int64} : lg_cmp x y = 0 ↔ x = y := by
  constructor
  · intro h
    have h1 : ¬ x < y := fun q => by
      have := q_cmp_lt.2 q
      rw [h] at this
      exact absurd this (by decide)
    have h2 : ¬ y < x := fun q => by
      have := q_cmp_gt.2 q
      rw [h] at this
      exact absurd this (by decide)
    rw [Int64.lt_iff_toInt_lt] at h1 h2
    exact Int64.toInt_inj.1 (by omega)
  · intro h
    have h1 : ¬ lg_cmp x y < 0 := fun q => absurd (q_cmp_lt.1 q) (by rw [h, Int64.lt_iff_toInt_lt]; omega)
    have h2 : ¬ 0 < lg_cmp x y := fun q => absurd (q_cmp_gt.1 q) (by rw [h, Int64.lt_iff_toInt_lt]; omega)
    rw [Int32.lt_iff_toInt_lt] at h1 h2
    exact Int32.toInt_inj.1 (by
      have : (0 : Int32).toInt = 0 := by decide
      omega)
theorem q_l0 {x : Nat} (h : x < 2 ^ 63) : lg_cmp (lN x) 0 = 0 ↔ x = 0 := by
  rw [q_cmp_0]
  exact pk_lEQ (b := 0) h (by decide)
theorem q_lz {x : Nat} (h : x < 2 ^ 63) : lN x = 0 ↔ x = 0 := pk_lEQ (b := 0) h (by decide)
theorem q_gcd (x y : Nat) : Nat.gcd x y = Nat.gcd y (x % y) := by
  have h1 : Nat.gcd x y = Nat.gcd y x := Nat.gcd_comm x y
  have h2 : Nat.gcd y x = Nat.gcd (x % y) y := Nat.gcd_rec y x
  have h3 : Nat.gcd (x % y) y = Nat.gcd y (x % y) := Nat.gcd_comm _ _
  rw [h1, h2, h3]
theorem q_half {y r k : Nat} (h : y < 2 ^ (k + 1)) (h0 : 0 < r) (hr : r < y) : y % r < 2 ^ k := by
  have h1 : y % r < r := Nat.mod_lt _ h0
  have h2 := Nat.div_add_mod y r
  have h3 : 1 ≤ y / r := Nat.div_pos (Nat.le_of_lt hr) h0
  have h4 : r * 1 ≤ r * (y / r) := Nat.mul_le_mul_left r h3
  have h5 : 2 ^ (k + 1) = 2 * 2 ^ k := by omega
  omega
theorem tX6_power {σ : am_M} {b t : Nat} {K : am_K} (hb : b < 2 ^ 31) (ht : t < 2 ^ 31) (h : K (some (.inr (.inl (lN (b ^ t))))) σ) : sX6_power [.inl (nI b), .inl (nI t)] σ K := by
  refine ⟨am_le rfl, fun X hX => b_pw0 hX _ _ ?_⟩
  refine q_dn (W := fun i => X 5 [some (.inl (nI b)), some (.inl (nI t)), some (.inr (.inl (lN (b ^ i)))), none, some (.inl (nI i))] [] σ) (n := t) (fun i hi IH => ?_) ?_ 0 (Nat.zero_le _)
  · refine b_pw5 hX _ _ _ i ⟨fun q => absurd q (nI_ge hi ht), fun _ => ?_⟩
    rw [nI_l hb, lN_mul, show nI i + (1 : Int32) = nI (i + 1) from nI_add i 1]
    exact IH
  · exact b_pw5 hX _ _ _ t ⟨fun _ => h, fun q => absurd (nI_le (Nat.le_refl _) ht) q⟩
theorem tX6_weight {σ : am_M} {v w s : Nat} {K : am_K} (hv : v ≤ 10) (hw : w < 512) (hs : s < 512) (h : K (some (.inr (.inl (lN (v ^ q_pop (q_df w s) 9 * (10 - v) ^ q_pop s 9))))) σ) : sX6_weight [.inl (nI v), .inl (nI w), .inl (nI s)] σ K := by
  have hd := q_df_le w s
  have p1 := q_pop_le (q_df w s) 9
  have p2 := q_pop_le s 9
  refine ⟨am_le rfl, fun X hX => b_wg0 hX _ w s ?_⟩
  rw [q_dfI, nI_clamp (by omega)]
  refine ⟨q_lim_of rfl (by omega) (by decide), tX6_power (by omega) (by omega) (b_wg12 hX _ w s _ ⟨hs, ?_⟩)⟩
  rw [show (10 : Int32) - nI v = nI (10 - v) from pk_sub (a := 10) hv]
  refine tX6_power (by omega) (by omega) (b_wg23 hX _ w s _ _ ?_)
  rw [lN_mul]
  exact h
theorem tX6_commonDivisor {σ : am_M} {a b : Nat} {K : am_K} (ha : a < 2 ^ 63) (hb : b < 2 ^ 40) (h : K (some (.inr (.inl (lN (Nat.gcd a b))))) σ) : sX6_commonDivisor [.inr (.inl (lN a)), .inr (.inl (lN b))] σ K := by
  refine ⟨am_le rfl, fun X hX => b_gc0 hX _ _ ?_⟩
  have ex : ∀ x i, K (some (.inr (.inl (lN x)))) σ → X 9 [some (.inr (.inl (lN a))), none, some (.inr (.inl (lN b))), none, some (.inr (.inl (lN x))), none, some (.inr (.inl (lN 0))), none, some (.inl (nI i)), none, none] [] σ := fun x i g => b_gc9 hX _ _ _ _ i ⟨fun _ => g, fun _ => ⟨fun _ => g, fun q => absurd ((q_l0 (by decide)).2 rfl) q⟩⟩
  have step : ∀ x y i, i < 100 → x < 2 ^ 63 → y < 2 ^ 63 → 0 < y → X 9 [some (.inr (.inl (lN a))), none, some (.inr (.inl (lN b))), none, some (.inr (.inl (lN y))), none, some (.inr (.inl (lN (x % y)))), none, some (.inl (nI (i + 1))), none, none] [] σ → X 9 [some (.inr (.inl (lN a))), none, some (.inr (.inl (lN b))), none, some (.inr (.inl (lN x))), none, some (.inr (.inl (lN y))), none, some (.inl (nI i)), none, none] [] σ := fun x y i hi hx hy h0 g => by
    refine b_gc9 hX _ _ _ _ i ⟨fun q => absurd q (nI_ge (b := 100) hi (by decide)), fun _ => ⟨fun q => absurd ((q_l0 hy).1 q) (by omega), fun _ => ⟨fun q => absurd ((q_lz hy).1 q) (by omega), ?_⟩⟩⟩
    rw [pk_lRem hx h0 hy, show nI i + (1 : Int32) = nI (i + 1) from nI_add i 1]
    exact am_fo hX (ls := [some (.inr (.inl (lN a))), none, some (.inr (.inl (lN b))), none, some (.inr (.inl (lN y))), none, some (.inr (.inl (lN (x % y)))), none, some (.inl (nI (i + 1))), none, none]) ⟨rfl, rfl, rfl, rfl, rfl, trivial⟩ g
  have loop : ∀ k x y i, y < 2 ^ k → x < 2 ^ 63 → y < 2 ^ 63 → i + 2 * k ≤ 98 → K (some (.inr (.inl (lN (Nat.gcd x y))))) σ → X 9 [some (.inr (.inl (lN a))), none, some (.inr (.inl (lN b))), none, some (.inr (.inl (lN x))), none, some (.inr (.inl (lN y))), none, some (.inl (nI i)), none, none] [] σ := by
    intro k
    induction k with
    | zero =>
      intro x y i hy _ _ _ g
      rw [show y = 0 by omega] at g ⊢
      rw [Nat.gcd_zero_right] at g
      exact ex x i g
    | succ k ih =>
      intro x y i hy hx hy2 hi g
      rcases Nat.eq_zero_or_pos y with e | h0
      · rw [e] at g ⊢
        rw [Nat.gcd_zero_right] at g
        exact ex x i g
      · have hr : x % y < y := Nat.mod_lt _ h0
        refine step x y i (by omega) hx hy2 h0 ?_
        rw [q_gcd] at g
        rcases Nat.eq_zero_or_pos (x % y) with e | h1
        · rw [e] at g ⊢
          rw [Nat.gcd_zero_right] at g
          exact ex y _ g
        · have h2 := q_half hy h1 hr
          have h3 : y % (x % y) < x % y := Nat.mod_lt _ h1
          refine step y (x % y) (i + 1) (by omega) hy2 (by omega) h1 ?_
          rw [q_gcd] at g
          exact ih (x % y) (y % (x % y)) (i + 1 + 1) h2 (by omega) (by omega) (by omega) g
  exact loop 40 a b 0 hb ha (by omega) (by decide) h
def res (b : Int32) (u d : Nat) : Nat := (if b = 0 then u else d) / Nat.gcd u d
theorem tX6_inLowestTerms {σ : am_M} {u d : Nat} {b : Int32} {K : am_K} (hu : u < 2 ^ 63) (hd : d < 2 ^ 40) (h0 : 0 < d) (h : K (some (.inr (.inl (lN (res b u d))))) σ) : sX6_inLowestTerms [.inr (.inl (lN u)), .inr (.inl (lN d)), .inl b] σ K := by
  have g0 : 0 < Nat.gcd u d := Nat.gcd_pos_of_pos_right u h0
  have g1 : Nat.gcd u d ≤ d := Nat.gcd_le_right u h0
  refine ⟨am_le rfl, fun X hX => b_iw0 hX _ _ _ (tX6_commonDivisor hu hd (b_iw5 hX _ _ _ _ ?_))⟩
  unfold res at h
  have nz : ¬ lN (Nat.gcd u d) = 0 := fun q => absurd ((q_lz (by omega)).1 q) (by omega)
  refine ⟨fun q => absurd ((q_l0 (by omega)).1 q) (by omega), fun _ => ⟨fun c => ⟨nz, ?_⟩, fun c => ⟨nz, ?_⟩⟩⟩
  · rw [if_pos c] at h
    rw [pk_lDiv hu g0 (by omega)]
    exact h
  · rw [if_neg c] at h
    rw [pk_lDiv (by omega) g0 (by omega)]
    exact h
theorem tX7_lowest {σ : am_M} {u d : Nat} {b : Int32} {K : am_K} (hu : u < 2 ^ 63) (hd : d < 2 ^ 40) (h0 : 0 < d) (h : K (some (.inr (.inl (lN (res b u d))))) σ) : sX7_lowest [.inr (.inl (lN u)), .inr (.inl (lN d)), .inl b] σ K := by
  have g0 : 0 < Nat.gcd u d := Nat.gcd_pos_of_pos_right u h0
  have g1 : Nat.gcd u d ≤ d := Nat.gcd_le_right u h0
  refine ⟨am_le rfl, fun X hX => b_lw0 hX _ _ _ ?_⟩
  unfold res at h
  have nz : ¬ lN (Nat.gcd u d) = 0 := fun q => absurd ((q_lz (by omega)).1 q) (by omega)
  have loop : ∀ k x y, y ≤ k → x < 2 ^ 63 → y < 2 ^ 63 → Nat.gcd x y = Nat.gcd u d → X 6 [some (.inr (.inl (lN u))), none, some (.inr (.inl (lN d))), none, some (.inl b), some (.inr (.inl (lN x))), none, some (.inr (.inl (lN y))), none, none, none] [] σ := by
    intro k
    induction k with
    | zero =>
      intro x y hy hx _ g
      rw [Nat.le_zero.mp hy] at g ⊢
      rw [Nat.gcd_zero_right] at g
      rw [g]
      refine b_lw6 hX _ _ _ _ _ ⟨fun _ => ⟨fun c => ⟨nz, ?_⟩, fun c => ⟨nz, ?_⟩⟩, fun q => absurd ((q_l0 (by decide)).2 rfl) q⟩
      · rw [if_pos c] at h
        rw [pk_lDiv hu g0 (by omega)]
        exact h
      · rw [if_neg c] at h
        rw [pk_lDiv (by omega) g0 (by omega)]
        exact h
    | succ k ih =>
      intro x y hy hx hy2 g
      rcases Nat.eq_zero_or_pos y with e | hp
      · exact ih x y (by omega) hx hy2 g
      · have hr : x % y < y := Nat.mod_lt _ hp
        refine b_lw6 hX _ _ _ _ _ ⟨fun q => absurd ((q_l0 hy2).1 q) (by omega), fun _ => ⟨fun q => absurd ((q_lz hy2).1 q) (by omega), ?_⟩⟩
        rw [pk_lRem hx hp hy2]
        rw [q_gcd] at g
        exact am_fo hX (ls := [some (.inr (.inl (lN u))), none, some (.inr (.inl (lN d))), none, some (.inl b), some (.inr (.inl (lN y))), none, some (.inr (.inl (lN (x % y)))), none, none, none]) ⟨rfl, rfl, rfl, rfl, rfl, trivial⟩ (ih y (x % y) (by omega) hy2 (by omega) g)
  exact loop d u d (Nat.le_refl _) hu (by omega) rfl
/-- how likely just these are left -/
def wt (v W S : Nat) : Nat → Nat
  | 0 => 1
  | p + 1 => wt v W S p * (if W.testBit p then (if S.testBit p then 10 - v else v) else 1)
theorem wt_pow {v W S : Nat} (h : q_df S W = 0) : ∀ n, v ^ q_pop (q_df W S) n * (10 - v) ^ q_pop S n = wt v W S n
  | 0 => rfl
  | n + 1 => by
    have ih := wt_pow (v := v) h n
    unfold q_pop wt
    rw [← ih, q_df_bit]
    cases cw : W.testBit n <;> cases cs : S.testBit n
    · simp
    · exact absurd (q_sub_bit h cs) (by rw [cw]; decide)
    · simp only [Bool.not_false, Bool.and_self, if_true, Bool.false_eq_true, if_false, Nat.add_zero, Nat.pow_succ]
      rw [Nat.mul_assoc, Nat.mul_comm v, ← Nat.mul_assoc]
    · simp only [Bool.not_true, Bool.and_false, if_true, Bool.false_eq_true, if_false, Nat.add_zero, Nat.pow_succ]
      rw [Nat.mul_assoc]
theorem wt_hi {v W S n : Nat} (h : W < 2 ^ n) : ∀ {m : Nat}, n ≤ m → wt v W S m = wt v W S n
  | 0, hm => by rw [show n = 0 by omega]
  | m + 1, hm => by
    by_cases c : n = m + 1
    · rw [c]
    · show wt v W S m * _ = _
      rw [q_hi h (by omega), wt_hi h (by omega)]
      simp
theorem wt_le {v W S : Nat} (hv : v ≤ 10) : ∀ n, wt v W S n ≤ 10 ^ n
  | 0 => Nat.le_refl _
  | n + 1 => by
    have ih := wt_le (W := W) (S := S) hv n
    show wt v W S n * _ ≤ 10 ^ n * 10
    refine Nat.mul_le_mul ih ?_
    split
    · split <;> omega
    · decide
def sm (f : Nat → Nat) (v W n : Nat) : Nat → Nat
  | 0 => 0
  | t + 1 => sm f v W n t + if q_df t W = 0 then wt v W t n * f t else 0
theorem sm_s (f : Nat → Nat) (v W n t : Nat) : sm f v W n (t + 1) = sm f v W n t + if q_df t W = 0 then wt v W t n * f t else 0 := rfl
theorem sm_le {f : Nat → Nat} {v W n : Nat} (hv : v ≤ 10) (h9 : n ≤ 9) (hf : ∀ t, f t ≤ 512) : ∀ t, sm f v W n t ≤ t * 512000000000
  | 0 => Nat.le_refl _
  | t + 1 => by
    have ih := sm_le (W := W) hv h9 hf t
    rw [sm_s]
    have h1 : wt v W t n ≤ 1000000000 := Nat.le_trans (wt_le hv n) (Nat.le_trans (Nat.pow_le_pow_right (by decide) h9) (by decide))
    have h2 : wt v W t n * f t ≤ 512000000000 := Nat.le_trans (Nat.mul_le_mul h1 (hf t)) (by decide)
    rw [Nat.succ_mul]
    refine Nat.add_le_add ih ?_
    split
    · exact h2
    · exact Nat.zero_le _
theorem p10_lt {W : Nat} : 10 ^ q_pop W 9 < 2 ^ 40 ∧ 0 < 10 ^ q_pop W 9 := by
  have h : 10 ^ q_pop W 9 ≤ 10 ^ 9 := Nat.pow_le_pow_right (by decide) (q_pop_le W 9)
  exact ⟨Nat.lt_of_le_of_lt h (by decide), Nat.pos_of_ne_zero (by simp)⟩
theorem tX7_hasFilling {σ : am_M} {f : Nat} {K : am_K} (ho : m_ok σ) (hf : f < 512) (h : K (some (.inl (bI (q_ex (fun S => m_fil σ S f) (f + 1))))) σ) : sX7_hasFilling [am_r 20 0, .inl (nI f)] σ K := by
  refine ⟨am_le rfl, fun X hX => b_hf0 hX f ?_⟩
  generalize hP : (fun S => m_fil σ S f) = P at h
  have key : ∀ S, P S = m_fil σ S f := fun S => by rw [← hP]
  have fin : ∀ i, i ≤ f + 1 → q_ex P i = true → q_ex P i = q_ex P (f + 1) := fun i hi q => by
    obtain ⟨x, hx, e⟩ := q_ex_iff.1 q
    rw [q, q_ex_iff.2 ⟨x, by omega, e⟩]
  refine q_dn (W := fun i => X 4 [some (am_r 20 0), some (.inl (nI f)), some (.inl (bI (q_ex P i))), some (.inl (nI i))] [] σ) (n := f + 1) (fun i hi IH => ?_) ?_ 0 (Nat.zero_le _)
  · refine b_hf4 hX f i _ ?_
    rw [nI_ltI (by omega) (by omega), bI_0]
    have st : ∀ v : Bool, q_ex P i = false → P i = v → X 19 [some (am_r 20 0), some (.inl (nI f)), some (.inl (bI (q_ex P i))), some (.inl (nI i))] [.inl (bI v)] σ := fun v e1 e2 => by
      refine b_hf19 hX f i _ _ ?_
      have e : q_ex P (i + 1) = v := by
        show (q_ex P i || P i) = v
        rw [e1, e2]
        rfl
      rw [e] at IH
      rw [show nI i + (1 : Int32) = nI (i + 1) from nI_add i 1]
      exact IH
    refine ⟨fun q => absurd q (by omega), fun _ => ⟨fun c => uX7_isFilling ⟨ho, by omega, hf, fun d => st true c ?_, fun d => st false c ?_⟩, fun c => ⟨bI_n _, ?_⟩⟩⟩
    · rw [key, d]
    · rw [key, Bool.eq_false_iff.mpr d]
    · rw [fin i (by omega) (by simpa using c)]
      exact h
  · exact b_hf4 hX f (f + 1) _ ⟨fun _ => ⟨bI_n _, h⟩, fun q => absurd (nI_lt (Nat.lt_succ_self f) (by omega)) q⟩
theorem mo_loop {X : Nat → am_L → List am_V → am_M → Prop} {K : am_K} (hX : am_cl eX7_meanOf lX7_meanOf (some .long) K X) {ω : am_M} {v Q W n : Nat} {fl b : Int32} {f : Nat → Nat} (h9 : n ≤ 9) (ho : ω 20 0 1 = nI n) (hv : v ≤ 10) (hW : W < 2 ^ n) (hQ : Q < 2 ^ n) (hf5 : ∀ t, f t ≤ 512) (hf0 : fl = 0 → ∀ t, q_df t W = 0 → ω 26 0 (t ||| Q) = nI (f t)) (hf1 : ¬ fl = 0 → ∀ t, q_df t W = 0 → f t = if q_ex (fun S => m_fil ω S (t ||| Q)) ((t ||| Q) + 1) then 1 else 0) (h : K (some (.inr (.inl (lN (res b (sm f v W n (W + 1)) (10 ^ q_pop W 9)))))) ω) : X 31 [some (am_r 20 0), some (.inl (nI v)), some (.inl fl), some (.inl b), some (.inl (nI W)), some (.inl (nI Q)), some (.inr (.inl (0 : Int64))), none, some (.inr (.inl (1 : Int64))), none, none, none, none, none] [] ω := by
  have h2 : 2 ^ n ≤ 512 := Nat.pow_le_pow_right (n := 2) (by decide) h9
  obtain ⟨mn, mo⟩ := m_n_of ho h9
  have bW : ∀ p, p < 9 → nI W >>> (nI p &&& 31) &&& (1 : Int32) = if W.testBit p then 1 else 0 := fun p hp => q_bitv (by omega) (by omega)
  refine b_mo31 hX _ _ _ _ _ _ _ ?_
  have down := q_dn (W := fun p => X 34 [some (am_r 20 0), some (.inl (nI v)), some (.inl fl), some (.inl b), some (.inl (nI W)), some (.inl (nI Q)), some (.inr (.inl (0 : Int64))), none, some (.inr (.inl (lN (10 ^ q_pop W p)))), none, some (.inl (nI p)), none, none, none] [] ω) (n := n) (fun p hp IH => ?_) ?_ 0 (Nat.zero_le _)
  · exact down
  · refine b_mo34 hX _ _ _ _ _ _ _ p ?_
    rw [bW p (by omega), q_ite1, ho, show nI p + (1 : Int32) = nI (p + 1) from nI_add p 1, show lN (10 ^ q_pop W p) * (10 : Int64) = lN (10 ^ q_pop W p * 10) from lN_mul _ 10, show lN (10 ^ q_pop W p) * (1 : Int64) = lN (10 ^ q_pop W p * 1) from lN_mul _ 1]
    unfold q_pop at IH
    refine ⟨fun q => absurd q (nI_ge hp (by omega)), fun _ => ⟨fun c => ?_, fun c => ?_⟩⟩
    · rw [if_pos c] at IH
      exact IH
    · rw [if_neg c] at IH
      rw [Nat.mul_one]
      exact IH
  · refine b_mo34 hX _ _ _ _ _ _ _ n ⟨fun _ => ?_, fun q => absurd (by rw [ho]; exact nI_le (Nat.le_refl _) (by omega)) q⟩
    refine b_mo72 hX _ _ _ _ _ _ _ n ?_
    rw [show 10 ^ q_pop W n = 10 ^ q_pop W 9 by rw [q_pop_hi hW h9]]
    have sums := q_dn (W := fun t => X 75 [some (am_r 20 0), some (.inl (nI v)), some (.inl fl), some (.inl b), some (.inl (nI W)), some (.inl (nI Q)), some (.inr (.inl (lN (sm f v W n t)))), none, some (.inr (.inl (lN (10 ^ q_pop W 9)))), none, some (.inl (nI t)), none, none, none] [] ω) (n := W + 1) (fun t ht IH => ?_) ?_ 0 (Nat.zero_le _)
    · exact sums
    · refine b_mo75 hX _ _ _ _ _ _ _ t ?_
      rw [nI_ltI (by omega) (by omega), q_dfz (by omega)]
      have tq : t ||| Q < 512 := q_512 h9 (Nat.or_lt_two_pow (by omega) hQ)
      have s196 : ∀ (z : Nat) (u w y : Option am_V), z = sm f v W n (t + 1) → X 196 [some (am_r 20 0), some (.inl (nI v)), some (.inl fl), some (.inl b), some (.inl (nI W)), some (.inl (nI Q)), some (.inr (.inl (lN z))), none, some (.inr (.inl (lN (10 ^ q_pop W 9)))), none, some (.inl (nI t)), u, w, y] [] ω := fun z u w y e => by
        subst e
        refine am_fo hX (ls := [some (am_r 20 0), some (.inl (nI v)), some (.inl fl), some (.inl b), some (.inl (nI W)), some (.inl (nI Q)), some (.inr (.inl (lN (sm f v W n (t + 1))))), none, some (.inr (.inl (lN (10 ^ q_pop W 9)))), none, some (.inl (nI t)), none, none, none]) ⟨rfl, rfl, rfl, rfl, rfl, rfl, rfl, rfl, rfl, trivial⟩ (b_mo196 hX _ _ _ _ _ _ _ t ?_)
        rw [show nI t + (1 : Int32) = nI (t + 1) from nI_add t 1]
        exact IH
      refine ⟨fun q => absurd q (by omega), fun _ => ⟨fun c => ?_, fun c => s196 _ _ _ _ (by rw [sm_s, if_neg c, Nat.add_zero])⟩⟩
      have inner := q_dn (W := fun p => X 98 [some (am_r 20 0), some (.inl (nI v)), some (.inl fl), some (.inl b), some (.inl (nI W)), some (.inl (nI Q)), some (.inr (.inl (lN (sm f v W n t)))), none, some (.inr (.inl (lN (10 ^ q_pop W 9)))), none, some (.inl (nI t)), some (.inr (.inl (lN (wt v W t p)))), none, some (.inl (nI p))] [] ω) (n := n) (fun p hp IH2 => ?_) ?_ 0 (Nat.zero_le _)
      · exact inner
      · refine b_mo98 hX _ _ _ _ _ _ _ t p _ ?_
        rw [bW p (by omega), q_bitv (by omega) (by omega), q_ite1, q_ite0, ho, show nI p + (1 : Int32) = nI (p + 1) from nI_add p 1, show (10 : Int32) - nI v = nI (10 - v) from pk_sub (a := 10) hv, nI_l (by omega), nI_l (by omega), lN_mul, lN_mul, show lN (wt v W t p) * (1 : Int64) = lN (wt v W t p * 1) from lN_mul _ 1]
        unfold wt at IH2
        refine ⟨fun q => absurd q (nI_ge hp (by omega)), fun _ => ⟨fun d => ?_, fun d => ?_⟩⟩
        · rw [d] at IH2
          exact IH2
        · have d' : W.testBit p = true := by simpa using d
          rw [d', if_pos rfl] at IH2
          refine ⟨fun g => ?_, fun g => ?_⟩
          · rw [if_pos g] at IH2
            exact IH2
          · rw [if_neg g] at IH2
            exact IH2
      · refine b_mo98 hX _ _ _ _ _ _ _ t n _ ⟨fun _ => ?_, fun q => absurd (by rw [ho]; exact nI_le (Nat.le_refl _) (by omega)) q⟩
        refine am_fo hX (ls := [some (am_r 20 0), some (.inl (nI v)), some (.inl fl), some (.inl b), some (.inl (nI W)), some (.inl (nI Q)), some (.inr (.inl (lN (sm f v W n t)))), none, some (.inr (.inl (lN (10 ^ q_pop W 9)))), none, some (.inl (nI t)), some (.inr (.inl (lN (wt v W t n)))), none, none]) ⟨rfl, rfl, rfl, rfl, rfl, rfl, rfl, rfl, rfl, rfl, trivial⟩ (b_mo153 hX _ _ _ _ _ _ _ t _ ?_)
        rw [q_or, nI_clamp (by omega)]
        refine ⟨fun d => ⟨q_in tq (by decide), ?_⟩, fun d => tX7_hasFilling mo tq (b_mo183 hX _ _ _ _ _ _ _ t _ _ ?_)⟩
        · have h5 := hf5 t
          rw [hf0 d t c, nI_l (by omega), lN_mul, lN_add]
          exact s196 _ _ _ _ (by rw [sm_s, if_pos c])
        · have e := hf1 d t c
          rw [bI_0, show (0 : Int32).toInt64 = lN 0 from nI_l (n := 0) (by decide), show (1 : Int32).toInt64 = lN 1 from nI_l (n := 1) (by decide), lN_mul, lN_mul, lN_add, lN_add]
          refine ⟨fun g => s196 _ _ _ _ ?_, fun g => s196 _ _ _ _ ?_⟩
          · rw [g] at e
            rw [sm_s, if_pos c, e]
            rfl
          · rw [(Bool.eq_false_or_eq_true _).resolve_right g] at e
            rw [sm_s, if_pos c, e]
            rfl
    · have hs := sm_le (W := W) (f := f) hv h9 hf5 (W + 1)
      refine b_mo75 hX _ _ _ _ _ _ _ (W + 1) ⟨fun _ => tX7_lowest (by omega) p10_lt.1 p10_lt.2 (b_mo210 hX _ _ _ _ _ _ _ _ _ h), fun q => absurd (nI_lt (Nat.lt_succ_self W) (by omega)) q⟩
theorem mean_ref {X : Nat → am_L → List am_V → am_M → Prop} {K : am_K} (hX : am_cl eX7_meanOf lX7_meanOf (some .long) K X) {σ τ : am_M} {n pl v : Nat} {fl b : Int32} (hv : iv σ n pl) (hz : ivz σ τ) (h : ∀ ω, ivz σ ω → (∀ Q, Q < 2 ^ n → ∃ w, mx (p_bt (c_r σ 0) n pl) Q w ∧ ω 26 0 Q = nI w) → X 31 [some (am_r 20 0), some (.inl (nI v)), some (.inl fl), some (.inl b), some (.inl (nI (c_who σ 0 1))), some (.inl (nI (c_who σ 0 2))), some (.inr (.inl (0 : Int64))), none, some (.inr (.inl (1 : Int64))), none, none, none, none, none] [] ω) : X 0 [some (am_r 20 0), some (.inl (nI v)), some (.inl fl), some (.inl b), none, none, none, none, none, none, none, none, none, none] [] τ := by
  obtain ⟨j1, j2, j3, j4, j5, j6, j7, j8, j9, j10, j11, j12, j13⟩ := iv_q hv hz
  have b5 := hv.2.2.1.2.2.2.2.1
  refine b_mo0 hX _ _ _ ⟨j1, j1, ?_⟩
  rw [show τ 21 0 63 + (3 : Int32) = nI pl from j7, j2, j5, j5]
  refine tX7_layMost j1 (by omega) (by omega) fun ω hk hp => h ω (ivz_trans hz (ivz_of fun k _ _ _ _ _ _ _ c26 => hk k c26)) ?_
  rw [j2, p_bt_cg j6] at hp
  exact hp
theorem pr_odds {σ : am_M} {a b : Int32} (hI : Inv σ) : pairL sX6_odds sX7_odds [.inl a, .inl b] σ := by
  obtain ⟨n, pl, hv⟩ := id hI
  obtain ⟨h9, a1, a2, -⟩ := id hv
  obtain ⟨b1, b2, b3, b4, b5, b6, b7, b8, b9, b10, b11⟩ := id a2
  obtain ⟨k1, k2, k3, k4, k5, k6, k7, k8, k9, k10, k11, k12, k13⟩ := iv_q hv ivz_refl
  have h2 : 2 ^ n ≤ 512 := Nat.pow_le_pow_right (n := 2) (by decide) h9
  refine ⟨am_le rfl, fun X hX => b_od0 hX a b ⟨fun c1 => ⟨_, rfl, am_le rfl, fun Y hY => b_ox0 hY a b ⟨fun _ => ⟨rfl, hI⟩, fun q => absurd c1 q⟩⟩, fun c1 => ⟨fun c2 => ⟨_, rfl, am_le rfl, fun Y hY => b_ox0 hY a b ⟨fun q => absurd q c1, fun _ => ⟨fun _ => ⟨rfl, hI⟩, fun q => absurd c2 q⟩⟩⟩, fun c2 => ⟨fun c3 => ⟨_, rfl, am_le rfl, fun Y hY => b_ox0 hY a b ⟨fun q => absurd q c1, fun _ => ⟨fun q => absurd q c2, fun _ => ⟨fun _ => ⟨rfl, hI⟩, fun q => absurd c3 q⟩⟩⟩⟩, fun c3 => ⟨fun c4 => ⟨_, rfl, am_le rfl, fun Y hY => b_ox0 hY a b ⟨fun q => absurd q c1, fun _ => ⟨fun q => absurd q c2, fun _ => ⟨fun q => absurd q c3, fun _ => ⟨fun _ => ⟨rfl, hI⟩, fun q => absurd c4 q⟩⟩⟩⟩⟩, fun c4 => ⟨k9, k9, ?_⟩⟩⟩⟩⟩⟩
  obtain ⟨v, hv10, rfl⟩ := q_0b (b := 10) rfl (by decide) c1 c2
  rw [b3, q_or]
  have hW := k13 1
  have hQ := k13 2
  have hH : c_who σ 0 1 ||| c_who σ 0 2 = c_here σ 0 := rfl
  rw [hH]
  refine tX3_gather k9 (by omega) (q_512 h9 k4) (q_512 h9 hQ) fun τ hg => ?_
  rw [k10] at hg
  have hz := ivz_got hg
  have hs := s_got_has hg (p_gd_126 h9 (by omega))
  refine b_od66 hX _ _ _ _ ?_
  have hf : ∃ f : Nat → Nat, ∀ t, f t = if s_in (q_ls (p_gd (c_r σ 0) n pl (c_here σ 0) (c_who σ 0 2)) (2 ^ n)) (nI (t ||| c_who σ 0 2)) then 1 else 0 := ⟨_, fun _ => rfl⟩
  obtain ⟨f, hf⟩ := hf
  have hf5 : ∀ t, f t ≤ 512 := fun t => by
    rw [hf]
    split <;> omega
  have hfe : ∀ ω, ivz σ ω → ∀ t, q_df t (c_who σ 0 1) = 0 → f t = if q_ex (fun S => m_fil ω S (t ||| c_who σ 0 2)) ((t ||| c_who σ 0 2) + 1) then 1 else 0 := fun ω hzω t ht => by
    obtain ⟨j1, j2, j3, j4, j5, j6, j7, j8, j9, j10, j11, j12, j13⟩ := iv_q hv hzω
    rw [hf]
    have sub : q_df (t ||| c_who σ 0 2) (c_here σ 0) = 0 := q_df_0.2 fun i hi => by
      unfold c_here
      rw [Nat.testBit_or, Bool.or_eq_true] at hi ⊢
      rcases hi with q | q
      · exact Or.inl (q_sub_bit ht q)
      · exact Or.inr q
    have e : s_in (q_ls (p_gd (c_r σ 0) n pl (c_here σ 0) (c_who σ 0 2)) (2 ^ n)) (nI (t ||| c_who σ 0 2)) = q_ex (fun S => m_fil ω S (t ||| c_who σ 0 2)) ((t ||| c_who σ 0 2) + 1) := by
      rw [Bool.eq_iff_iff, q_ex_iff]
      unfold s_in
      rw [List.any_eq_true]
      have fe : ∀ S, m_fil ω S (t ||| c_who σ 0 2) = (decide (q_df S (t ||| c_who σ 0 2) = 0) && (decide (q_df (c_who σ 0 2) S = 0) && (decide (q_pop S 9 = pl) && p_un (c_r σ 0) n S))) := fun S => by
        have hq := q_pop_le S 9
        unfold m_fil m_boat
        rw [j2, j6, j7, j5, decide_eq_decide.mpr (nI_eq (by omega) (by omega))]
      constructor
      · rintro ⟨S, hS, q⟩
        rw [q_ls_mem] at hS
        have q := (q_dfz (by omega)).1 (of_decide_eq_true q)
        refine ⟨S, by have := q_sub_le q; omega, ?_⟩
        have g := hS.2
        unfold p_gd at g
        rw [Bool.and_eq_true] at g
        rw [fe, q, g.2]
        rfl
      · rintro ⟨S, hS, q⟩
        rw [fe, Bool.and_eq_true] at q
        have q1 := of_decide_eq_true q.1
        have sub2 : q_df S (c_here σ 0) = 0 := q_df_0.2 fun i hi => q_sub_bit sub (q_sub_bit q1 hi)
        have hl : S < 2 ^ n := Nat.lt_of_le_of_lt (q_sub_le sub2) k4
        refine ⟨S, q_ls_mem.2 ⟨hl, ?_⟩, decide_eq_true ((q_dfz (by omega)).2 q1)⟩
        unfold p_gd
        rw [sub2, q.2]
        rfl
    rw [e]
  have ref : sX7_odds [am_r 20 0, .inl (nI v), .inl b] τ (fun w τ2 => w = some (.inr (.inl (lN (res b (sm f v (c_who σ 0 1) n (c_who σ 0 1 + 1)) (10 ^ q_pop (c_who σ 0 1) 9))))) ∧ Inv τ2) := by
    refine ⟨am_le rfl, fun Y hY => b_ox0 hY _ b ⟨fun q => absurd q c1, fun _ => ⟨fun q => absurd q c2, fun _ => ⟨fun q => absurd q c3, fun _ => ⟨fun q => absurd q c4, fun _ => ⟨am_le rfl, fun Z hZ => mean_ref hZ hv hz fun ω hzω hp => ?_⟩⟩⟩⟩⟩⟩
    exact mo_loop hZ h9 (iv_z hzω hv).2.1 hv10 hW hQ hf5 (fun q => absurd q (by decide)) (fun _ => hfe ω hzω) (b_ox29 hY _ _ _ ⟨rfl, n, pl, iv_z hzω hv⟩)
  generalize hWe : c_who σ 0 1 = W at hW ref hfe hH ⊢
  generalize hQe : c_who σ 0 2 = Q at hQ hf hH hs ⊢
  have loop := q_dn (W := fun t => X 72 [some (am_r 0 0), some (.inl (nI v)), some (.inl b), some (.inl (nI W)), some (.inl (nI Q)), some (.inr (.inl (lN (sm f v W n t)))), none, some (.inl (nI t))] [] τ) (n := W + 1) (fun t ht IH => ?_) ?_ 0 (Nat.zero_le _)
  · exact loop
  · refine b_od72 hX _ _ _ _ t _ ?_
    rw [nI_ltI (by omega) (by omega), q_dfz (by omega), q_or]
    have s114 : ∀ z, z = sm f v W n (t + 1) → X 114 [some (am_r 0 0), some (.inl (nI v)), some (.inl b), some (.inl (nI W)), some (.inl (nI Q)), some (.inr (.inl (lN z))), none, some (.inl (nI t))] [] τ := fun z e => by
      subst e
      refine b_od114 hX _ _ _ _ t _ ?_
      rw [show nI t + (1 : Int32) = nI (t + 1) from nI_add t 1]
      exact IH
    refine ⟨fun q => absurd q (by omega), fun _ => ⟨fun c => tX3_hasOneWithin hs ⟨fun d => ?_, fun d => ?_⟩, fun c => s114 _ (by rw [sm_s, if_neg c, Nat.add_zero])⟩⟩
    · refine b_od99 hX _ _ _ _ _ t _ ⟨fun q => absurd q (by decide), fun _ => tX6_weight hv10 (by omega) (by omega) (b_od111 hX _ _ _ _ t _ _ ?_)⟩
      rw [lN_add, wt_pow c, wt_hi hW h9]
      refine s114 _ ?_
      rw [sm_s, if_pos c, hf, if_pos d, Nat.mul_one]
    · refine b_od99 hX _ _ _ _ _ t _ ⟨fun _ => s114 _ ?_, fun q => absurd rfl q⟩
      rw [sm_s, if_pos c, hf, if_neg d, Nat.mul_zero, Nat.add_zero]
  · have hsm := sm_le (W := W) (f := f) hv10 h9 hf5 (W + 1)
    have hq := q_pop_le W 9
    refine b_od72 hX _ _ _ _ (W + 1) _ ⟨fun _ => ⟨by omega, b_od128 hX _ _ _ _ _ _ _ _ (tX6_power (b := 10) (by decide) (by omega) (b_od131 hX _ _ _ _ _ _ _ (tX6_inLowestTerms (by omega) p10_lt.1 p10_lt.2 (b_od135 hX _ _ _ _ _ _ _ ⟨_, rfl, ref⟩))))⟩, fun q => absurd (nI_lt (Nat.lt_succ_self W) (by omega)) q⟩
theorem pr_mean {σ : am_M} {a b : Int32} (hI : Inv σ) : pairL sX6_mean sX7_mean [.inl a, .inl b] σ := by
  obtain ⟨n, pl, hv⟩ := id hI
  obtain ⟨h9, a1, a2, -⟩ := id hv
  obtain ⟨b1, b2, b3, b4, b5, b6, b7, b8, b9, b10, b11⟩ := id a2
  obtain ⟨k1, k2, k3, k4, k5, k6, k7, k8, k9, k10, k11, k12, k13⟩ := iv_q hv ivz_refl
  have h2 : 2 ^ n ≤ 512 := Nat.pow_le_pow_right (n := 2) (by decide) h9
  refine ⟨am_le rfl, fun X hX => b_me0 hX a b ⟨fun c1 => ⟨_, rfl, am_le rfl, fun Y hY => b_mx0 hY a b ⟨fun _ => ⟨rfl, hI⟩, fun q => absurd c1 q⟩⟩, fun c1 => ⟨fun c2 => ⟨_, rfl, am_le rfl, fun Y hY => b_mx0 hY a b ⟨fun q => absurd q c1, fun _ => ⟨fun _ => ⟨rfl, hI⟩, fun q => absurd c2 q⟩⟩⟩, fun c2 => ⟨fun c3 => ⟨_, rfl, am_le rfl, fun Y hY => b_mx0 hY a b ⟨fun q => absurd q c1, fun _ => ⟨fun q => absurd q c2, fun _ => ⟨fun _ => ⟨rfl, hI⟩, fun q => absurd c3 q⟩⟩⟩⟩, fun c3 => ⟨fun c4 => ⟨_, rfl, am_le rfl, fun Y hY => b_mx0 hY a b ⟨fun q => absurd q c1, fun _ => ⟨fun q => absurd q c2, fun _ => ⟨fun q => absurd q c3, fun _ => ⟨fun _ => ⟨rfl, hI⟩, fun q => absurd c4 q⟩⟩⟩⟩⟩, fun c4 => ⟨k9, k9, ?_⟩⟩⟩⟩⟩⟩
  obtain ⟨v, hv10, rfl⟩ := q_0b (b := 10) rfl (by decide) c1 c2
  rw [b3, q_or]
  have hW := k13 1
  have hQ := k13 2
  have hH : c_who σ 0 1 ||| c_who σ 0 2 = c_here σ 0 := rfl
  rw [hH]
  refine tX3_gather (M := 0) k9 (by omega) (q_512 h9 k4) (by decide) fun τ0 hg => ?_
  rw [k10] at hg
  refine b_me65 hX _ _ _ _ (tX3_pack h9 (p_gd_0 (by omega)) (s_got_has hg (p_gd_126 h9 (by omega))) hg.2.2.2 fun τ hk hp => b_me72 hX _ _ _ _ ?_)
  have hz : ivz σ τ := ivz_trans (ivz_got hg) (ivz_of fun k _ _ _ _ c10 _ _ _ => hk k c10)
  have hm : ∀ Q, Q < 2 ^ n → mx (p_gd (c_r σ 0) n pl (c_here σ 0) 0) Q (τ 10 0 Q).toNatClampNeg ∧ τ 10 0 Q = nI (τ 10 0 Q).toNatClampNeg ∧ (τ 10 0 Q).toNatClampNeg ≤ 512 := fun Q hQ => by
    obtain ⟨v, m, e⟩ := hp Q hQ
    have := mx_le (p_gd_0 (by omega)) m
    rw [e, nI_clamp (by omega)]
    exact ⟨m, rfl, by omega⟩
  have hf : ∃ f : Nat → Nat, ∀ t, f t = if t ||| c_who σ 0 2 < 2 ^ n then (τ 10 0 (t ||| c_who σ 0 2)).toNatClampNeg else 0 := ⟨_, fun _ => rfl⟩
  obtain ⟨f, hf⟩ := hf
  have hf5 : ∀ t, f t ≤ 512 := fun t => by
    rw [hf]
    split
    · rename_i c
      exact (hm _ c).2.2
    · omega
  have hin : ∀ t, q_df t (c_who σ 0 1) = 0 → t ||| c_who σ 0 2 < 2 ^ n := fun t ht => Nat.or_lt_two_pow (by have := q_sub_le ht; omega) hQ
  have hfe : ∀ ω, ivz σ ω → (∀ Q, Q < 2 ^ n → ∃ w, mx (p_bt (c_r σ 0) n pl) Q w ∧ ω 26 0 Q = nI w) → ∀ t, q_df t (c_who σ 0 1) = 0 → ω 26 0 (t ||| c_who σ 0 2) = nI (f t) := fun ω hzω hp2 t ht => by
    have hl := hin t ht
    have sub : q_df (t ||| c_who σ 0 2) (c_here σ 0) = 0 := q_df_0.2 fun i hi => by
      unfold c_here
      rw [Nat.testBit_or, Bool.or_eq_true] at hi ⊢
      rcases hi with q | q
      · exact Or.inl (q_sub_bit ht q)
      · exact Or.inr q
    obtain ⟨w, m2, e2⟩ := hp2 _ hl
    rw [hf, if_pos hl, e2, mx_here (hm _ hl).1 m2 sub]
  have ref : sX7_mean [am_r 20 0, .inl (nI v), .inl b] τ (fun w τ2 => w = some (.inr (.inl (lN (res b (sm f v (c_who σ 0 1) n (c_who σ 0 1 + 1)) (10 ^ q_pop (c_who σ 0 1) 9))))) ∧ Inv τ2) := by
    refine ⟨am_le rfl, fun Y hY => b_mx0 hY _ b ⟨fun q => absurd q c1, fun _ => ⟨fun q => absurd q c2, fun _ => ⟨fun q => absurd q c3, fun _ => ⟨fun q => absurd q c4, fun _ => ⟨am_le rfl, fun Z hZ => mean_ref hZ hv hz fun ω hzω hp => ?_⟩⟩⟩⟩⟩⟩
    exact mo_loop hZ h9 (iv_z hzω hv).2.1 hv10 hW hQ hf5 (fun _ => hfe ω hzω hp) (fun q => absurd rfl q) (b_mx29 hY _ _ _ ⟨rfl, n, pl, iv_z hzω hv⟩)
  clear hfe
  generalize hWe : c_who σ 0 1 = W at hW ref hH hin ⊢
  generalize hQe : c_who σ 0 2 = Q at hQ hf hH hin ⊢
  have loop := q_dn (W := fun t => X 78 [some (am_r 0 0), some (.inl (nI v)), some (.inl b), some (.inl (nI W)), some (.inl (nI Q)), some (.inr (.inl (lN (sm f v W n t)))), none, some (.inl (nI t))] [] τ) (n := W + 1) (fun t ht IH => ?_) ?_ 0 (Nat.zero_le _)
  · exact loop
  · refine b_me78 hX _ _ _ _ t _ ?_
    rw [nI_ltI (by omega) (by omega), q_dfz (by omega), q_or]
    have s120 : ∀ z, z = sm f v W n (t + 1) → X 120 [some (am_r 0 0), some (.inl (nI v)), some (.inl b), some (.inl (nI W)), some (.inl (nI Q)), some (.inr (.inl (lN z))), none, some (.inl (nI t))] [] τ := fun z e => by
      subst e
      refine b_me120 hX _ _ _ _ t _ ?_
      rw [show nI t + (1 : Int32) = nI (t + 1) from nI_add t 1]
      exact IH
    refine ⟨fun q => absurd q (by omega), fun _ => ⟨fun c => ?_, fun c => s120 _ (by rw [sm_s, if_neg c, Nat.add_zero])⟩⟩
    have hl := hin t c
    have h5 := hf5 t
    have ef : τ 10 0 (t ||| Q) = nI (f t) := by
      rw [hf, if_pos hl]
      exact (hm _ hl).2.1
    rw [nI_clamp (by omega), ef, nI_l (by omega)]
    refine ⟨q_in (by omega) (by decide), tX6_weight hv10 (by omega) (by omega) (b_me116 hX _ _ _ _ t _ _ _ ?_)⟩
    rw [lN_mul, lN_add, wt_pow c, wt_hi hW h9]
    refine s120 _ ?_
    rw [sm_s, if_pos c, Nat.mul_comm]
  · have hsm := sm_le (W := W) (f := f) hv10 h9 hf5 (W + 1)
    have hq := q_pop_le W 9
    refine b_me78 hX _ _ _ _ (W + 1) _ ⟨fun _ => ⟨by omega, b_me134 hX _ _ _ _ _ _ _ _ (tX6_power (b := 10) (by decide) (by omega) (b_me137 hX _ _ _ _ _ _ _ (tX6_inLowestTerms (by omega) p10_lt.1 p10_lt.2 (b_me141 hX _ _ _ _ _ _ _ ⟨_, rfl, ref⟩))))⟩, fun q => absurd (nI_lt (Nat.lt_succ_self W) (by omega)) q⟩
