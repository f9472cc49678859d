/-! pairs: cheap -/
set_option maxRecDepth 100000 in
set_option maxHeartbeats 400000 in
theorem tX0_bitOf {σ : am_M} {x : Nat} {w : Int32} {K : Option am_V → am_M → Prop} (h : ((cn (σ 5 x 0) w = true) → (vp_in w 7) ∧ (K (some (.inl ((1 : Int32) <<< ((σ 5 x w.toNatClampNeg) &&& 31)))) σ)) ∧ (¬ (cn (σ 5 x 0) w = true) → K (some (.inl (0 : Int32))) σ)) : sX0_bitOf [.inr (.inr (5, x)), .inl w] σ K := ⟨am_le rfl, fun X hX => am_run_ok emX0_bitOf hX [] 2000 (show (vp_in (0 : Int32) 7) ∧ (2 ≤ 2 ∧ 0 ≤ 8 ∧ sX0_counts [.inl (σ 5 x 0), .inl w] σ (fun vv tt => am_run eX0_bitOf lX0_bitOf (some .int) K X [] 1995 7 [some (.inr (.inr (5, x))), some (.inl w)] (vv.toList ++ []) tt)) from ⟨am_ci (by decide), ⟨am_le rfl, am_le rfl, uX0_counts (⟨fun q0 => (show (((1 : Int32) = (0 : Int32)) → _) ∧ (¬ ((1 : Int32) = (0 : Int32)) → (vp_in w 7) ∧ (K (some (.inl ((1 : Int32) <<< ((σ 5 x w.toNatClampNeg) &&& 31)))) σ)) from ⟨fun q => absurd q (by decide), fun _ => ⟨(h.1 q0).1, (h.1 q0).2⟩⟩), fun q0 => (show (((0 : Int32) = (0 : Int32)) → K (some (.inl (0 : Int32))) σ) ∧ (¬ ((0 : Int32) = (0 : Int32)) → _) from ⟨fun _ => (h.2 q0), fun q => absurd (by decide) q⟩)⟩)⟩⟩)⟩
set_option maxRecDepth 100000 in
set_option maxHeartbeats 400000 in
theorem b_cw0 {K : Option am_V → am_M → Prop} {X : Nat → am_L → List am_V → am_M → Prop} (hX : am_cl eX0_costToPart lX0_costToPart (some .int) K X) {σ : am_M} (S : Nat) (h : X 13 [some (.inr (.inr (3, 0))), some (.inl (nI S)), some (.inl (0 : Int32)), some (.inl (0 : Int32)), some (.inl (0 : Int32)), some (.inl (0 : Int32)), some (.inl (0 : Int32)), none, none, none, none] [] σ) : X 0 [some (.inr (.inr (3, 0))), some (.inl (nI S)), none, none, none, none, none, none, none, none, none] [] σ := am_run_ok emX0_costToPart hX [13] 400 (show X 13 [some (.inr (.inr (3, 0))), some (.inl (nI S)), some (.inl (0 : Int32)), some (.inl (0 : Int32)), some (.inl (0 : Int32)), some (.inl (0 : Int32)), some (.inl (0 : Int32)), none, none, none, none] [] σ from h)
set_option maxRecDepth 100000 in
set_option maxHeartbeats 400000 in
theorem b_cw13 {K : Option am_V → am_M → Prop} {X : Nat → am_L → List am_V → am_M → Prop} (hX : am_cl eX0_costToPart lX0_costToPart (some .int) K X) {σ : am_M} (S u v w t : Nat) (c : Int32) (h : (((σ 3 0 1) ≤ (nI t)) → K (some (.inl c)) σ) ∧ (¬ ((σ 3 0 1) ≤ (nI t)) → ((((((nI S)).toUInt32 >>> (((nI t)).toUInt32 &&& Int32.toUInt32 31)).toInt32 &&& (1 : Int32)) = (0 : Int32)) → X 132 [some (.inr (.inr (3, 0))), some (.inl (nI S)), some (.inl (nI u)), some (.inl (nI v)), some (.inl (nI w)), some (.inl c), some (.inl (nI t)), none, none, none, none] [] σ) ∧ (¬ (((((nI S)).toUInt32 >>> (((nI t)).toUInt32 &&& Int32.toUInt32 31)).toInt32 &&& (1 : Int32)) = (0 : Int32)) → (vp_in (nI t) 9) ∧ (sX0_bitOf [.inr (.inr (5, (9 * 0 + (nI t).toNatClampNeg))), .inl (2 : Int32)] σ (fun vv tt => X 46 [some (.inr (.inr (3, 0))), some (.inl (nI S)), some (.inl (nI u)), some (.inl (nI v)), some (.inl (nI w)), some (.inl c), some (.inl (nI t)), some (.inr (.inr (5, (9 * 0 + (nI t).toNatClampNeg)))), none, none, none] (vv.toList ++ []) tt))))) : X 13 [some (.inr (.inr (3, 0))), some (.inl (nI S)), some (.inl (nI u)), some (.inl (nI v)), some (.inl (nI w)), some (.inl c), some (.inl (nI t)), none, none, none, none] [] σ := am_run_ok emX0_costToPart hX [46, 132] 400 (show (((σ 3 0 1) ≤ (nI t)) → K (some (.inl c)) σ) ∧ (¬ ((σ 3 0 1) ≤ (nI t)) → 2 ≤ 2 ∧ 0 ≤ 8 ∧ sX6_isIn [.inl (nI t), .inl (nI S)] σ (fun vv tt => am_run eX0_costToPart lX0_costToPart (some .int) K X [46, 132] 393 28 [some (.inr (.inr (3, 0))), some (.inl (nI S)), some (.inl (nI u)), some (.inl (nI v)), some (.inl (nI w)), some (.inl c), some (.inl (nI t)), none, none, none, none] (vv.toList ++ []) tt)) from ⟨fun q0 => (h.1 q0), fun q0 => ⟨am_le rfl, am_le rfl, tX6_isIn (⟨fun q1 => (show (((0 : Int32) = (0 : Int32)) → X 132 [some (.inr (.inr (3, 0))), some (.inl (nI S)), some (.inl (nI u)), some (.inl (nI v)), some (.inl (nI w)), some (.inl c), some (.inl (nI t)), none, none, none, none] [] σ) ∧ (¬ ((0 : Int32) = (0 : Int32)) → _) from ⟨fun _ => ((h.2 q0).1 q1), fun q => absurd (by decide) q⟩), fun q1 => (show (((1 : Int32) = (0 : Int32)) → _) ∧ (¬ ((1 : Int32) = (0 : Int32)) → (vp_in (nI t) 9) ∧ (2 ≤ 2 ∧ 0 ≤ 8 ∧ sX0_bitOf [.inr (.inr (5, (9 * 0 + (nI t).toNatClampNeg))), .inl (2 : Int32)] σ (fun vv tt => X 46 [some (.inr (.inr (3, 0))), some (.inl (nI S)), some (.inl (nI u)), some (.inl (nI v)), some (.inl (nI w)), some (.inl c), some (.inl (nI t)), some (.inr (.inr (5, (9 * 0 + (nI t).toNatClampNeg)))), none, none, none] (vv.toList ++ []) tt))) from ⟨fun q => absurd q (by decide), fun _ => ⟨((h.2 q0).2 q1).1, ⟨am_le rfl, am_le rfl, ((h.2 q0).2 q1).2⟩⟩⟩)⟩)⟩⟩)
set_option maxRecDepth 100000 in
set_option maxHeartbeats 400000 in
theorem b_cw46 {K : Option am_V → am_M → Prop} {X : Nat → am_L → List am_V → am_M → Prop} (hX : am_cl eX0_costToPart lX0_costToPart (some .int) K X) {σ : am_M} (S u v w t x : Nat) (c : Int32) (h : ((((nI u) &&& (nI x)) = (0 : Int32)) → sX0_bitOf [.inr (.inr (5, (9 * 0 + t))), .inl (1 : Int32)] σ (fun vv tt => X 69 [some (.inr (.inr (3, 0))), some (.inl (nI S)), some (.inl ((nI u) ||| (nI x))), some (.inl (nI v)), some (.inl (nI w)), some (.inl c), some (.inl (nI t)), some (.inr (.inr (5, (9 * 0 + t)))), some (.inl (nI x)), none, none] (vv.toList ++ []) tt)) ∧ (¬ (((nI u) &&& (nI x)) = (0 : Int32)) → K (some (.inl (-4 : Int32))) σ)) : X 46 [some (.inr (.inr (3, 0))), some (.inl (nI S)), some (.inl (nI u)), some (.inl (nI v)), some (.inl (nI w)), some (.inl c), some (.inl (nI t)), some (.inr (.inr (5, (9 * 0 + t)))), none, none, none] [.inl (nI x)] σ := am_run_ok emX0_costToPart hX [69] 400 (show ((((nI u) &&& (nI x)) = (0 : Int32)) → 2 ≤ 2 ∧ 0 ≤ 8 ∧ sX0_bitOf [.inr (.inr (5, (9 * 0 + t))), .inl (1 : Int32)] σ (fun vv tt => X 69 [some (.inr (.inr (3, 0))), some (.inl (nI S)), some (.inl ((nI u) ||| (nI x))), some (.inl (nI v)), some (.inl (nI w)), some (.inl c), some (.inl (nI t)), some (.inr (.inr (5, (9 * 0 + t)))), some (.inl (nI x)), none, none] (vv.toList ++ []) tt)) ∧ (¬ (((nI u) &&& (nI x)) = (0 : Int32)) → K (some (.inl (-4 : Int32))) σ) from ⟨fun q0 => ⟨am_le rfl, am_le rfl, (h.1 q0)⟩, fun q0 => (h.2 q0)⟩)
set_option maxRecDepth 100000 in
set_option maxHeartbeats 400000 in
theorem b_cw69 {K : Option am_V → am_M → Prop} {X : Nat → am_L → List am_V → am_M → Prop} (hX : am_cl eX0_costToPart lX0_costToPart (some .int) K X) {σ : am_M} (S v w t x : Nat) (c u y : Int32) (h : ((((nI v) &&& (nI x)) = (0 : Int32)) → sX0_bitOf [.inr (.inr (5, (9 * 0 + t))), .inl (3 : Int32)] σ (fun vv tt => X 102 [some (.inr (.inr (3, 0))), some (.inl (nI S)), some (.inl u), some (.inl ((nI v) ||| (nI x))), some (.inl (nI w)), some (.inl (c + (0 : Int32))), some (.inl (nI t)), some (.inr (.inr (5, (9 * 0 + t)))), some (.inl y), some (.inl (nI x)), none] (vv.toList ++ []) tt)) ∧ (¬ (((nI v) &&& (nI x)) = (0 : Int32)) → sX0_bitOf [.inr (.inr (5, (9 * 0 + t))), .inl (3 : Int32)] σ (fun vv tt => X 102 [some (.inr (.inr (3, 0))), some (.inl (nI S)), some (.inl u), some (.inl ((nI v) ||| (nI x))), some (.inl (nI w)), some (.inl (c + (σ 3 0 3))), some (.inl (nI t)), some (.inr (.inr (5, (9 * 0 + t)))), some (.inl y), some (.inl (nI x)), none] (vv.toList ++ []) tt))) : X 69 [some (.inr (.inr (3, 0))), some (.inl (nI S)), some (.inl u), some (.inl (nI v)), some (.inl (nI w)), some (.inl c), some (.inl (nI t)), some (.inr (.inr (5, (9 * 0 + t)))), some (.inl y), none, none] [.inl (nI x)] σ := am_run_ok emX0_costToPart hX [102] 400 (show ((((nI v) &&& (nI x)) = (0 : Int32)) → 2 ≤ 2 ∧ 0 ≤ 8 ∧ sX0_bitOf [.inr (.inr (5, (9 * 0 + t))), .inl (3 : Int32)] σ (fun vv tt => X 102 [some (.inr (.inr (3, 0))), some (.inl (nI S)), some (.inl u), some (.inl ((nI v) ||| (nI x))), some (.inl (nI w)), some (.inl (c + (0 : Int32))), some (.inl (nI t)), some (.inr (.inr (5, (9 * 0 + t)))), some (.inl y), some (.inl (nI x)), none] (vv.toList ++ []) tt)) ∧ (¬ (((nI v) &&& (nI x)) = (0 : Int32)) → 2 ≤ 2 ∧ 0 ≤ 8 ∧ sX0_bitOf [.inr (.inr (5, (9 * 0 + t))), .inl (3 : Int32)] σ (fun vv tt => X 102 [some (.inr (.inr (3, 0))), some (.inl (nI S)), some (.inl u), some (.inl ((nI v) ||| (nI x))), some (.inl (nI w)), some (.inl (c + (σ 3 0 3))), some (.inl (nI t)), some (.inr (.inr (5, (9 * 0 + t)))), some (.inl y), some (.inl (nI x)), none] (vv.toList ++ []) tt)) from ⟨fun q0 => ⟨am_le rfl, am_le rfl, (h.1 q0)⟩, fun q0 => ⟨am_le rfl, am_le rfl, (h.2 q0)⟩⟩)
set_option maxRecDepth 100000 in
set_option maxHeartbeats 400000 in
theorem b_cw102 {K : Option am_V → am_M → Prop} {X : Nat → am_L → List am_V → am_M → Prop} (hX : am_cl eX0_costToPart lX0_costToPart (some .int) K X) {σ : am_M} (S w t x : Nat) (c u v y z : Int32) (h : ((((nI w) &&& (nI x)) = (0 : Int32)) → X 132 [some (.inr (.inr (3, 0))), some (.inl (nI S)), some (.inl u), some (.inl v), some (.inl ((nI w) ||| (nI x))), some (.inl (c + (0 : Int32))), some (.inl (nI t)), some (.inr (.inr (5, (9 * 0 + t)))), some (.inl y), some (.inl z), some (.inl (nI x))] [] σ) ∧ (¬ (((nI w) &&& (nI x)) = (0 : Int32)) → X 132 [some (.inr (.inr (3, 0))), some (.inl (nI S)), some (.inl u), some (.inl v), some (.inl ((nI w) ||| (nI x))), some (.inl (c + (σ 3 0 4))), some (.inl (nI t)), some (.inr (.inr (5, (9 * 0 + t)))), some (.inl y), some (.inl z), some (.inl (nI x))] [] σ)) : X 102 [some (.inr (.inr (3, 0))), some (.inl (nI S)), some (.inl u), some (.inl v), some (.inl (nI w)), some (.inl c), some (.inl (nI t)), some (.inr (.inr (5, (9 * 0 + t)))), some (.inl y), some (.inl z), none] [.inl (nI x)] σ := am_run_ok emX0_costToPart hX [132] 400 (show ((((nI w) &&& (nI x)) = (0 : Int32)) → X 132 [some (.inr (.inr (3, 0))), some (.inl (nI S)), some (.inl u), some (.inl v), some (.inl ((nI w) ||| (nI x))), some (.inl (c + (0 : Int32))), some (.inl (nI t)), some (.inr (.inr (5, (9 * 0 + t)))), some (.inl y), some (.inl z), some (.inl (nI x))] [] σ) ∧ (¬ (((nI w) &&& (nI x)) = (0 : Int32)) → X 132 [some (.inr (.inr (3, 0))), some (.inl (nI S)), some (.inl u), some (.inl v), some (.inl ((nI w) ||| (nI x))), some (.inl (c + (σ 3 0 4))), some (.inl (nI t)), some (.inr (.inr (5, (9 * 0 + t)))), some (.inl y), some (.inl z), some (.inl (nI x))] [] σ) from ⟨fun q0 => (h.1 q0), fun q0 => (h.2 q0)⟩)
set_option maxRecDepth 100000 in
set_option maxHeartbeats 400000 in
theorem b_cw132 {K : Option am_V → am_M → Prop} {X : Nat → am_L → List am_V → am_M → Prop} (hX : am_cl eX0_costToPart lX0_costToPart (some .int) K X) {σ : am_M} (S t : Nat) (u v w c : Int32) (h : X 13 [some (.inr (.inr (3, 0))), some (.inl (nI S)), some (.inl u), some (.inl v), some (.inl w), some (.inl c), some (.inl ((nI t) + (1 : Int32))), none, none, none, none] [] σ) : X 132 [some (.inr (.inr (3, 0))), some (.inl (nI S)), some (.inl u), some (.inl v), some (.inl w), some (.inl c), some (.inl (nI t)), none, none, none, none] [] σ := am_run_ok emX0_costToPart hX [13] 400 (show X 13 [some (.inr (.inr (3, 0))), some (.inl (nI S)), some (.inl u), some (.inl v), some (.inl w), some (.inl c), some (.inl ((nI t) + (1 : Int32))), none, none, none, none] [] σ from h)
set_option maxRecDepth 100000 in
set_option maxHeartbeats 400000 in
theorem b_ch0 {K : Option am_V → am_M → Prop} {X : Nat → am_L → List am_V → am_M → Prop} (hX : am_cl eX6_cheap lX6_cheap (some .int) K X) {σ : am_M} (a : Int32) (h : ((a < (0 : Int32)) → K (some (.inl (-1 : Int32))) σ) ∧ (¬ (a < (0 : Int32)) → (((1 : Int32) < a) → K (some (.inl (-1 : Int32))) σ) ∧ (¬ ((1 : Int32) < a) → (c_ok σ 0) ∧ (X 31 [some (.inr (.inr (0, 0))), some (.inl a), some (.inl ((nI (c_here σ 0)) ^^^ (-1 : Int32))), some (.inl (-4 : Int32)), some (.inl (-4 : Int32)), some (.inl (0 : Int32)), none] [] σ)))) : X 0 [some (.inr (.inr (0, 0))), some (.inl a), none, none, none, none, none] [] σ := am_run_ok emX6_cheap hX [31] 400 (show 3 ≤ 3 ∧ 0 ≤ 8 ∧ sX6_isWithin [.inl a, .inl (0 : Int32), .inl (1 : Int32)] σ (fun vv tt => am_run eX6_cheap lX6_cheap (some .int) K X [31] 396 6 [some (.inr (.inr (0, 0))), some (.inl a), none, none, none, none, none] (vv.toList ++ []) tt) from ⟨am_le rfl, am_le rfl, tX6_isWithin (⟨fun q0 => (show (((0 : Int32) = (0 : Int32)) → K (some (.inl (-1 : Int32))) σ) ∧ (¬ ((0 : Int32) = (0 : Int32)) → _) from ⟨fun _ => (h.1 q0), fun q => absurd (by decide) q⟩), fun q0 => ⟨fun q1 => (show (((0 : Int32) = (0 : Int32)) → K (some (.inl (-1 : Int32))) σ) ∧ (¬ ((0 : Int32) = (0 : Int32)) → _) from ⟨fun _ => ((h.2 q0).1 q1), fun q => absurd (by decide) q⟩), fun q1 => (show (((1 : Int32) = (0 : Int32)) → _) ∧ (¬ ((1 : Int32) = (0 : Int32)) → 1 ≤ 1 ∧ 0 ≤ 8 ∧ True ∧ sX0_here [.inr (.inr (3, 0))] σ (fun vv tt => am_run eX6_cheap lX6_cheap (some .int) K X [31] 392 18 [some (.inr (.inr (0, 0))), some (.inl a), none, none, none, none, none] (vv.toList ++ []) tt)) from ⟨fun q => absurd q (by decide), fun _ => ⟨am_le rfl, am_le rfl, trivial, uX0_here (⟨((h.2 q0).2 q1).1, (show X 31 [some (.inr (.inr (0, 0))), some (.inl a), some (.inl ((nI (c_here σ 0)) ^^^ (-1 : Int32))), some (.inl (-4 : Int32)), some (.inl (-4 : Int32)), some (.inl (0 : Int32)), none] [] σ from ((h.2 q0).2 q1).2)⟩)⟩⟩)⟩⟩)⟩)
set_option maxRecDepth 100000 in
set_option maxHeartbeats 400000 in
theorem b_ch31 {K : Option am_V → am_M → Prop} {X : Nat → am_L → List am_V → am_M → Prop} (hX : am_cl eX6_cheap lX6_cheap (some .int) K X) {σ : am_M} (a l w : Int32) (H S : Nat) (h : ((((1 : Int32) <<< ((σ 3 0 1) &&& 31)) ≤ (nI S)) → ((a = (0 : Int32)) → K (some (.inl l)) σ) ∧ (¬ (a = (0 : Int32)) → K (some (.inl w)) σ)) ∧ (¬ (((1 : Int32) <<< ((σ 3 0 1) &&& 31)) ≤ (nI S)) → ((((nI S) &&& ((nI H) ^^^ (-1 : Int32))) = (0 : Int32)) → (S < 512) ∧ ((((nI (q_pop S 9)) = (σ 3 0 2)) → sX0_costToPart [.inr (.inr (3, 0)), .inl (nI S)] σ (fun vv tt => X 74 [some (.inr (.inr (0, 0))), some (.inl a), some (.inl ((nI H) ^^^ (-1 : Int32))), some (.inl l), some (.inl w), some (.inl (nI S)), none] (vv.toList ++ []) tt)) ∧ (¬ ((nI (q_pop S 9)) = (σ 3 0 2)) → X 102 [some (.inr (.inr (0, 0))), some (.inl a), some (.inl ((nI H) ^^^ (-1 : Int32))), some (.inl l), some (.inl w), some (.inl (nI S)), none] [] σ))) ∧ (¬ (((nI S) &&& ((nI H) ^^^ (-1 : Int32))) = (0 : Int32)) → X 102 [some (.inr (.inr (0, 0))), some (.inl a), some (.inl ((nI H) ^^^ (-1 : Int32))), some (.inl l), some (.inl w), some (.inl (nI S)), none] [] σ))) : X 31 [some (.inr (.inr (0, 0))), some (.inl a), some (.inl ((nI H) ^^^ (-1 : Int32))), some (.inl l), some (.inl w), some (.inl (nI S)), none] [] σ := am_run_ok emX6_cheap hX [74, 102] 400 (show 1 ≤ 2 ∧ 1 ≤ 8 ∧ True ∧ sX0_pools [.inr (.inr (3, 0))] σ (fun vv tt => am_run eX6_cheap lX6_cheap (some .int) K X [74, 102] 396 40 [some (.inr (.inr (0, 0))), some (.inl a), some (.inl ((nI H) ^^^ (-1 : Int32))), some (.inl l), some (.inl w), some (.inl (nI S)), none] (vv.toList ++ [.inl (nI S)]) tt) from ⟨am_le rfl, am_le rfl, trivial, tX0_pools ((show ((((1 : Int32) <<< ((σ 3 0 1) &&& 31)) ≤ (nI S)) → ((a = (0 : Int32)) → K (some (.inl l)) σ) ∧ (¬ (a = (0 : Int32)) → K (some (.inl w)) σ)) ∧ (¬ (((1 : Int32) <<< ((σ 3 0 1) &&& 31)) ≤ (nI S)) → ((((nI S) &&& ((nI H) ^^^ (-1 : Int32))) = (0 : Int32)) → 1 ≤ 1 ∧ 0 ≤ 8 ∧ sJ6_bitCount [.inl (nI S)] σ (fun vv tt => am_run eX6_cheap lX6_cheap (some .int) K X [74, 102] 389 55 [some (.inr (.inr (0, 0))), some (.inl a), some (.inl ((nI H) ^^^ (-1 : Int32))), some (.inl l), some (.inl w), some (.inl (nI S)), none] (vv.toList ++ []) tt)) ∧ (¬ (((nI S) &&& ((nI H) ^^^ (-1 : Int32))) = (0 : Int32)) → X 102 [some (.inr (.inr (0, 0))), some (.inl a), some (.inl ((nI H) ^^^ (-1 : Int32))), some (.inl l), some (.inl w), some (.inl (nI S)), none] [] σ)) from ⟨fun q0 => ⟨fun q1 => ((h.1 q0).1 q1), fun q1 => ((h.1 q0).2 q1)⟩, fun q0 => ⟨fun q1 => ⟨am_le rfl, am_le rfl, wJ6_bitCount (⟨((h.2 q0).1 q1).1, (show (((nI (q_pop S 9)) = (σ 3 0 2)) → 2 ≤ 2 ∧ 0 ≤ 8 ∧ True ∧ sX0_costToPart [.inr (.inr (3, 0)), .inl (nI S)] σ (fun vv tt => X 74 [some (.inr (.inr (0, 0))), some (.inl a), some (.inl ((nI H) ^^^ (-1 : Int32))), some (.inl l), some (.inl w), some (.inl (nI S)), none] (vv.toList ++ []) tt)) ∧ (¬ ((nI (q_pop S 9)) = (σ 3 0 2)) → X 102 [some (.inr (.inr (0, 0))), some (.inl a), some (.inl ((nI H) ^^^ (-1 : Int32))), some (.inl l), some (.inl w), some (.inl (nI S)), none] [] σ) from ⟨fun q2 => ⟨am_le rfl, am_le rfl, trivial, (((h.2 q0).1 q1).2.1 q2)⟩, fun q2 => (((h.2 q0).1 q1).2.2 q2)⟩)⟩)⟩, fun q1 => ((h.2 q0).2 q1)⟩⟩))⟩)
set_option maxRecDepth 100000 in
set_option maxHeartbeats 400000 in
theorem b_ch74 {K : Option am_V → am_M → Prop} {X : Nat → am_L → List am_V → am_M → Prop} (hX : am_cl eX6_cheap lX6_cheap (some .int) K X) {σ : am_M} (a l w c : Int32) (H S : Nat) (h : ((c = (-4 : Int32)) → X 102 [some (.inr (.inr (0, 0))), some (.inl a), some (.inl ((nI H) ^^^ (-1 : Int32))), some (.inl l), some (.inl w), some (.inl (nI S)), some (.inl c)] [] σ) ∧ (¬ (c = (-4 : Int32)) → ((l = (-4 : Int32)) → X 102 [some (.inr (.inr (0, 0))), some (.inl a), some (.inl ((nI H) ^^^ (-1 : Int32))), some (.inl c), some (.inl (nI S)), some (.inl (nI S)), some (.inl c)] [] σ) ∧ (¬ (l = (-4 : Int32)) → ((l ≤ c) → X 102 [some (.inr (.inr (0, 0))), some (.inl a), some (.inl ((nI H) ^^^ (-1 : Int32))), some (.inl l), some (.inl w), some (.inl (nI S)), some (.inl c)] [] σ) ∧ (¬ (l ≤ c) → X 102 [some (.inr (.inr (0, 0))), some (.inl a), some (.inl ((nI H) ^^^ (-1 : Int32))), some (.inl c), some (.inl (nI S)), some (.inl (nI S)), some (.inl c)] [] σ)))) : X 74 [some (.inr (.inr (0, 0))), some (.inl a), some (.inl ((nI H) ^^^ (-1 : Int32))), some (.inl l), some (.inl w), some (.inl (nI S)), none] [.inl c] σ := am_run_ok emX6_cheap hX [102] 400 (show ((c = (-4 : Int32)) → X 102 [some (.inr (.inr (0, 0))), some (.inl a), some (.inl ((nI H) ^^^ (-1 : Int32))), some (.inl l), some (.inl w), some (.inl (nI S)), some (.inl c)] [] σ) ∧ (¬ (c = (-4 : Int32)) → ((l = (-4 : Int32)) → X 102 [some (.inr (.inr (0, 0))), some (.inl a), some (.inl ((nI H) ^^^ (-1 : Int32))), some (.inl c), some (.inl (nI S)), some (.inl (nI S)), some (.inl c)] [] σ) ∧ (¬ (l = (-4 : Int32)) → ((l ≤ c) → X 102 [some (.inr (.inr (0, 0))), some (.inl a), some (.inl ((nI H) ^^^ (-1 : Int32))), some (.inl l), some (.inl w), some (.inl (nI S)), some (.inl c)] [] σ) ∧ (¬ (l ≤ c) → X 102 [some (.inr (.inr (0, 0))), some (.inl a), some (.inl ((nI H) ^^^ (-1 : Int32))), some (.inl c), some (.inl (nI S)), some (.inl (nI S)), some (.inl c)] [] σ))) from ⟨fun q0 => (h.1 q0), fun q0 => ⟨fun q1 => ((h.2 q0).1 q1), fun q1 => ⟨fun q2 => (((h.2 q0).2 q1).1 q2), fun q2 => (((h.2 q0).2 q1).2 q2)⟩⟩⟩)
set_option maxRecDepth 100000 in
set_option maxHeartbeats 400000 in
theorem b_ch102 {K : Option am_V → am_M → Prop} {X : Nat → am_L → List am_V → am_M → Prop} (hX : am_cl eX6_cheap lX6_cheap (some .int) K X) {σ : am_M} (a l w : Int32) (H S : Nat) (h : X 31 [some (.inr (.inr (0, 0))), some (.inl a), some (.inl ((nI H) ^^^ (-1 : Int32))), some (.inl l), some (.inl w), some (.inl ((nI S) + (1 : Int32))), none] [] σ) : X 102 [some (.inr (.inr (0, 0))), some (.inl a), some (.inl ((nI H) ^^^ (-1 : Int32))), some (.inl l), some (.inl w), some (.inl (nI S)), none] [] σ := am_run_ok emX6_cheap hX [31] 400 (show X 31 [some (.inr (.inr (0, 0))), some (.inl a), some (.inl ((nI H) ^^^ (-1 : Int32))), some (.inl l), some (.inl w), some (.inl ((nI S) + (1 : Int32))), none] [] σ from h)
set_option maxRecDepth 100000 in
set_option maxHeartbeats 400000 in
theorem b_cg0 {K : Option am_V → am_M → Prop} {X : Nat → am_L → List am_V → am_M → Prop} (hX : am_cl eX7_changes lX7_changes (some .int) K X) {σ : am_M} (S j : Nat) (h : X 8 [some (.inr (.inr (20, 0))), some (.inl (nI S)), some (.inl (nI j)), some (.inl (0 : Int32)), some (.inl (0 : Int32)), some (.inl (0 : Int32))] [] σ) : X 0 [some (.inr (.inr (20, 0))), some (.inl (nI S)), some (.inl (nI j)), none, none, none] [] σ := am_run_ok emX7_changes hX [8] 400 (show X 8 [some (.inr (.inr (20, 0))), some (.inl (nI S)), some (.inl (nI j)), some (.inl (0 : Int32)), some (.inl (0 : Int32)), some (.inl (0 : Int32))] [] σ from h)
set_option maxRecDepth 100000 in
set_option maxHeartbeats 400000 in
theorem b_cg8 {K : Option am_V → am_M → Prop} {X : Nat → am_L → List am_V → am_M → Prop} (hX : am_cl eX7_changes lX7_changes (some .int) K X) {σ : am_M} (S j v m t : Nat) (h : (((σ 20 0 1) ≤ (nI t)) → (v < 512) ∧ (K (some (.inl ((nI m) - (nI (q_pop v 9))))) σ)) ∧ (¬ ((σ 20 0 1) ≤ (nI t)) → (((((nI S) >>> ((nI t) &&& 31)) &&& (1 : Int32)) = (1 : Int32)) → (vp_in ((7 : Int32) * (nI t)) 340) ∧ (((nI j) = 1 ∨ ((nI j) = 2 ∨ (nI j) = 3)) ∧ (((cn (σ 21 0 ((7 : Int32) * (nI t)).toNatClampNeg) (nI j) = true) → (vp_in (((7 : Int32) * (nI t)) + (nI j)) 340) ∧ (X 64 [some (.inr (.inr (20, 0))), some (.inl (nI S)), some (.inl (nI j)), some (.inl ((nI v) ||| ((1 : Int32) <<< ((σ 21 0 (((7 : Int32) * (nI t)) + (nI j)).toNatClampNeg) &&& 31)))), some (.inl ((nI m) + (1 : Int32))), some (.inl (nI t))] [] σ)) ∧ (¬ (cn (σ 21 0 ((7 : Int32) * (nI t)).toNatClampNeg) (nI j) = true) → X 64 [some (.inr (.inr (20, 0))), some (.inl (nI S)), some (.inl (nI j)), some (.inl (nI v)), some (.inl (nI m)), some (.inl (nI t))] [] σ)))) ∧ (¬ ((((nI S) >>> ((nI t) &&& 31)) &&& (1 : Int32)) = (1 : Int32)) → X 64 [some (.inr (.inr (20, 0))), some (.inl (nI S)), some (.inl (nI j)), some (.inl (nI v)), some (.inl (nI m)), some (.inl (nI t))] [] σ))) : X 8 [some (.inr (.inr (20, 0))), some (.inl (nI S)), some (.inl (nI j)), some (.inl (nI v)), some (.inl (nI m)), some (.inl (nI t))] [] σ := am_run_ok emX7_changes hX [64] 400 (show (((σ 20 0 1) ≤ (nI t)) → 1 ≤ 2 ∧ 1 ≤ 8 ∧ sX7_bitsOf [.inl (nI v)] σ (fun vv tt => am_run eX7_changes lX7_changes (some .int) K X [64] 393 76 [some (.inr (.inr (20, 0))), some (.inl (nI S)), some (.inl (nI j)), some (.inl (nI v)), some (.inl (nI m)), some (.inl (nI t))] (vv.toList ++ [.inl (nI m)]) tt)) ∧ (¬ ((σ 20 0 1) ≤ (nI t)) → (((((nI S) >>> ((nI t) &&& 31)) &&& (1 : Int32)) = (1 : Int32)) → (vp_in ((7 : Int32) * (nI t)) 340) ∧ (2 ≤ 2 ∧ 0 ≤ 8 ∧ sX7_counts [.inl (σ 21 0 ((7 : Int32) * (nI t)).toNatClampNeg), .inl (nI j)] σ (fun vv tt => am_run eX7_changes lX7_changes (some .int) K X [64] 381 41 [some (.inr (.inr (20, 0))), some (.inl (nI S)), some (.inl (nI j)), some (.inl (nI v)), some (.inl (nI m)), some (.inl (nI t))] (vv.toList ++ []) tt))) ∧ (¬ ((((nI S) >>> ((nI t) &&& 31)) &&& (1 : Int32)) = (1 : Int32)) → X 64 [some (.inr (.inr (20, 0))), some (.inl (nI S)), some (.inl (nI j)), some (.inl (nI v)), some (.inl (nI m)), some (.inl (nI t))] [] σ)) from ⟨fun q0 => ⟨am_le rfl, am_le rfl, uX7_bitsOf (⟨(h.1 q0).1, (show K (some (.inl ((nI m) - (nI (q_pop v 9))))) σ from (h.1 q0).2)⟩)⟩, fun q0 => ⟨fun q1 => ⟨((h.2 q0).1 q1).1, ⟨am_le rfl, am_le rfl, uX7_counts (⟨((h.2 q0).1 q1).2.1, ⟨fun q2 => (show (((1 : Int32) = (0 : Int32)) → _) ∧ (¬ ((1 : Int32) = (0 : Int32)) → (vp_in (((7 : Int32) * (nI t)) + (nI j)) 340) ∧ (X 64 [some (.inr (.inr (20, 0))), some (.inl (nI S)), some (.inl (nI j)), some (.inl ((nI v) ||| ((1 : Int32) <<< ((σ 21 0 (((7 : Int32) * (nI t)) + (nI j)).toNatClampNeg) &&& 31)))), some (.inl ((nI m) + (1 : Int32))), some (.inl (nI t))] [] σ)) from ⟨fun q => absurd q (by decide), fun _ => ⟨(((h.2 q0).1 q1).2.2.1 q2).1, (((h.2 q0).1 q1).2.2.1 q2).2⟩⟩), fun q2 => (show (((0 : Int32) = (0 : Int32)) → X 64 [some (.inr (.inr (20, 0))), some (.inl (nI S)), some (.inl (nI j)), some (.inl (nI v)), some (.inl (nI m)), some (.inl (nI t))] [] σ) ∧ (¬ ((0 : Int32) = (0 : Int32)) → _) from ⟨fun _ => (((h.2 q0).1 q1).2.2.2 q2), fun q => absurd (by decide) q⟩)⟩⟩)⟩⟩, fun q1 => ((h.2 q0).2 q1)⟩⟩)
set_option maxRecDepth 100000 in
set_option maxHeartbeats 400000 in
theorem b_cg64 {K : Option am_V → am_M → Prop} {X : Nat → am_L → List am_V → am_M → Prop} (hX : am_cl eX7_changes lX7_changes (some .int) K X) {σ : am_M} (S j t : Nat) (v m : Int32) (h : X 8 [some (.inr (.inr (20, 0))), some (.inl (nI S)), some (.inl (nI j)), some (.inl v), some (.inl m), some (.inl ((nI t) + (1 : Int32)))] [] σ) : X 64 [some (.inr (.inr (20, 0))), some (.inl (nI S)), some (.inl (nI j)), some (.inl v), some (.inl m), some (.inl (nI t))] [] σ := am_run_ok emX7_changes hX [8] 400 (show X 8 [some (.inr (.inr (20, 0))), some (.inl (nI S)), some (.inl (nI j)), some (.inl v), some (.inl m), some (.inl ((nI t) + (1 : Int32)))] [] σ from h)
set_option maxRecDepth 100000 in
set_option maxHeartbeats 400000 in
theorem b_ci0 {K : Option am_V → am_M → Prop} {X : Nat → am_L → List am_V → am_M → Prop} (hX : am_cl eX7_cheap lX7_cheap (some .int) K X) {σ : am_M} (a : Int32) (h : ((a < (0 : Int32)) → K (some (.inl (-1 : Int32))) σ) ∧ (¬ (a < (0 : Int32)) → (((1 : Int32) < a) → K (some (.inl (-1 : Int32))) σ) ∧ (¬ ((1 : Int32) < a) → (m_ok σ) ∧ (X 28 [some (.inr (.inr (20, 0))), some (.inl a), some (.inl (nI (m_here σ))), some (.inl (1000 : Int32)), some (.inl (-4 : Int32)), some (.inl (0 : Int32)), none] [] σ)))) : X 0 [some (.inr (.inr (20, 0))), some (.inl a), none, none, none, none, none] [] σ := am_run_ok emX7_cheap hX [28] 400 (show 3 ≤ 3 ∧ 0 ≤ 8 ∧ sX7_in [.inr (.inl (a).toInt64), .inr (.inl (0 : Int64)), .inr (.inl (1 : Int64))] σ (fun vv tt => am_run eX7_cheap lX7_cheap (some .int) K X [28] 395 7 [some (.inr (.inr (20, 0))), some (.inl a), none, none, none, none, none] (vv.toList ++ []) tt) from ⟨am_le rfl, am_le rfl, uX7_in (v := a) (a := (0 : Int32)) (b := (1 : Int32)) (⟨fun q0 => (show (((0 : Int32) = (0 : Int32)) → K (some (.inl (-1 : Int32))) σ) ∧ (¬ ((0 : Int32) = (0 : Int32)) → _) from ⟨fun _ => (h.1 q0), fun q => absurd (by decide) q⟩), fun q0 => ⟨fun q1 => (show (((0 : Int32) = (0 : Int32)) → K (some (.inl (-1 : Int32))) σ) ∧ (¬ ((0 : Int32) = (0 : Int32)) → _) from ⟨fun _ => ((h.2 q0).1 q1), fun q => absurd (by decide) q⟩), fun q1 => (show (((1 : Int32) = (0 : Int32)) → _) ∧ (¬ ((1 : Int32) = (0 : Int32)) → 1 ≤ 1 ∧ 0 ≤ 8 ∧ True ∧ sX7_hereNow [.inr (.inr (20, 0))] σ (fun vv tt => am_run eX7_cheap lX7_cheap (some .int) K X [28] 392 16 [some (.inr (.inr (20, 0))), some (.inl a), none, none, none, none, none] (vv.toList ++ []) tt)) from ⟨fun q => absurd q (by decide), fun _ => ⟨am_le rfl, am_le rfl, trivial, uX7_hereNow (⟨((h.2 q0).2 q1).1, (show X 28 [some (.inr (.inr (20, 0))), some (.inl a), some (.inl (nI (m_here σ))), some (.inl (1000 : Int32)), some (.inl (-4 : Int32)), some (.inl (0 : Int32)), none] [] σ from ((h.2 q0).2 q1).2)⟩)⟩⟩)⟩⟩)⟩)
set_option maxRecDepth 100000 in
set_option maxHeartbeats 400000 in
theorem b_ci28 {K : Option am_V → am_M → Prop} {X : Nat → am_L → List am_V → am_M → Prop} (hX : am_cl eX7_cheap lX7_cheap (some .int) K X) {σ : am_M} (a l w : Int32) (H S : Nat) (h : (((nI H) < (nI S)) → ((w = (-4 : Int32)) → K (some (.inl w)) σ) ∧ (¬ (w = (-4 : Int32)) → ((a = (1 : Int32)) → K (some (.inl w)) σ) ∧ (¬ (a = (1 : Int32)) → K (some (.inl l)) σ))) ∧ (¬ ((nI H) < (nI S)) → ((((nI S) &&& ((nI H) ^^^ (-1 : Int32))) = (0 : Int32)) → (S < 512) ∧ ((((nI (q_pop S 9)) = ((σ 21 0 63) + (3 : Int32))) → sX7_changes [.inr (.inr (20, 0)), .inl (nI S), .inl (2 : Int32)] σ (fun vv tt => X 63 [some (.inr (.inr (20, 0))), some (.inl a), some (.inl (nI H)), some (.inl l), some (.inl w), some (.inl (nI S)), none] (vv.toList ++ []) tt)) ∧ (¬ ((nI (q_pop S 9)) = ((σ 21 0 63) + (3 : Int32))) → X 131 [some (.inr (.inr (20, 0))), some (.inl a), some (.inl (nI H)), some (.inl l), some (.inl w), some (.inl (nI S)), none] [] σ))) ∧ (¬ (((nI S) &&& ((nI H) ^^^ (-1 : Int32))) = (0 : Int32)) → X 131 [some (.inr (.inr (20, 0))), some (.inl a), some (.inl (nI H)), some (.inl l), some (.inl w), some (.inl (nI S)), none] [] σ))) : X 28 [some (.inr (.inr (20, 0))), some (.inl a), some (.inl (nI H)), some (.inl l), some (.inl w), some (.inl (nI S)), none] [] σ := am_run_ok emX7_cheap hX [63, 131] 400 (show (((nI H) < (nI S)) → ((w = (-4 : Int32)) → K (some (.inl w)) σ) ∧ (¬ (w = (-4 : Int32)) → ((a = (1 : Int32)) → K (some (.inl w)) σ) ∧ (¬ (a = (1 : Int32)) → K (some (.inl l)) σ))) ∧ (¬ ((nI H) < (nI S)) → ((((nI S) &&& ((nI H) ^^^ (-1 : Int32))) = (0 : Int32)) → 1 ≤ 1 ∧ 0 ≤ 8 ∧ sX7_bitsOf [.inl (nI S)] σ (fun vv tt => am_run eX7_cheap lX7_cheap (some .int) K X [63, 131] 389 48 [some (.inr (.inr (20, 0))), some (.inl a), some (.inl (nI H)), some (.inl l), some (.inl w), some (.inl (nI S)), none] (vv.toList ++ []) tt)) ∧ (¬ (((nI S) &&& ((nI H) ^^^ (-1 : Int32))) = (0 : Int32)) → X 131 [some (.inr (.inr (20, 0))), some (.inl a), some (.inl (nI H)), some (.inl l), some (.inl w), some (.inl (nI S)), none] [] σ)) from ⟨fun q0 => ⟨fun q1 => ((h.1 q0).1 q1), fun q1 => ⟨fun q2 => (((h.1 q0).2 q1).1 q2), fun q2 => (((h.1 q0).2 q1).2 q2)⟩⟩, fun q0 => ⟨fun q1 => ⟨am_le rfl, am_le rfl, uX7_bitsOf (⟨((h.2 q0).1 q1).1, (show 2 ≤ 3 ∧ 1 ≤ 8 ∧ True ∧ sX7_seatsOn [.inr (.inr (20, 0)), .inl (0 : Int32)] σ (fun vv tt => am_run eX7_cheap lX7_cheap (some .int) K X [63, 131] 386 53 [some (.inr (.inr (20, 0))), some (.inl a), some (.inl (nI H)), some (.inl l), some (.inl w), some (.inl (nI S)), none] (vv.toList ++ [.inl (nI (q_pop S 9))]) tt) from ⟨am_le rfl, am_le rfl, trivial, tX7_seatsOn (⟨am_ci (by decide), (show (((nI (q_pop S 9)) = ((σ 21 0 63) + (3 : Int32))) → 3 ≤ 3 ∧ 0 ≤ 8 ∧ True ∧ sX7_changes [.inr (.inr (20, 0)), .inl (nI S), .inl (2 : Int32)] σ (fun vv tt => X 63 [some (.inr (.inr (20, 0))), some (.inl a), some (.inl (nI H)), some (.inl l), some (.inl w), some (.inl (nI S)), none] (vv.toList ++ []) tt)) ∧ (¬ ((nI (q_pop S 9)) = ((σ 21 0 63) + (3 : Int32))) → X 131 [some (.inr (.inr (20, 0))), some (.inl a), some (.inl (nI H)), some (.inl l), some (.inl w), some (.inl (nI S)), none] [] σ) from ⟨fun q2 => ⟨am_le rfl, am_le rfl, trivial, (((h.2 q0).1 q1).2.1 q2)⟩, fun q2 => (((h.2 q0).1 q1).2.2 q2)⟩)⟩)⟩)⟩)⟩, fun q1 => ((h.2 q0).2 q1)⟩⟩)
set_option maxRecDepth 100000 in
set_option maxHeartbeats 400000 in
theorem b_ci63 {K : Option am_V → am_M → Prop} {X : Nat → am_L → List am_V → am_M → Prop} (hX : am_cl eX7_cheap lX7_cheap (some .int) K X) {σ : am_M} (a l w c : Int32) (H S : Nat) (h : ((c = (0 : Int32)) → sX7_changes [.inr (.inr (20, 0)), .inl (nI S), .inl (1 : Int32)] σ (fun vv tt => X 73 [some (.inr (.inr (20, 0))), some (.inl a), some (.inl (nI H)), some (.inl l), some (.inl w), some (.inl (nI S)), none] (vv.toList ++ []) tt)) ∧ (¬ (c = (0 : Int32)) → X 131 [some (.inr (.inr (20, 0))), some (.inl a), some (.inl (nI H)), some (.inl l), some (.inl w), some (.inl (nI S)), none] [] σ)) : X 63 [some (.inr (.inr (20, 0))), some (.inl a), some (.inl (nI H)), some (.inl l), some (.inl w), some (.inl (nI S)), none] [.inl c] σ := am_run_ok emX7_cheap hX [73, 131] 400 (show ((c = (0 : Int32)) → 3 ≤ 3 ∧ 0 ≤ 8 ∧ True ∧ sX7_changes [.inr (.inr (20, 0)), .inl (nI S), .inl (1 : Int32)] σ (fun vv tt => X 73 [some (.inr (.inr (20, 0))), some (.inl a), some (.inl (nI H)), some (.inl l), some (.inl w), some (.inl (nI S)), none] (vv.toList ++ []) tt)) ∧ (¬ (c = (0 : Int32)) → X 131 [some (.inr (.inr (20, 0))), some (.inl a), some (.inl (nI H)), some (.inl l), some (.inl w), some (.inl (nI S)), none] [] σ) from ⟨fun q0 => ⟨am_le rfl, am_le rfl, trivial, (h.1 q0)⟩, fun q0 => (h.2 q0)⟩)
set_option maxRecDepth 100000 in
set_option maxHeartbeats 400000 in
theorem b_ci73 {K : Option am_V → am_M → Prop} {X : Nat → am_L → List am_V → am_M → Prop} (hX : am_cl eX7_cheap lX7_cheap (some .int) K X) {σ : am_M} (a l w c : Int32) (H S : Nat) (h : sX7_changes [.inr (.inr (20, 0)), .inl (nI S), .inl (3 : Int32)] σ (fun vv tt => X 90 [some (.inr (.inr (20, 0))), some (.inl a), some (.inl (nI H)), some (.inl l), some (.inl w), some (.inl (nI S)), none] (vv.toList ++ [.inl (c * ((σ 21 0 64) + (1 : Int32)))]) tt)) : X 73 [some (.inr (.inr (20, 0))), some (.inl a), some (.inl (nI H)), some (.inl l), some (.inl w), some (.inl (nI S)), none] [.inl c] σ := am_run_ok emX7_cheap hX [90] 400 (show (vp_in (64 : Int32) 340) ∧ (3 ≤ 4 ∧ 1 ≤ 8 ∧ True ∧ sX7_changes [.inr (.inr (20, 0)), .inl (nI S), .inl (3 : Int32)] σ (fun vv tt => X 90 [some (.inr (.inr (20, 0))), some (.inl a), some (.inl (nI H)), some (.inl l), some (.inl w), some (.inl (nI S)), none] (vv.toList ++ [.inl (c * ((σ 21 0 64) + (1 : Int32)))]) tt)) from ⟨am_ci (by decide), ⟨am_le rfl, am_le rfl, trivial, h⟩⟩)
set_option maxRecDepth 100000 in
set_option maxHeartbeats 400000 in
theorem b_ci90 {K : Option am_V → am_M → Prop} {X : Nat → am_L → List am_V → am_M → Prop} (hX : am_cl eX7_cheap lX7_cheap (some .int) K X) {σ : am_M} (a l w c d : Int32) (H S : Nat) (h : ((l ≤ (d + (c * ((σ 21 0 65) + (1 : Int32))))) → ((l ≤ (d + (c * ((σ 21 0 65) + (1 : Int32))))) → X 131 [some (.inr (.inr (20, 0))), some (.inl a), some (.inl (nI H)), some (.inl l), some (.inl w), some (.inl (nI S)), some (.inl (d + (c * ((σ 21 0 65) + (1 : Int32)))))] [] σ) ∧ (¬ (l ≤ (d + (c * ((σ 21 0 65) + (1 : Int32))))) → X 131 [some (.inr (.inr (20, 0))), some (.inl a), some (.inl (nI H)), some (.inl (d + (c * ((σ 21 0 65) + (1 : Int32))))), some (.inl w), some (.inl (nI S)), some (.inl (d + (c * ((σ 21 0 65) + (1 : Int32)))))] [] σ)) ∧ (¬ (l ≤ (d + (c * ((σ 21 0 65) + (1 : Int32))))) → ((l ≤ (d + (c * ((σ 21 0 65) + (1 : Int32))))) → X 131 [some (.inr (.inr (20, 0))), some (.inl a), some (.inl (nI H)), some (.inl l), some (.inl (nI S)), some (.inl (nI S)), some (.inl (d + (c * ((σ 21 0 65) + (1 : Int32)))))] [] σ) ∧ (¬ (l ≤ (d + (c * ((σ 21 0 65) + (1 : Int32))))) → X 131 [some (.inr (.inr (20, 0))), some (.inl a), some (.inl (nI H)), some (.inl (d + (c * ((σ 21 0 65) + (1 : Int32))))), some (.inl (nI S)), some (.inl (nI S)), some (.inl (d + (c * ((σ 21 0 65) + (1 : Int32)))))] [] σ))) : X 90 [some (.inr (.inr (20, 0))), some (.inl a), some (.inl (nI H)), some (.inl l), some (.inl w), some (.inl (nI S)), none] [.inl c, .inl d] σ := am_run_ok emX7_cheap hX [131] 400 (show (vp_in (65 : Int32) 340) ∧ (((l ≤ (d + (c * ((σ 21 0 65) + (1 : Int32))))) → ((l ≤ (d + (c * ((σ 21 0 65) + (1 : Int32))))) → X 131 [some (.inr (.inr (20, 0))), some (.inl a), some (.inl (nI H)), some (.inl l), some (.inl w), some (.inl (nI S)), some (.inl (d + (c * ((σ 21 0 65) + (1 : Int32)))))] [] σ) ∧ (¬ (l ≤ (d + (c * ((σ 21 0 65) + (1 : Int32))))) → X 131 [some (.inr (.inr (20, 0))), some (.inl a), some (.inl (nI H)), some (.inl (d + (c * ((σ 21 0 65) + (1 : Int32))))), some (.inl w), some (.inl (nI S)), some (.inl (d + (c * ((σ 21 0 65) + (1 : Int32)))))] [] σ)) ∧ (¬ (l ≤ (d + (c * ((σ 21 0 65) + (1 : Int32))))) → ((l ≤ (d + (c * ((σ 21 0 65) + (1 : Int32))))) → X 131 [some (.inr (.inr (20, 0))), some (.inl a), some (.inl (nI H)), some (.inl l), some (.inl (nI S)), some (.inl (nI S)), some (.inl (d + (c * ((σ 21 0 65) + (1 : Int32)))))] [] σ) ∧ (¬ (l ≤ (d + (c * ((σ 21 0 65) + (1 : Int32))))) → X 131 [some (.inr (.inr (20, 0))), some (.inl a), some (.inl (nI H)), some (.inl (d + (c * ((σ 21 0 65) + (1 : Int32))))), some (.inl (nI S)), some (.inl (nI S)), some (.inl (d + (c * ((σ 21 0 65) + (1 : Int32)))))] [] σ))) from ⟨am_ci (by decide), ⟨fun q0 => ⟨fun q1 => ((h.1 q0).1 q1), fun q1 => ((h.1 q0).2 q1)⟩, fun q0 => ⟨fun q1 => ((h.2 q0).1 q1), fun q1 => ((h.2 q0).2 q1)⟩⟩⟩)
set_option maxRecDepth 100000 in
set_option maxHeartbeats 400000 in
theorem b_ci131 {K : Option am_V → am_M → Prop} {X : Nat → am_L → List am_V → am_M → Prop} (hX : am_cl eX7_cheap lX7_cheap (some .int) K X) {σ : am_M} (a l w : Int32) (H S : Nat) (h : X 28 [some (.inr (.inr (20, 0))), some (.inl a), some (.inl (nI H)), some (.inl l), some (.inl w), some (.inl ((nI S) + (1 : Int32))), none] [] σ) : X 131 [some (.inr (.inr (20, 0))), some (.inl a), some (.inl (nI H)), some (.inl l), some (.inl w), some (.inl (nI S)), none] [] σ := am_run_ok emX7_cheap hX [28] 400 (show X 28 [some (.inr (.inr (20, 0))), some (.inl a), some (.inl (nI H)), some (.inl l), some (.inl w), some (.inl ((nI S) + (1 : Int32))), none] [] σ from h)
def vx (r : Rw) (S j m : Nat) : Nat := if S.testBit m && cn (r m 0) (nI j) then 2 ^ (r m j).toNatClampNeg else 0
def vs (r : Rw) (S j : Nat) : Nat → Nat
  | 0 => 0
  | m + 1 => vs r S j m ||| vx r S j m
def dp (r : Rw) (S j : Nat) : Nat → Nat
  | 0 => 0
  | m + 1 => dp r S j m + if vs r S j m &&& vx r S j m = 0 then 0 else 1
def mn (r : Rw) (S j : Nat) : Nat → Nat
  | 0 => 0
  | m + 1 => mn r S j m + if S.testBit m && cn (r m 0) (nI j) then 1 else 0
theorem vx_512 {r : Rw} {S j m : Nat} (h : q_lim (r m j) 5) : vx r S j m < 512 := by
  unfold vx
  split
  · exact Nat.lt_of_le_of_lt (Nat.pow_le_pow_right (n := 2) (by decide) h.2) (by decide)
  · decide
theorem vs_512 {r : Rw} {S j n : Nat} (h : ∀ p, p < n → q_lim (r p j) 5) : ∀ m, m ≤ n → vs r S j m < 512
  | 0, _ => (show 0 < 512 by decide)
  | m + 1, hm => Nat.or_lt_two_pow (n := 9) (vs_512 h m (by omega)) (vx_512 (h m (by omega)))
theorem dp_le {r : Rw} {S j : Nat} : ∀ m, dp r S j m ≤ m
  | 0 => Nat.le_refl _
  | m + 1 => by
    have := dp_le (r := r) (S := S) (j := j) m
    unfold dp
    split <;> omega
theorem mn_le {r : Rw} {S j : Nat} : ∀ m, mn r S j m ≤ m
  | 0 => Nat.le_refl _
  | m + 1 => by
    have := mn_le (r := r) (S := S) (j := j) m
    unfold mn
    split <;> omega
theorem dp_mono {r : Rw} {S j i : Nat} : ∀ {m : Nat}, i ≤ m → dp r S j i ≤ dp r S j m
  | 0, h => by rw [show i = 0 by omega]; exact Nat.le_refl _
  | m + 1, h => by
    by_cases c : i = m + 1
    · rw [c]
      exact Nat.le_refl _
    · have := dp_mono (r := r) (S := S) (j := j) (i := i) (m := m) (by omega)
      show _ ≤ dp r S j m + _
      omega
theorem dp_mn {r : Rw} {S j n : Nat} (h : ∀ p, p < n → q_lim (r p j) 5) : ∀ m, m ≤ n → dp r S j m + q_pop (vs r S j m) 9 = mn r S j m
  | 0, _ => by
    show 0 + q_pop 0 9 = 0
    rw [q_pop_0]
  | m + 1, hm => by
    have ih := dp_mn (S := S) h m (by omega)
    have hl := (h m (by omega)).2
    show (dp r S j m + if vs r S j m &&& vx r S j m = 0 then 0 else 1) + q_pop (vs r S j m ||| vx r S j m) 9 = mn r S j m + if S.testBit m && cn (r m 0) (nI j) then 1 else 0
    by_cases c : (S.testBit m && cn (r m 0) (nI j)) = true
    · have e : vx r S j m = 2 ^ (r m j).toNatClampNeg := by
        unfold vx
        rw [if_pos c]
      rw [if_pos c, e]
      generalize hv : (r m j).toNatClampNeg = v at hl
      by_cases d : (vs r S j m).testBit v = true
      · have e2 : vs r S j m ||| 2 ^ v = vs r S j m := by
          apply Nat.eq_of_testBit_eq
          intro i
          rw [Nat.testBit_or, Nat.testBit_two_pow]
          by_cases g : v = i
          · subst g
            rw [d]
            rfl
          · simp [g]
        rw [e2, if_neg (fun q => by rw [q_a2.1 q] at d; exact absurd d (by decide))]
        omega
      · have d' : (vs r S j m).testBit v = false := by simpa using d
        rw [if_pos (q_a2.2 d'), q_pop_ins (S := vs r S j m) (T := vs r S j m ||| 2 ^ v) (p := v) d' (fun i => by rw [Nat.testBit_or, Nat.testBit_two_pow]; simp [eq_comm]) (m := 9) (by omega)]
        omega
    · have e : vx r S j m = 0 := by
        unfold vx
        rw [if_neg c]
      rw [if_neg c, e, Nat.and_zero, Nat.or_zero, if_pos rfl]
      exact ih
theorem vx_cg {r r' : Rw} {S j m : Nat} (h0 : r m 0 = r' m 0) (hj : r m j = r' m j) : vx r S j m = vx r' S j m := by
  unfold vx
  rw [h0, hj]
theorem vs_cg {r r' : Rw} {S j n : Nat} (h : ∀ p, p < n → r p 0 = r' p 0 ∧ r p j = r' p j) : ∀ m, m ≤ n → vs r S j m = vs r' S j m
  | 0, _ => rfl
  | m + 1, hm => by
    show vs r S j m ||| vx r S j m = vs r' S j m ||| vx r' S j m
    rw [vs_cg h m (by omega), vx_cg (h m (by omega)).1 (h m (by omega)).2]
theorem dp_cg {r r' : Rw} {S j n : Nat} (h : ∀ p, p < n → r p 0 = r' p 0 ∧ r p j = r' p j) : ∀ m, m ≤ n → dp r S j m = dp r' S j m
  | 0, _ => rfl
  | m + 1, hm => by
    show (dp r S j m + if vs r S j m &&& vx r S j m = 0 then 0 else 1) = (dp r' S j m + if vs r' S j m &&& vx r' S j m = 0 then 0 else 1)
    rw [dp_cg h m (by omega), vs_cg h m (by omega), vx_cg (h m (by omega)).1 (h m (by omega)).2]
theorem uX0_bitOf {σ : am_M} {S i j : Nat} {K : am_K} (hS : S.testBit i = true) (hj : j < 7) (hl : q_lim (c_r σ 0 i j) 5) (h : K (some (.inl (nI (vx (c_r σ 0) S j i)))) σ) : sX0_bitOf [am_r 5 (9 * 0 + i), .inl (nI j)] σ K := by
  refine tX0_bitOf ?_
  rw [nI_clamp (by omega)]
  obtain ⟨e, l⟩ := hl
  unfold vx at h
  rw [hS] at h
  refine ⟨fun c => ⟨q_in hj (by decide), ?_⟩, fun c => ?_⟩
  · have c' : cn (c_r σ 0 i 0) (nI j) = true := c
    rw [c'] at h
    have : σ 5 (9 * 0 + i) j = nI (c_r σ 0 i j).toNatClampNeg := e
    rw [this, q_one _ (by omega)]
    exact h
  · have c' : ¬ cn (c_r σ 0 i 0) (nI j) = true := c
    rw [Bool.eq_false_iff.mpr c'] at h
    exact h
theorem q_az {a b : Nat} (h : a < 512) : nI a &&& nI b = (0 : Int32) ↔ a &&& b = 0 := by
  rw [q_and]
  exact q_z (Nat.lt_of_le_of_lt Nat.and_le_left h)
theorem tX0_costToPart {σ : am_M} {n S tc lc : Nat} {K : am_K} (ho : σ 3 0 1 = nI n) (h9 : n ≤ 9) (hS : S < 2 ^ n) (hr : ∀ p j, p < n → j < 4 → q_lim (c_r σ 0 p j) 5) (htc : σ 3 0 3 = nI tc) (hlc : σ 3 0 4 = nI lc) (h : (dp (c_r σ 0) S 2 n = 0 → K (some (.inl (nI (dp (c_r σ 0) S 1 n * tc + dp (c_r σ 0) S 3 n * lc)))) σ) ∧ (¬ dp (c_r σ 0) S 2 n = 0 → K (some (.inl (-4 : Int32))) σ)) : sX0_costToPart [am_r 3 0, .inl (nI S)] σ K := by
  have h2 : 2 ^ n ≤ 512 := Nat.pow_le_pow_right (n := 2) (by decide) h9
  refine ⟨am_le rfl, fun X hX => b_cw0 hX _ ?_⟩
  have loop := q_dn (W := fun i => dp (c_r σ 0) S 2 i = 0 → X 13 [some (am_r 3 0), some (.inl (nI S)), some (.inl (nI (vs (c_r σ 0) S 2 i))), some (.inl (nI (vs (c_r σ 0) S 1 i))), some (.inl (nI (vs (c_r σ 0) S 3 i))), some (.inl (nI (dp (c_r σ 0) S 1 i * tc + dp (c_r σ 0) S 3 i * lc))), some (.inl (nI i)), none, none, none, none] [] σ) (n := n) (fun i hi IH h0 => ?_) (fun h0 => ?_) 0 (Nat.zero_le _) rfl
  · have e : dp (c_r σ 0) S 1 0 * tc + dp (c_r σ 0) S 3 0 * lc = 0 := by
      show 0 * tc + 0 * lc = 0
      omega
    rw [e] at loop
    exact loop
  · refine b_cw13 hX _ _ _ _ _ _ ?_
    rw [ho, nI_leI (by omega) (by omega), q_bitu (by omega) (by omega), q_ite0, nI_clamp (by omega)]
    have r1 := fun j (hj : j < 4) p (hp : p < n) => hr p j hp hj
    have l2 := vs_512 (S := S) (r1 2 (by decide)) i (by omega)
    have l1 := vs_512 (S := S) (r1 1 (by decide)) i (by omega)
    have l3 := vs_512 (S := S) (r1 3 (by decide)) i (by omega)
    refine ⟨fun q => absurd q (by omega), fun _ => ⟨fun c => ?_, fun c => ⟨q_in (by omega) (by decide), ?_⟩⟩⟩
    · have z : ∀ j, vx (c_r σ 0) S j i = 0 := fun j => by
        unfold vx
        rw [c]
        rfl
      have zv : ∀ j, vs (c_r σ 0) S j (i + 1) = vs (c_r σ 0) S j i := fun j => by
        show vs (c_r σ 0) S j i ||| vx (c_r σ 0) S j i = _
        rw [z, Nat.or_zero]
      have zd : ∀ j, dp (c_r σ 0) S j (i + 1) = dp (c_r σ 0) S j i := fun j => by
        show dp (c_r σ 0) S j i + (if vs (c_r σ 0) S j i &&& vx (c_r σ 0) S j i = 0 then 0 else 1) = _
        rw [z, Nat.and_zero, if_pos rfl]
        rfl
      refine b_cw132 hX _ _ _ _ _ _ ?_
      rw [zv, zv, zv, zd, zd, zd] at IH
      rw [show nI i + (1 : Int32) = nI (i + 1) from nI_add i 1]
      exact IH h0
    · have sb : S.testBit i = true := by
        cases q : S.testBit i
        · exact absurd q c
        · rfl
      refine uX0_bitOf (j := 2) sb (by decide) (hr i 2 hi (by decide)) (b_cw46 hX _ _ _ _ _ _ _ ?_)
      rw [q_az l2, q_or]
      have dpe : ∀ j, dp (c_r σ 0) S j (i + 1) = dp (c_r σ 0) S j i + if vs (c_r σ 0) S j i &&& vx (c_r σ 0) S j i = 0 then 0 else 1 := fun _ => rfl
      refine ⟨fun c2 => uX0_bitOf (j := 1) sb (by decide) (hr i 1 hi (by decide)) (b_cw69 hX _ _ _ _ _ _ _ _ ?_), fun c2 => h.2 fun z => ?_⟩
      · have d2 : dp (c_r σ 0) S 2 (i + 1) = 0 := by
          rw [dpe, if_pos c2, h0]
        have fin : ∀ (c' : Int32), c' = nI (dp (c_r σ 0) S 1 (i + 1) * tc + dp (c_r σ 0) S 3 i * lc) → sX0_bitOf [am_r 5 (9 * 0 + i), .inl (nI 3)] σ (fun vv tt => X 102 [some (am_r 3 0), some (.inl (nI S)), some (.inl (nI (vs (c_r σ 0) S 2 i ||| vx (c_r σ 0) S 2 i))), some (.inl (nI (vs (c_r σ 0) S 1 i ||| vx (c_r σ 0) S 1 i))), some (.inl (nI (vs (c_r σ 0) S 3 i))), some (.inl c'), some (.inl (nI i)), some (am_r 5 (9 * 0 + i)), some (.inl (nI (vx (c_r σ 0) S 2 i))), some (.inl (nI (vx (c_r σ 0) S 1 i))), none] (vv.toList ++ []) tt) := by
          intro c' ec
          subst ec
          refine uX0_bitOf (j := 3) sb (by decide) (hr i 3 hi (by decide)) (b_cw102 hX _ _ _ _ _ _ _ _ _ ?_)
          rw [q_az l3, q_or, hlc]
          have out : ∀ c'' : Int32, c'' = nI (dp (c_r σ 0) S 1 (i + 1) * tc + dp (c_r σ 0) S 3 (i + 1) * lc) → X 132 [some (am_r 3 0), some (.inl (nI S)), some (.inl (nI (vs (c_r σ 0) S 2 i ||| vx (c_r σ 0) S 2 i))), some (.inl (nI (vs (c_r σ 0) S 1 i ||| vx (c_r σ 0) S 1 i))), some (.inl (nI (vs (c_r σ 0) S 3 i ||| vx (c_r σ 0) S 3 i))), some (.inl c''), some (.inl (nI i)), some (am_r 5 (9 * 0 + i)), some (.inl (nI (vx (c_r σ 0) S 2 i))), some (.inl (nI (vx (c_r σ 0) S 1 i))), some (.inl (nI (vx (c_r σ 0) S 3 i)))] [] σ := by
            intro c'' ec
            refine am_fo hX (ls := [some (am_r 3 0), some (.inl (nI S)), some (.inl (nI (vs (c_r σ 0) S 2 i ||| vx (c_r σ 0) S 2 i))), some (.inl (nI (vs (c_r σ 0) S 1 i ||| vx (c_r σ 0) S 1 i))), some (.inl (nI (vs (c_r σ 0) S 3 i ||| vx (c_r σ 0) S 3 i))), some (.inl c''), some (.inl (nI i)), none, none, none, none]) ⟨rfl, rfl, rfl, rfl, rfl, rfl, rfl, trivial⟩ (b_cw132 hX _ _ _ _ _ _ ?_)
            rw [ec, show nI i + (1 : Int32) = nI (i + 1) from nI_add i 1]
            exact IH d2
          refine ⟨fun c3 => out _ ?_, fun c3 => out _ ?_⟩
          · rw [dpe 3, if_pos c3, Int32.add_zero]
            rfl
          · rw [dpe 3, if_neg c3, nI_add]
            congr 1
            rw [Nat.add_mul, Nat.one_mul]
            omega
        rw [q_az l1, q_or, htc]
        refine ⟨fun c3 => fin _ ?_, fun c3 => fin _ ?_⟩
        · rw [dpe 1, if_pos c3, Int32.add_zero]
          rfl
        · rw [dpe 1, if_neg c3, nI_add]
          congr 1
          rw [Nat.add_mul, Nat.one_mul]
          omega
      · have : dp (c_r σ 0) S 2 (i + 1) ≤ dp (c_r σ 0) S 2 n := dp_mono hi
        rw [dpe, if_neg c2] at this
        omega
  · refine b_cw13 hX _ _ _ _ _ _ ⟨fun _ => h.1 h0, fun q => absurd (by rw [ho]; exact nI_le (Nat.le_refl _) (by omega)) q⟩
theorem tX7_changes {τ : am_M} {n S j : Nat} {r : Rw} {K : am_K} (ho : τ 20 0 1 = nI n) (h9 : n ≤ 9) (hS : S < 2 ^ n) (hj : 1 ≤ j ∧ j ≤ 3) (hm : ∀ p i, p < n → i < 4 → m_r τ 0 p i = r p i) (hr : ∀ p, p < n → q_lim (r p j) 5) (h : K (some (.inl (nI (dp r S j n)))) τ) : sX7_changes [am_r 20 0, .inl (nI S), .inl (nI j)] τ K := by
  have h2 : 2 ^ n ≤ 512 := Nat.pow_le_pow_right (n := 2) (by decide) h9
  refine ⟨am_le rfl, fun X hX => b_cg0 hX _ _ ?_⟩
  have hj' : nI j = 1 ∨ (nI j = 2 ∨ nI j = 3) := by
    obtain ⟨j1, j3⟩ := hj
    have : j = 1 ∨ j = 2 ∨ j = 3 := by omega
    rcases this with e | e | e
    · rw [e]; exact Or.inl rfl
    · rw [e]; exact Or.inr (Or.inl rfl)
    · rw [e]; exact Or.inr (Or.inr rfl)
  have loop := q_dn (W := fun i => X 8 [some (am_r 20 0), some (.inl (nI S)), some (.inl (nI j)), some (.inl (nI (vs r S j i))), some (.inl (nI (mn r S j i))), some (.inl (nI i))] [] τ) (n := n) (fun i hi IH => ?_) ?_ 0 (Nat.zero_le _)
  · exact loop
  · refine b_cg8 hX _ _ _ _ _ ?_
    have e0 : τ 21 0 (7 * i) = r i 0 := by
      rw [← hm i 0 hi (by decide)]
      unfold m_r
      rw [Nat.zero_add, Nat.add_zero]
    have ej : τ 21 0 (7 * i + j) = r i j := by
      rw [← hm i j hi (by omega)]
      unfold m_r
      rw [Nat.zero_add]
    obtain ⟨el, ll⟩ := hr i hi
    rw [ho, nI_leI (by omega) (by omega), q_bitv (by omega) (by omega), q_ite1, show (7 : Int32) * nI i = nI (7 * i) from pk_mul 7 i, nI_add, nI_clamp (by omega), nI_clamp (by omega), e0, ej, el, q_one _ (by omega), q_or, show nI (mn r S j i) + (1 : Int32) = nI (mn r S j i + 1) from nI_add _ 1]
    have no : ¬ (S.testBit i && cn (r i 0) (nI j)) = true → X 64 [some (am_r 20 0), some (.inl (nI S)), some (.inl (nI j)), some (.inl (nI (vs r S j i))), some (.inl (nI (mn r S j i))), some (.inl (nI i))] [] τ := fun c => by
      refine b_cg64 hX _ _ _ _ _ ?_
      have z : vx r S j i = 0 := by
        unfold vx
        rw [if_neg c]
      have zv : vs r S j (i + 1) = vs r S j i := by
        show vs r S j i ||| vx r S j i = _
        rw [z, Nat.or_zero]
      have zm : mn r S j (i + 1) = mn r S j i := by
        show mn r S j i + (if (S.testBit i && cn (r i 0) (nI j)) then 1 else 0) = _
        rw [if_neg c]
        rfl
      rw [zv, zm] at IH
      rw [show nI i + (1 : Int32) = nI (i + 1) from nI_add i 1]
      exact IH
    refine ⟨fun q => absurd q (by omega), fun _ => ⟨fun c => ⟨q_in (by omega) (by decide), hj', fun c2 => ⟨q_in (by omega) (by decide), b_cg64 hX _ _ _ _ _ ?_⟩, fun c2 => no (by rw [c, Bool.true_and]; exact c2)⟩, fun c => no (by rw [Bool.eq_false_iff.mpr c]; simp)⟩⟩
    have z : vx r S j i = 2 ^ (r i j).toNatClampNeg := by
      unfold vx
      rw [c, c2]
      rfl
    have zv : vs r S j (i + 1) = vs r S j i ||| 2 ^ (r i j).toNatClampNeg := by
      show vs r S j i ||| vx r S j i = _
      rw [z]
    have zm : mn r S j (i + 1) = mn r S j i + 1 := by
      show mn r S j i + (if (S.testBit i && cn (r i 0) (nI j)) then 1 else 0) = _
      rw [c, c2]
      rfl
    rw [zv, zm] at IH
    rw [show nI i + (1 : Int32) = nI (i + 1) from nI_add i 1]
    exact IH
  · have e := dp_mn (S := S) hr n (Nat.le_refl _)
    refine b_cg8 hX _ _ _ _ _ ⟨fun _ => ⟨vs_512 hr n (Nat.le_refl _), ?_⟩, fun q => absurd (by rw [ho]; exact nI_le (Nat.le_refl _) (by omega)) q⟩
    rw [pk_sub (by omega), ← e, Nat.add_sub_cancel]
    exact h
def ch (good : Nat → Option Nat) : Nat → Option (Nat × Nat)
  | 0 => none
  | s + 1 => match good s with
    | none => ch good s
    | some c => match ch good s with
      | none => some (c, s)
      | some (c', s') => if c < c' then some (c, s) else some (c', s')
def ch_l (d : Int32) : Option (Nat × Nat) → Int32
  | none => d
  | some (c, _) => nI c
def ch_w : Option (Nat × Nat) → Int32
  | none => -4
  | some (_, s) => nI s
theorem ch_cg {f g : Nat → Option Nat} : ∀ {n : Nat}, (∀ s, s < n → f s = g s) → ch f n = ch g n
  | 0, _ => rfl
  | n + 1, h => by
    unfold ch
    rw [h n (by omega), ch_cg (fun s hs => h s (by omega))]
theorem ch_cut {f : Nat → Option Nat} {m : Nat} (h : ∀ s, m ≤ s → f s = none) : ∀ {n : Nat}, m ≤ n → ch f n = ch f m
  | 0, hn => by rw [show m = 0 by omega]
  | n + 1, hn => by
    by_cases c : m = n + 1
    · rw [c]
    · rw [← ch_cut h (show m ≤ n by omega)]
      show (match f n with | none => ch f n | some c => _) = _
      rw [h n (by omega)]
theorem ch_le {f : Nat → Option Nat} {b : Nat} (h : ∀ s c, f s = some c → c ≤ b) : ∀ {n c s : Nat}, ch f n = some (c, s) → c ≤ b ∧ s < n
  | 0, c, s, e => by
    unfold ch at e
    exact absurd e (by simp)
  | n + 1, c, s, e => by
    unfold ch at e
    split at e
    · have := ch_le h e
      exact ⟨this.1, by omega⟩
    · rename_i c0 e0
      split at e
      · injection e with e
        injection e with e1 e2
        subst e1 e2
        exact ⟨h _ _ e0, by omega⟩
      · rename_i c1 s1 e1
        have := ch_le h e1
        split at e
        · injection e with e
          injection e with e1 e2
          subst e1 e2
          exact ⟨h _ _ e0, by omega⟩
        · injection e with e
          injection e with e1 e2
          subst e1 e2
          exact ⟨this.1, by omega⟩
def cgood (r : Rw) (n pl H tc lc S : Nat) : Option Nat := if q_df S H = 0 ∧ q_pop S 9 = pl ∧ dp r S 2 n = 0 then some (dp r S 1 n * tc + dp r S 3 n * lc) else none
theorem cgood_le {r : Rw} {n pl H tc lc : Nat} (h9 : n ≤ 9) (ht : tc ≤ 9) (hl : lc ≤ 9) : ∀ s c, cgood r n pl H tc lc s = some c → c ≤ 162 := by
  intro s c e
  unfold cgood at e
  split at e
  · injection e with e
    have d1 := dp_le (r := r) (S := s) (j := 1) n
    have d3 := dp_le (r := r) (S := s) (j := 3) n
    have m1 : dp r s 1 n * tc ≤ 9 * 9 := Nat.mul_le_mul (by omega) ht
    have m3 : dp r s 3 n * lc ≤ 9 * 9 := Nat.mul_le_mul (by omega) hl
    omega
  · exact absurd e (by simp)
theorem ch_s {f : Nat → Option Nat} {i c : Nat} (e : f i = some c) : ch f (i + 1) = match ch f i with | none => some (c, i) | some (c', s') => if c < c' then some (c, i) else some (c', s') := by
  show (match f i with | none => ch f i | some c => _) = _
  rw [e]
theorem ch_n {f : Nat → Option Nat} {i : Nat} (e : f i = none) : ch f (i + 1) = ch f i := by
  show (match f i with | none => ch f i | some c => _) = _
  rw [e]
theorem q_m4 {n : Nat} (h : n < 2 ^ 31) : ¬ nI n = (-4 : Int32) := fun e => by
  have h1 := congrArg Int32.toInt e
  rw [nI_toInt h] at h1
  have h3 : (-4 : Int32).toInt = -4 := by decide
  rw [h3] at h1
  omega
theorem tX6_cheapL {X : Nat → am_L → List am_V → am_M → Prop} {K : am_K} (hX : am_cl eX6_cheap lX6_cheap (some .int) K X) {σ : am_M} {n pl tc lc : Nat} {a : Int32} (hv : iv σ n pl) (htc : σ 3 0 3 = nI tc) (hlc : σ 3 0 4 = nI lc) (ht : tc ≤ 9) (hl : lc ≤ 9) (h : K (some (.inl (if a = 0 then ch_l (-4) (ch (cgood (c_r σ 0) n pl (c_here σ 0) tc lc) (2 ^ n)) else ch_w (ch (cgood (c_r σ 0) n pl (c_here σ 0) tc lc) (2 ^ n))))) σ) : X 31 [some (am_r 0 0), some (.inl a), some (.inl (nI (c_here σ 0) ^^^ (-1 : Int32))), some (.inl (-4 : Int32)), some (.inl (-4 : Int32)), some (.inl (0 : Int32)), none] [] σ := by
  obtain ⟨h9, a1, a2, -⟩ := id hv
  obtain ⟨b1, b2, b3, b4, b5, b6, b7, b8, b9, b10, b11⟩ := id a2
  obtain ⟨k1, k2, k3, k4, k5, k6, k7, k8, k9, k10, k11, k12, k13⟩ := iv_q hv ivz_refl
  have h2 : 2 ^ n ≤ 512 := Nat.pow_le_pow_right (n := 2) (by decide) h9
  have lim : ∀ p j, p < n → j < 4 → q_lim (c_r σ 0 p j) 5 := fun p j hp hj => by
    obtain ⟨e, l⟩ := b10 p j hp (by omega)
    refine ⟨e, Nat.le_trans l ?_⟩
    have : j = 0 ∨ j = 1 ∨ j = 2 ∨ j = 3 := by omega
    rcases this with q | q | q | q <;> rw [q] <;> decide
  have gl := cgood_le (r := c_r σ 0) (pl := pl) (H := c_here σ 0) h9 ht hl
  have loop := q_dn (W := fun i => X 31 [some (am_r 0 0), some (.inl a), some (.inl (nI (c_here σ 0) ^^^ (-1 : Int32))), some (.inl (ch_l (-4) (ch (cgood (c_r σ 0) n pl (c_here σ 0) tc lc) i))), some (.inl (ch_w (ch (cgood (c_r σ 0) n pl (c_here σ 0) tc lc) i))), some (.inl (nI i)), none] [] σ) (n := 2 ^ n) (fun i hi IH => ?_) ?_ 0 (Nat.zero_le _)
  · exact loop
  · refine b_ch31 hX _ _ _ _ _ ?_
    have hq := q_pop_le i 9
    rw [b1, q_one n (by omega), nI_leI (by omega) (by omega), q_dfz (by omega), b3, nI_eq (by omega) (by omega)]
    have next : ∀ l w : Int32, l = ch_l (-4) (ch (cgood (c_r σ 0) n pl (c_here σ 0) tc lc) (i + 1)) → w = ch_w (ch (cgood (c_r σ 0) n pl (c_here σ 0) tc lc) (i + 1)) → X 102 [some (am_r 0 0), some (.inl a), some (.inl (nI (c_here σ 0) ^^^ (-1 : Int32))), some (.inl l), some (.inl w), some (.inl (nI i)), none] [] σ := fun l w el ew => by
      refine b_ch102 hX _ _ _ _ _ ?_
      rw [el, ew, show nI i + (1 : Int32) = nI (i + 1) from nI_add i 1]
      exact IH
    have skip : cgood (c_r σ 0) n pl (c_here σ 0) tc lc i = none → X 102 [some (am_r 0 0), some (.inl a), some (.inl (nI (c_here σ 0) ^^^ (-1 : Int32))), some (.inl (ch_l (-4) (ch (cgood (c_r σ 0) n pl (c_here σ 0) tc lc) i))), some (.inl (ch_w (ch (cgood (c_r σ 0) n pl (c_here σ 0) tc lc) i))), some (.inl (nI i)), none] [] σ := fun e => next _ _ (by rw [ch_n e]) (by rw [ch_n e])
    have fg : ∀ (l w c : Int32), X 102 [some (am_r 0 0), some (.inl a), some (.inl (nI (c_here σ 0) ^^^ (-1 : Int32))), some (.inl l), some (.inl w), some (.inl (nI i)), none] [] σ → X 102 [some (am_r 0 0), some (.inl a), some (.inl (nI (c_here σ 0) ^^^ (-1 : Int32))), some (.inl l), some (.inl w), some (.inl (nI i)), some (.inl c)] [] σ := fun l w c x => am_fo hX (ls := [some (am_r 0 0), some (.inl a), some (.inl (nI (c_here σ 0) ^^^ (-1 : Int32))), some (.inl l), some (.inl w), some (.inl (nI i)), none]) ⟨rfl, rfl, rfl, rfl, rfl, rfl, trivial⟩ x
    refine ⟨fun q => absurd q (by omega), fun _ => ⟨fun c1 => ⟨by omega, fun c2 => ?_, fun c2 => skip ?_⟩, fun c1 => skip ?_⟩⟩
    · refine tX0_costToPart b1 h9 hi lim htc hlc ⟨fun c3 => ?_, fun c3 => ?_⟩
      · have eg : cgood (c_r σ 0) n pl (c_here σ 0) tc lc i = some (dp (c_r σ 0) i 1 n * tc + dp (c_r σ 0) i 3 n * lc) := by
          unfold cgood
          rw [if_pos ⟨c1, c2, c3⟩]
        have gle := gl _ _ eg
        generalize dp (c_r σ 0) i 1 n * tc + dp (c_r σ 0) i 3 n * lc = c at eg gle ⊢
        refine b_ch74 hX _ _ _ _ _ _ ⟨fun q => absurd q (q_m4 (by omega)), fun _ => ?_⟩
        have es := ch_s eg
        rcases hc : ch (cgood (c_r σ 0) n pl (c_here σ 0) tc lc) i with _ | ⟨c', s'⟩
        · rw [hc] at es
          exact ⟨fun _ => fg _ _ _ (next _ _ (by rw [es]; rfl) (by rw [es]; rfl)), fun q => absurd rfl q⟩
        · rw [hc] at es
          have cl := ch_le gl hc
          show ((nI c' = -4) → _) ∧ (¬ (nI c' = -4) → ((nI c' ≤ nI c) → _) ∧ (¬ (nI c' ≤ nI c) → _))
          rw [nI_leI (by omega) (by omega)]
          refine ⟨fun q => absurd q (q_m4 (by omega)), fun _ => ⟨fun q => fg _ _ _ (next _ _ ?_ ?_), fun q => fg _ _ _ (next _ _ ?_ ?_)⟩⟩
          · rw [es]
            show _ = ch_l (-4) (if c < c' then _ else _)
            rw [if_neg (by omega)]
          · rw [es]
            show _ = ch_w (if c < c' then _ else _)
            rw [if_neg (by omega)]
          · rw [es]
            show _ = ch_l (-4) (if c < c' then _ else _)
            rw [if_pos (by omega)]
            rfl
          · rw [es]
            show _ = ch_w (if c < c' then _ else _)
            rw [if_pos (by omega)]
            rfl
      · exact b_ch74 hX _ _ _ _ _ _ ⟨fun _ => fg _ _ _ (skip (by unfold cgood; rw [if_neg (fun z => c3 z.2.2)])), fun q => absurd rfl q⟩
    · unfold cgood
      rw [if_neg (fun z => c2 z.2.1)]
    · unfold cgood
      rw [if_neg (fun z => c1 z.1)]
  · refine b_ch31 hX _ _ _ _ _ ⟨fun _ => ⟨fun q => ?_, fun q => ?_⟩, fun q => absurd (by rw [b1, q_one n (by omega)]; exact nI_le (Nat.le_refl _) (by omega)) q⟩
    · rw [if_pos q] at h
      exact h
    · rw [if_neg q] at h
      exact h
theorem tX7_cheapL {X : Nat → am_L → List am_V → am_M → Prop} {K : am_K} (hX : am_cl eX7_cheap lX7_cheap (some .int) K X) {σ : am_M} {n pl tc lc : Nat} {a : Int32} (hv : iv σ n pl) (htc : σ 21 0 64 + 1 = nI tc) (hlc : σ 21 0 65 + 1 = nI lc) (ht : tc ≤ 9) (hl : lc ≤ 9) (h : K (some (.inl (if ch_w (ch (cgood (c_r σ 0) n pl (c_here σ 0) tc lc) (c_here σ 0 + 1)) = -4 then ch_w (ch (cgood (c_r σ 0) n pl (c_here σ 0) tc lc) (c_here σ 0 + 1)) else if a = 1 then ch_w (ch (cgood (c_r σ 0) n pl (c_here σ 0) tc lc) (c_here σ 0 + 1)) else ch_l 1000 (ch (cgood (c_r σ 0) n pl (c_here σ 0) tc lc) (c_here σ 0 + 1))))) σ) : X 28 [some (am_r 20 0), some (.inl a), some (.inl (nI (c_here σ 0))), some (.inl (1000 : Int32)), some (.inl (-4 : Int32)), some (.inl (0 : Int32)), none] [] σ := by
  obtain ⟨h9, a1, a2, -⟩ := id hv
  obtain ⟨b1, b2, b3, b4, b5, b6, b7, b8, b9, b10, b11⟩ := id a2
  obtain ⟨k1, k2, k3, k4, k5, k6, k7, k8, k9, k10, k11, k12, k13⟩ := iv_q hv ivz_refl
  have h2 : 2 ^ n ≤ 512 := Nat.pow_le_pow_right (n := 2) (by decide) h9
  have lim : ∀ j, j < 4 → ∀ p, p < n → q_lim (c_r σ 0 p j) 5 := fun j hj p hp => by
    obtain ⟨e, l⟩ := b10 p j hp (by omega)
    refine ⟨e, Nat.le_trans l ?_⟩
    have : j = 0 ∨ j = 1 ∨ j = 2 ∨ j = 3 := by omega
    rcases this with q | q | q | q <;> rw [q] <;> decide
  have gl := cgood_le (r := c_r σ 0) (pl := pl) (H := c_here σ 0) h9 ht hl
  have mr : ∀ p i, p < n → i < 4 → m_r σ 0 p i = c_r σ 0 p i := fun p i hp hi => k8 p i hp (by omega)
  have loop := q_dn (W := fun i => X 28 [some (am_r 20 0), some (.inl a), some (.inl (nI (c_here σ 0))), some (.inl (ch_l 1000 (ch (cgood (c_r σ 0) n pl (c_here σ 0) tc lc) i))), some (.inl (ch_w (ch (cgood (c_r σ 0) n pl (c_here σ 0) tc lc) i))), some (.inl (nI i)), none] [] σ) (n := c_here σ 0 + 1) (fun i hi IH => ?_) ?_ 0 (Nat.zero_le _)
  · exact loop
  · refine b_ci28 hX _ _ _ _ _ ?_
    have hq := q_pop_le i 9
    have hin : i < 2 ^ n := by omega
    rw [nI_ltI (by omega) (by omega), q_dfz (by omega), show σ 21 0 63 + (3 : Int32) = nI pl from b4, nI_eq (by omega) (by omega)]
    have next : ∀ l w : Int32, l = ch_l 1000 (ch (cgood (c_r σ 0) n pl (c_here σ 0) tc lc) (i + 1)) → w = ch_w (ch (cgood (c_r σ 0) n pl (c_here σ 0) tc lc) (i + 1)) → X 131 [some (am_r 20 0), some (.inl a), some (.inl (nI (c_here σ 0))), some (.inl l), some (.inl w), some (.inl (nI i)), none] [] σ := fun l w el ew => by
      refine b_ci131 hX _ _ _ _ _ ?_
      rw [el, ew, show nI i + (1 : Int32) = nI (i + 1) from nI_add i 1]
      exact IH
    have skip : cgood (c_r σ 0) n pl (c_here σ 0) tc lc i = none → X 131 [some (am_r 20 0), some (.inl a), some (.inl (nI (c_here σ 0))), some (.inl (ch_l 1000 (ch (cgood (c_r σ 0) n pl (c_here σ 0) tc lc) i))), some (.inl (ch_w (ch (cgood (c_r σ 0) n pl (c_here σ 0) tc lc) i))), some (.inl (nI i)), none] [] σ := fun e => next _ _ (by rw [ch_n e]) (by rw [ch_n e])
    have fg : ∀ (l w c : Int32), X 131 [some (am_r 20 0), some (.inl a), some (.inl (nI (c_here σ 0))), some (.inl l), some (.inl w), some (.inl (nI i)), none] [] σ → X 131 [some (am_r 20 0), some (.inl a), some (.inl (nI (c_here σ 0))), some (.inl l), some (.inl w), some (.inl (nI i)), some (.inl c)] [] σ := fun l w c x => am_fo hX (ls := [some (am_r 20 0), some (.inl a), some (.inl (nI (c_here σ 0))), some (.inl l), some (.inl w), some (.inl (nI i)), none]) ⟨rfl, rfl, rfl, rfl, rfl, rfl, trivial⟩ x
    refine ⟨fun q => absurd q (by omega), fun _ => ⟨fun c1 => ⟨by omega, fun c2 => ?_, fun c2 => skip ?_⟩, fun c1 => skip ?_⟩⟩
    · have d2 := dp_le (r := c_r σ 0) (S := i) (j := 2) n
      refine tX7_changes (j := 2) a1 h9 hin (by decide) mr (lim 2 (by decide)) (b_ci63 hX _ _ _ _ _ _ ?_)
      rw [q_z (by omega)]
      refine ⟨fun c3 => tX7_changes (j := 1) a1 h9 hin (by decide) mr (lim 1 (by decide)) (b_ci73 hX _ _ _ _ _ _ (tX7_changes (j := 3) a1 h9 hin (by decide) mr (lim 3 (by decide)) (b_ci90 hX _ _ _ _ _ _ _ ?_))), fun c3 => skip ?_⟩
      · have eg : cgood (c_r σ 0) n pl (c_here σ 0) tc lc i = some (dp (c_r σ 0) i 1 n * tc + dp (c_r σ 0) i 3 n * lc) := by
          unfold cgood
          rw [if_pos ⟨c1, c2, c3⟩]
        have gle := gl _ _ eg
        rw [htc, hlc, pk_mul, pk_mul, nI_add]
        generalize dp (c_r σ 0) i 1 n * tc + dp (c_r σ 0) i 3 n * lc = c at eg gle ⊢
        have es := ch_s eg
        rcases hc : ch (cgood (c_r σ 0) n pl (c_here σ 0) tc lc) i with _ | ⟨c', s'⟩
        · rw [hc] at es
          have n1000 : ¬ ch_l 1000 none ≤ nI c := (show ¬ (1000 : Int32) ≤ nI c from nI_ge (b := 1000) (by omega) (by decide))
          exact ⟨fun q => absurd q n1000, fun _ => ⟨fun q => absurd q n1000, fun _ => fg _ _ _ (next _ _ (by rw [es]; rfl) (by rw [es]; rfl))⟩⟩
        · rw [hc] at es
          have cl := ch_le gl hc
          show (nI c' ≤ nI c → (nI c' ≤ nI c → _) ∧ (¬ nI c' ≤ nI c → _)) ∧ (¬ nI c' ≤ nI c → (nI c' ≤ nI c → _) ∧ (¬ nI c' ≤ nI c → _))
          rw [nI_leI (by omega) (by omega)]
          refine ⟨fun q => ⟨fun _ => fg _ _ _ (next _ _ ?_ ?_), fun q' => absurd q q'⟩, fun q => ⟨fun q' => absurd q' q, fun _ => fg _ _ _ (next _ _ ?_ ?_)⟩⟩
          · rw [es]
            show _ = ch_l 1000 (if c < c' then _ else _)
            rw [if_neg (by omega)]
          · rw [es]
            show _ = ch_w (if c < c' then _ else _)
            rw [if_neg (by omega)]
          · rw [es]
            show _ = ch_l 1000 (if c < c' then _ else _)
            rw [if_pos (by omega)]
            rfl
          · rw [es]
            show _ = ch_w (if c < c' then _ else _)
            rw [if_pos (by omega)]
            rfl
      · unfold cgood
        rw [if_neg (fun z => c3 z.2.2)]
    · unfold cgood
      rw [if_neg (fun z => c2 z.2.1)]
    · unfold cgood
      rw [if_neg (fun z => c1 z.1)]
  · refine b_ci28 hX _ _ _ _ _ ⟨fun _ => ⟨fun q => ?_, fun q => ⟨fun q' => ?_, fun q' => ?_⟩⟩, fun q => absurd (nI_lt (Nat.lt_succ_self _) (by omega)) q⟩
    · rw [if_pos q] at h
      exact h
    · rw [if_neg q, if_pos q'] at h
      exact h
    · rw [if_neg q, if_neg q'] at h
      exact h
theorem pr_cheap {σ : am_M} {a : Int32} (hI : Inv σ) : pairI sX6_cheap sX7_cheap [.inl a] σ := by
  obtain ⟨n, pl, hv⟩ := id hI
  obtain ⟨h9, a1, a2, -⟩ := id hv
  obtain ⟨b1, b2, b3, b4, b5, b6, b7, b8, b9, b10, b11⟩ := id a2
  obtain ⟨k1, k2, k3, k4, k5, k6, k7, k8, k9, k10, k11, k12, k13⟩ := iv_q hv ivz_refl
  have h2 : 2 ^ n ≤ 512 := Nat.pow_le_pow_right (n := 2) (by decide) h9
  refine ⟨am_le rfl, fun X hX => b_ch0 hX a ⟨fun c1 => ⟨_, rfl, am_le rfl, fun Y hY => b_ci0 hY _ ⟨fun _ => ⟨rfl, hI⟩, fun q => absurd c1 q⟩⟩, fun c1 => ⟨fun c2 => ⟨_, rfl, am_le rfl, fun Y hY => b_ci0 hY _ ⟨fun q => absurd q c1, fun _ => ⟨fun _ => ⟨rfl, hI⟩, fun q => absurd c2 q⟩⟩⟩, fun c2 => ⟨k9, tX6_cheapL hX hv b6.2.1 b7.2.1 b6.2.2 b7.2.2 ⟨_, rfl, am_le rfl, fun Y hY => b_ci0 hY _ ⟨fun q => absurd q c1, fun _ => ⟨fun q => absurd q c2, fun _ => ⟨k1, ?_⟩⟩⟩⟩⟩⟩⟩⟩
  rw [k3]
  refine tX7_cheapL hY hv (by rw [← b6.1]; exact b6.2.1) (by rw [← b7.1]; exact b7.2.1) b6.2.2 b7.2.2 ⟨?_, hI⟩
  rw [ch_cut (m := c_here σ 0 + 1) (n := 2 ^ n) (fun s hs => ?_) (by omega)]
  · rcases hc : ch (cgood (c_r σ 0) n pl (c_here σ 0) (σ 3 0 3).toNatClampNeg (σ 3 0 4).toNatClampNeg) (c_here σ 0 + 1) with _ | ⟨c', s'⟩
    · show some (Sum.inl (if (-4 : Int32) = -4 then (-4 : Int32) else _)) = some (Sum.inl (if a = 0 then (-4 : Int32) else (-4 : Int32)))
      rw [if_pos rfl]
      split <;> rfl
    · have cl := ch_le (cgood_le (r := c_r σ 0) (pl := pl) (H := c_here σ 0) h9 b6.2.2 b7.2.2) hc
      show some (Sum.inl (if nI s' = -4 then nI s' else if a = 1 then nI s' else nI c')) = some (Sum.inl (if a = 0 then nI c' else nI s'))
      rw [if_neg (q_m4 (by omega))]
      obtain ⟨j, j1, rfl⟩ := q_0b (b := 1) rfl (by decide) c1 c2
      have : j = 0 ∨ j = 1 := by omega
      rcases this with q | q
      · subst q
        rfl
      · subst q
        rfl
  · unfold cgood
    rw [if_neg]
    rintro ⟨z, -⟩
    have := q_sub_le z
    omega
