/-! pairs: last, count -/
set_option maxRecDepth 100000 in
set_option maxHeartbeats 400000 in
theorem b_xl0 {K : Option am_V → am_M → Prop} {X : Nat → am_L → List am_V → am_M → Prop} (hX : am_cl eX6_last lX6_last (some .int) K X) {σ : am_M} (a : Int32) (h : ((a < (0 : Int32)) → K (some (.inl (-1 : Int32))) σ) ∧ (¬ (a < (0 : Int32)) → (((((1 : Int32) <<< ((σ 3 0 1) &&& 31)) - (1 : Int32)) < a) → K (some (.inl (-1 : Int32))) σ) ∧ (¬ ((((1 : Int32) <<< ((σ 3 0 1) &&& 31)) - (1 : Int32)) < a) → X 19 [some (.inr (.inr (0, 0))), some (.inl a), none] [] σ))) : X 0 [some (.inr (.inr (0, 0))), some (.inl a), none] [] σ := am_run_ok emX6_last hX [19] 400 (show 1 ≤ 3 ∧ 2 ≤ 8 ∧ True ∧ sX0_pools [.inr (.inr (3, 0))] σ (fun vv tt => am_run eX6_last lX6_last (some .int) K X [19] 395 9 [some (.inr (.inr (0, 0))), some (.inl a), none] (vv.toList ++ [.inl (0 : Int32), .inl a]) tt) from ⟨am_le rfl, am_le rfl, trivial, tX0_pools ((show 3 ≤ 3 ∧ 0 ≤ 8 ∧ sX6_isWithin [.inl a, .inl (0 : Int32), .inl (((1 : Int32) <<< ((σ 3 0 1) &&& 31)) - (1 : Int32))] σ (fun vv tt => am_run eX6_last lX6_last (some .int) K X [19] 392 14 [some (.inr (.inr (0, 0))), some (.inl a), none] (vv.toList ++ []) tt) from ⟨am_le rfl, am_le rfl, tX6_isWithin (⟨fun q0 => (show (((0 : Int32) = (0 : Int32)) → K (some (.inl (-1 : Int32))) σ) ∧ (¬ ((0 : Int32) = (0 : Int32)) → _) from ⟨fun _ => (h.1 q0), fun q => absurd (by decide) q⟩), fun q0 => ⟨fun q1 => (show (((0 : Int32) = (0 : Int32)) → K (some (.inl (-1 : Int32))) σ) ∧ (¬ ((0 : Int32) = (0 : Int32)) → _) from ⟨fun _ => ((h.2 q0).1 q1), fun q => absurd (by decide) q⟩), fun q1 => (show (((1 : Int32) = (0 : Int32)) → _) ∧ (¬ ((1 : Int32) = (0 : Int32)) → X 19 [some (.inr (.inr (0, 0))), some (.inl a), none] [] σ) from ⟨fun q => absurd q (by decide), fun _ => ((h.2 q0).2 q1)⟩)⟩⟩)⟩))⟩)
set_option maxRecDepth 100000 in
set_option maxHeartbeats 400000 in
theorem b_xl19 {K : Option am_V → am_M → Prop} {X : Nat → am_L → List am_V → am_M → Prop} (hX : am_cl eX6_last lX6_last (some .int) K X) {σ : am_M} (S : Nat) (h : (c_ok σ 0) ∧ ((S < 512) ∧ ((((nI (q_pop S 9)) = ((σ 3 0 2) - (1 : Int32))) → ((((nI S) &&& ((nI (c_here σ 0)) ^^^ (-1 : Int32))) = (0 : Int32)) → sX3_gather [.inr (.inr (7, 0)), .inr (.inr (3, 0)), .inl (σ 3 0 2), .inl (nI (c_here σ 0)), .inl (nI S)] σ (fun vv tt => X 74 [some (.inr (.inr (0, 0))), some (.inl (nI S)), some (.inl (nI (c_here σ 0)))] (vv.toList ++ []) tt)) ∧ (¬ (((nI S) &&& ((nI (c_here σ 0)) ^^^ (-1 : Int32))) = (0 : Int32)) → K (some (.inl (-2 : Int32))) σ)) ∧ (¬ ((nI (q_pop S 9)) = ((σ 3 0 2) - (1 : Int32))) → K (some (.inl (-2 : Int32))) σ)))) : X 19 [some (.inr (.inr (0, 0))), some (.inl (nI S)), none] [] σ := am_run_ok emX6_last hX [74] 400 (show 1 ≤ 1 ∧ 0 ≤ 8 ∧ True ∧ sX0_here [.inr (.inr (3, 0))] σ (fun vv tt => am_run eX6_last lX6_last (some .int) K X [74] 397 26 [some (.inr (.inr (0, 0))), some (.inl (nI S)), none] (vv.toList ++ []) tt) from ⟨am_le rfl, am_le rfl, trivial, uX0_here (⟨h.1, (show 1 ≤ 1 ∧ 0 ≤ 8 ∧ sJ6_bitCount [.inl (nI S)] σ (fun vv tt => am_run eX6_last lX6_last (some .int) K X [74] 394 31 [some (.inr (.inr (0, 0))), some (.inl (nI S)), some (.inl (nI (c_here σ 0)))] (vv.toList ++ []) tt) from ⟨am_le rfl, am_le rfl, wJ6_bitCount (⟨h.2.1, (show (((nI (q_pop S 9)) = ((σ 3 0 2) - (1 : Int32))) → ((((nI S) &&& ((nI (c_here σ 0)) ^^^ (-1 : Int32))) = (0 : Int32)) → 5 ≤ 5 ∧ 0 ≤ 8 ∧ True ∧ sX3_gather [.inr (.inr (7, 0)), .inr (.inr (3, 0)), .inl (σ 3 0 2), .inl (nI (c_here σ 0)), .inl (nI S)] σ (fun vv tt => X 74 [some (.inr (.inr (0, 0))), some (.inl (nI S)), some (.inl (nI (c_here σ 0)))] (vv.toList ++ []) tt)) ∧ (¬ (((nI S) &&& ((nI (c_here σ 0)) ^^^ (-1 : Int32))) = (0 : Int32)) → K (some (.inl (-2 : Int32))) σ)) ∧ (¬ ((nI (q_pop S 9)) = ((σ 3 0 2) - (1 : Int32))) → K (some (.inl (-2 : Int32))) σ) from ⟨fun q0 => ⟨fun q1 => ⟨am_le rfl, am_le rfl, trivial, ((h.2.2.1 q0).1 q1)⟩, fun q1 => ((h.2.2.1 q0).2 q1)⟩, fun q0 => (h.2.2.2 q0)⟩)⟩)⟩)⟩)⟩)
set_option maxRecDepth 100000 in
set_option maxHeartbeats 400000 in
theorem b_xl74 {K : Option am_V → am_M → Prop} {X : Nat → am_L → List am_V → am_M → Prop} (hX : am_cl eX6_last lX6_last (some .int) K X) {σ : am_M} (S : Nat) (v : Int32) (h : sX3_inAny [.inr (.inr (7, 0))] σ (fun vv tt => X 81 [some (.inr (.inr (0, 0))), some (.inl (nI S)), some (.inl v)] (vv.toList ++ []) tt)) : X 74 [some (.inr (.inr (0, 0))), some (.inl (nI S)), some (.inl v)] [] σ := am_run_ok emX6_last hX [81] 400 (show 1 ≤ 1 ∧ 0 ≤ 8 ∧ True ∧ sX3_inAny [.inr (.inr (7, 0))] σ (fun vv tt => X 81 [some (.inr (.inr (0, 0))), some (.inl (nI S)), some (.inl v)] (vv.toList ++ []) tt) from ⟨am_le rfl, am_le rfl, trivial, h⟩)
set_option maxRecDepth 100000 in
set_option maxHeartbeats 400000 in
theorem b_xl81 {K : Option am_V → am_M → Prop} {X : Nat → am_L → List am_V → am_M → Prop} (hX : am_cl eX6_last lX6_last (some .int) K X) {σ : am_M} (S : Nat) (v w : Int32) (h : K (some (.inl (w &&& ((nI S) ^^^ (-1 : Int32))))) σ) : X 81 [some (.inr (.inr (0, 0))), some (.inl (nI S)), some (.inl v)] [.inl w] σ := am_run_ok emX6_last hX [] 400 (show K (some (.inl (w &&& ((nI S) ^^^ (-1 : Int32))))) σ from h)
set_option maxRecDepth 100000 in
set_option maxHeartbeats 400000 in
theorem b_yl0 {K : Option am_V → am_M → Prop} {X : Nat → am_L → List am_V → am_M → Prop} (hX : am_cl eX7_last lX7_last (some .int) K X) {σ : am_M} (a : Int32) (h : ((a < (0 : Int32)) → K (some (.inl (-1 : Int32))) σ) ∧ (¬ (a < (0 : Int32)) → (((((1 : Int32) <<< ((σ 20 0 1) &&& 31)) - (1 : Int32)) < a) → K (some (.inl (-1 : Int32))) σ) ∧ (¬ ((((1 : Int32) <<< ((σ 20 0 1) &&& 31)) - (1 : Int32)) < a) → X 20 [some (.inr (.inr (20, 0))), some (.inl a), none, none, none, none] [] σ))) : X 0 [some (.inr (.inr (20, 0))), some (.inl a), none, none, none, none] [] σ := am_run_ok emX7_last hX [20] 400 (show 3 ≤ 3 ∧ 0 ≤ 8 ∧ sX7_in [.inr (.inl (a).toInt64), .inr (.inl (0 : Int64)), .inr (.inl ((((1 : Int32) <<< ((σ 20 0 1) &&& 31)) - (1 : Int32))).toInt64)] σ (fun vv tt => am_run eX7_last lX7_last (some .int) K X [20] 389 15 [some (.inr (.inr (20, 0))), some (.inl a), none, none, none, none] (vv.toList ++ []) tt) from ⟨am_le rfl, am_le rfl, uX7_in (v := a) (a := (0 : Int32)) (b := (((1 : Int32) <<< ((σ 20 0 1) &&& 31)) - (1 : Int32))) (⟨fun q0 => (show (((0 : Int32) = (0 : Int32)) → K (some (.inl (-1 : Int32))) σ) ∧ (¬ ((0 : Int32) = (0 : Int32)) → _) from ⟨fun _ => (h.1 q0), fun q => absurd (by decide) q⟩), fun q0 => ⟨fun q1 => (show (((0 : Int32) = (0 : Int32)) → K (some (.inl (-1 : Int32))) σ) ∧ (¬ ((0 : Int32) = (0 : Int32)) → _) from ⟨fun _ => ((h.2 q0).1 q1), fun q => absurd (by decide) q⟩), fun q1 => (show (((1 : Int32) = (0 : Int32)) → _) ∧ (¬ ((1 : Int32) = (0 : Int32)) → X 20 [some (.inr (.inr (20, 0))), some (.inl a), none, none, none, none] [] σ) from ⟨fun q => absurd q (by decide), fun _ => ((h.2 q0).2 q1)⟩)⟩⟩)⟩)
set_option maxRecDepth 100000 in
set_option maxHeartbeats 400000 in
theorem b_yl20 {K : Option am_V → am_M → Prop} {X : Nat → am_L → List am_V → am_M → Prop} (hX : am_cl eX7_last lX7_last (some .int) K X) {σ : am_M} (S : Nat) (h : (m_ok σ) ∧ ((S < 512) ∧ ((((nI (q_pop S 9)) = (((σ 21 0 63) + (3 : Int32)) - (1 : Int32))) → ((((nI S) &&& ((nI (m_here σ)) ^^^ (-1 : Int32))) = (0 : Int32)) → X 55 [some (.inr (.inr (20, 0))), some (.inl (nI S)), some (.inl (nI (m_here σ))), some (.inl (0 : Int32)), some (.inl (0 : Int32)), none] [] σ) ∧ (¬ (((nI S) &&& ((nI (m_here σ)) ^^^ (-1 : Int32))) = (0 : Int32)) → K (some (.inl (-2 : Int32))) σ)) ∧ (¬ ((nI (q_pop S 9)) = (((σ 21 0 63) + (3 : Int32)) - (1 : Int32))) → K (some (.inl (-2 : Int32))) σ)))) : X 20 [some (.inr (.inr (20, 0))), some (.inl (nI S)), none, none, none, none] [] σ := am_run_ok emX7_last hX [55] 400 (show 1 ≤ 1 ∧ 0 ≤ 8 ∧ True ∧ sX7_hereNow [.inr (.inr (20, 0))] σ (fun vv tt => am_run eX7_last lX7_last (some .int) K X [55] 398 24 [some (.inr (.inr (20, 0))), some (.inl (nI S)), none, none, none, none] (vv.toList ++ []) tt) from ⟨am_le rfl, am_le rfl, trivial, uX7_hereNow (⟨h.1, (show 1 ≤ 1 ∧ 0 ≤ 8 ∧ sX7_bitsOf [.inl (nI S)] σ (fun vv tt => am_run eX7_last lX7_last (some .int) K X [55] 395 29 [some (.inr (.inr (20, 0))), some (.inl (nI S)), some (.inl (nI (m_here σ))), none, none, none] (vv.toList ++ []) tt) from ⟨am_le rfl, am_le rfl, uX7_bitsOf (⟨h.2.1, (show 2 ≤ 3 ∧ 1 ≤ 8 ∧ True ∧ sX7_seatsOn [.inr (.inr (20, 0)), .inl (0 : Int32)] σ (fun vv tt => am_run eX7_last lX7_last (some .int) K X [55] 392 34 [some (.inr (.inr (20, 0))), some (.inl (nI S)), some (.inl (nI (m_here σ))), none, none, none] (vv.toList ++ [.inl (nI (q_pop S 9))]) tt) from ⟨am_le rfl, am_le rfl, trivial, tX7_seatsOn (⟨am_ci (by decide), (show (((nI (q_pop S 9)) = (((σ 21 0 63) + (3 : Int32)) - (1 : Int32))) → ((((nI S) &&& ((nI (m_here σ)) ^^^ (-1 : Int32))) = (0 : Int32)) → X 55 [some (.inr (.inr (20, 0))), some (.inl (nI S)), some (.inl (nI (m_here σ))), some (.inl (0 : Int32)), some (.inl (0 : Int32)), none] [] σ) ∧ (¬ (((nI S) &&& ((nI (m_here σ)) ^^^ (-1 : Int32))) = (0 : Int32)) → K (some (.inl (-2 : Int32))) σ)) ∧ (¬ ((nI (q_pop S 9)) = (((σ 21 0 63) + (3 : Int32)) - (1 : Int32))) → K (some (.inl (-2 : Int32))) σ) from ⟨fun q0 => ⟨fun q1 => ((h.2.2.1 q0).1 q1), fun q1 => ((h.2.2.1 q0).2 q1)⟩, fun q0 => (h.2.2.2 q0)⟩)⟩)⟩)⟩)⟩)⟩)⟩)
set_option maxRecDepth 100000 in
set_option maxHeartbeats 400000 in
theorem b_yl55 {K : Option am_V → am_M → Prop} {X : Nat → am_L → List am_V → am_M → Prop} (hX : am_cl eX7_last lX7_last (some .int) K X) {σ : am_M} (S H t : Nat) (s : Int32) (h : (((σ 20 0 1) ≤ (nI t)) → K (some (.inl s)) σ) ∧ (¬ ((σ 20 0 1) ≤ (nI t)) → (((((nI H) >>> ((nI t) &&& 31)) &&& (1 : Int32)) = (1 : Int32)) → (((((nI S) >>> ((nI t) &&& 31)) &&& (1 : Int32)) = (0 : Int32)) → X 88 [some (.inr (.inr (20, 0))), some (.inl (nI S)), some (.inl (nI H)), some (.inl s), some (.inl (nI t)), none] [.inl (1 : Int32)] σ) ∧ (¬ ((((nI S) >>> ((nI t) &&& 31)) &&& (1 : Int32)) = (0 : Int32)) → X 88 [some (.inr (.inr (20, 0))), some (.inl (nI S)), some (.inl (nI H)), some (.inl s), some (.inl (nI t)), none] [.inl (0 : Int32)] σ)) ∧ (¬ ((((nI H) >>> ((nI t) &&& 31)) &&& (1 : Int32)) = (1 : Int32)) → X 88 [some (.inr (.inr (20, 0))), some (.inl (nI S)), some (.inl (nI H)), some (.inl s), some (.inl (nI t)), none] [.inl (0 : Int32)] σ))) : X 55 [some (.inr (.inr (20, 0))), some (.inl (nI S)), some (.inl (nI H)), some (.inl s), some (.inl (nI t)), none] [] σ := am_run_ok emX7_last hX [88] 400 (show (((σ 20 0 1) ≤ (nI t)) → K (some (.inl s)) σ) ∧ (¬ ((σ 20 0 1) ≤ (nI t)) → (((((nI H) >>> ((nI t) &&& 31)) &&& (1 : Int32)) = (1 : Int32)) → (((((nI S) >>> ((nI t) &&& 31)) &&& (1 : Int32)) = (0 : Int32)) → X 88 [some (.inr (.inr (20, 0))), some (.inl (nI S)), some (.inl (nI H)), some (.inl s), some (.inl (nI t)), none] [.inl (1 : Int32)] σ) ∧ (¬ ((((nI S) >>> ((nI t) &&& 31)) &&& (1 : Int32)) = (0 : Int32)) → X 88 [some (.inr (.inr (20, 0))), some (.inl (nI S)), some (.inl (nI H)), some (.inl s), some (.inl (nI t)), none] [.inl (0 : Int32)] σ)) ∧ (¬ ((((nI H) >>> ((nI t) &&& 31)) &&& (1 : Int32)) = (1 : Int32)) → X 88 [some (.inr (.inr (20, 0))), some (.inl (nI S)), some (.inl (nI H)), some (.inl s), some (.inl (nI t)), none] [.inl (0 : Int32)] σ)) from ⟨fun q0 => (h.1 q0), fun q0 => ⟨fun q1 => ⟨fun q2 => (((h.2 q0).1 q1).1 q2), fun q2 => (((h.2 q0).1 q1).2 q2)⟩, fun q1 => ((h.2 q0).2 q1)⟩⟩)
set_option maxRecDepth 100000 in
set_option maxHeartbeats 400000 in
theorem b_yl88 {K : Option am_V → am_M → Prop} {X : Nat → am_L → List am_V → am_M → Prop} (hX : am_cl eX7_last lX7_last (some .int) K X) {σ : am_M} (S H t : Nat) (s v : Int32) (h : ((v = (0 : Int32)) → X 116 [some (.inr (.inr (20, 0))), some (.inl (nI S)), some (.inl (nI H)), some (.inl s), some (.inl (nI t)), some (.inl v)] [.inl s] σ) ∧ (¬ (v = (0 : Int32)) → sX7_isUnlike [.inr (.inr (20, 0)), .inl ((nI S) ||| ((1 : Int32) <<< ((nI t) &&& 31)))] σ (fun vv tt => X 106 [some (.inr (.inr (20, 0))), some (.inl (nI S)), some (.inl (nI H)), some (.inl s), some (.inl (nI t)), some (.inl v)] (vv.toList ++ [.inl s]) tt))) : X 88 [some (.inr (.inr (20, 0))), some (.inl (nI S)), some (.inl (nI H)), some (.inl s), some (.inl (nI t)), none] [.inl v] σ := am_run_ok emX7_last hX [106, 116] 400 (show ((v = (0 : Int32)) → X 116 [some (.inr (.inr (20, 0))), some (.inl (nI S)), some (.inl (nI H)), some (.inl s), some (.inl (nI t)), some (.inl v)] [.inl s] σ) ∧ (¬ (v = (0 : Int32)) → 2 ≤ 3 ∧ 1 ≤ 8 ∧ True ∧ sX7_isUnlike [.inr (.inr (20, 0)), .inl ((nI S) ||| ((1 : Int32) <<< ((nI t) &&& 31)))] σ (fun vv tt => X 106 [some (.inr (.inr (20, 0))), some (.inl (nI S)), some (.inl (nI H)), some (.inl s), some (.inl (nI t)), some (.inl v)] (vv.toList ++ [.inl s]) tt)) from ⟨fun q0 => (h.1 q0), fun q0 => ⟨am_le rfl, am_le rfl, trivial, (h.2 q0)⟩⟩)
set_option maxRecDepth 100000 in
set_option maxHeartbeats 400000 in
theorem b_yl106 {K : Option am_V → am_M → Prop} {X : Nat → am_L → List am_V → am_M → Prop} (hX : am_cl eX7_last lX7_last (some .int) K X) {σ : am_M} (S H t : Nat) (s v w : Int32) (h : ((w = (0 : Int32)) → X 55 [some (.inr (.inr (20, 0))), some (.inl (nI S)), some (.inl (nI H)), some (.inl (s ||| (0 : Int32))), some (.inl ((nI t) + (1 : Int32))), some (.inl v)] [] σ) ∧ (¬ (w = (0 : Int32)) → X 55 [some (.inr (.inr (20, 0))), some (.inl (nI S)), some (.inl (nI H)), some (.inl (s ||| ((1 : Int32) <<< ((nI t) &&& 31)))), some (.inl ((nI t) + (1 : Int32))), some (.inl v)] [] σ)) : X 106 [some (.inr (.inr (20, 0))), some (.inl (nI S)), some (.inl (nI H)), some (.inl s), some (.inl (nI t)), some (.inl v)] [.inl w, .inl s] σ := am_run_ok emX7_last hX [55] 400 (show ((w = (0 : Int32)) → X 55 [some (.inr (.inr (20, 0))), some (.inl (nI S)), some (.inl (nI H)), some (.inl (s ||| (0 : Int32))), some (.inl ((nI t) + (1 : Int32))), some (.inl v)] [] σ) ∧ (¬ (w = (0 : Int32)) → X 55 [some (.inr (.inr (20, 0))), some (.inl (nI S)), some (.inl (nI H)), some (.inl (s ||| ((1 : Int32) <<< ((nI t) &&& 31)))), some (.inl ((nI t) + (1 : Int32))), some (.inl v)] [] σ) from ⟨fun q0 => (h.1 q0), fun q0 => (h.2 q0)⟩)
set_option maxRecDepth 100000 in
set_option maxHeartbeats 400000 in
theorem b_yl116 {K : Option am_V → am_M → Prop} {X : Nat → am_L → List am_V → am_M → Prop} (hX : am_cl eX7_last lX7_last (some .int) K X) {σ : am_M} (S H t : Nat) (s v : Int32) (h : X 55 [some (.inr (.inr (20, 0))), some (.inl (nI S)), some (.inl (nI H)), some (.inl (s ||| (0 : Int32))), some (.inl ((nI t) + (1 : Int32))), some (.inl v)] [] σ) : X 116 [some (.inr (.inr (20, 0))), some (.inl (nI S)), some (.inl (nI H)), some (.inl s), some (.inl (nI t)), some (.inl v)] [.inl s] σ := am_run_ok emX7_last hX [55] 400 (show X 55 [some (.inr (.inr (20, 0))), some (.inl (nI S)), some (.inl (nI H)), some (.inl (s ||| (0 : Int32))), some (.inl ((nI t) + (1 : Int32))), some (.inl v)] [] σ from h)
set_option maxRecDepth 100000 in
set_option maxHeartbeats 400000 in
theorem b_xp0 {K : Option am_V → am_M → Prop} {X : Nat → am_L → List am_V → am_M → Prop} (hX : am_cl eX6_alikePairs lX6_alikePairs (some .int) K X) {σ : am_M}  (h : (c_ok σ 0) ∧ (sX3_gather [.inr (.inr (7, 0)), .inr (.inr (3, 0)), .inl (2 : Int32), .inl (nI (c_here σ 0)), .inl (0 : Int32)] σ (fun vv tt => X 20 [some (.inr (.inr (0, 0))), none] (vv.toList ++ []) tt))) : X 0 [some (.inr (.inr (0, 0))), none] [] σ := am_run_ok emX6_alikePairs hX [20] 400 (show 1 ≤ 4 ∧ 3 ≤ 8 ∧ True ∧ sX0_here [.inr (.inr (3, 0))] σ (fun vv tt => am_run eX6_alikePairs lX6_alikePairs (some .int) K X [20] 392 16 [some (.inr (.inr (0, 0))), none] (vv.toList ++ [.inl (2 : Int32), .inr (.inr (3, 0)), .inr (.inr (7, 0))]) tt) from ⟨am_le rfl, am_le rfl, trivial, uX0_here (⟨h.1, (show 5 ≤ 5 ∧ 0 ≤ 8 ∧ True ∧ sX3_gather [.inr (.inr (7, 0)), .inr (.inr (3, 0)), .inl (2 : Int32), .inl (nI (c_here σ 0)), .inl (0 : Int32)] σ (fun vv tt => X 20 [some (.inr (.inr (0, 0))), none] (vv.toList ++ []) tt) from ⟨am_le rfl, am_le rfl, trivial, h.2⟩)⟩)⟩)
set_option maxRecDepth 100000 in
set_option maxHeartbeats 400000 in
theorem b_xp20 {K : Option am_V → am_M → Prop} {X : Nat → am_L → List am_V → am_M → Prop} (hX : am_cl eX6_alikePairs lX6_alikePairs (some .int) K X) {σ : am_M}  (h : (c_ok σ 0) ∧ ((c_ok σ 0) ∧ (K (some (.inl (((((nI (c_many σ 0 (1 : Int32))) + (nI (c_many σ 0 (2 : Int32)))) * (((nI (c_many σ 0 (1 : Int32))) + (nI (c_many σ 0 (2 : Int32)))) - (1 : Int32))) / (2 : Int32)) - (σ 7 0 3)))) σ))) : X 20 [some (.inr (.inr (0, 0))), none] [] σ := am_run_ok emX6_alikePairs hX [] 400 (show 2 ≤ 2 ∧ 0 ≤ 8 ∧ True ∧ sX0_howMany [.inr (.inr (3, 0)), .inl (1 : Int32)] σ (fun vv tt => am_run eX6_alikePairs lX6_alikePairs (some .int) K X [] 396 28 [some (.inr (.inr (0, 0))), none] (vv.toList ++ []) tt) from ⟨am_le rfl, am_le rfl, trivial, uX0_howMany (⟨h.1, (show 2 ≤ 3 ∧ 1 ≤ 8 ∧ True ∧ sX0_howMany [.inr (.inr (3, 0)), .inl (2 : Int32)] σ (fun vv tt => am_run eX6_alikePairs lX6_alikePairs (some .int) K X [] 392 36 [some (.inr (.inr (0, 0))), none] (vv.toList ++ [.inl (nI (c_many σ 0 (1 : Int32)))]) tt) from ⟨am_le rfl, am_le rfl, trivial, uX0_howMany (⟨h.2.1, (show (¬ (2 : Int32) = 0) ∧ (K (some (.inl (((((nI (c_many σ 0 (1 : Int32))) + (nI (c_many σ 0 (2 : Int32)))) * (((nI (c_many σ 0 (1 : Int32))) + (nI (c_many σ 0 (2 : Int32)))) - (1 : Int32))) / (2 : Int32)) - (σ 7 0 3)))) σ) from ⟨(by decide), h.2.2⟩)⟩)⟩)⟩)⟩)
set_option maxRecDepth 100000 in
set_option maxHeartbeats 400000 in
theorem b_xc0 {K : Option am_V → am_M → Prop} {X : Nat → am_L → List am_V → am_M → Prop} (hX : am_cl eX6_count lX6_count (some .int) K X) {σ : am_M} (a : Int32) (h : (((a).toInt = 0) → K (some (.inl (σ 11 0 2))) σ) ∧ (¬ ((a).toInt = 0) → (((a).toInt = 1) → (((σ 15 0 0) = (0 : Int32)) → (((σ 15 0 1) = (0 : Int32)) → K (some (.inl (0 : Int32))) σ) ∧ (¬ ((σ 15 0 1) = (0 : Int32)) → K (some (.inl (1 : Int32))) σ)) ∧ (¬ ((σ 15 0 0) = (0 : Int32)) → (((σ 15 0 1) = (0 : Int32)) → K (some (.inl (1 : Int32))) σ) ∧ (¬ ((σ 15 0 1) = (0 : Int32)) → K (some (.inl (2 : Int32))) σ))) ∧ (¬ ((a).toInt = 1) → (((a).toInt = 2) → K (some (.inl (σ 1 0 1))) σ) ∧ (¬ ((a).toInt = 2) → (((a).toInt = 3) → (((σ 17 0 1) = (0 : Int32)) → K (some (.inl (-4 : Int32))) σ) ∧ (¬ ((σ 17 0 1) = (0 : Int32)) → K (some (.inl (σ 17 0 3))) σ)) ∧ (¬ ((a).toInt = 3) → (((a).toInt = 4) → (c_ok σ 0) ∧ (K (some (.inl (nI (c_many σ 0 (1 : Int32))))) σ)) ∧ (¬ ((a).toInt = 4) → (((a).toInt = 5) → (c_ok σ 0) ∧ (K (some (.inl (nI (c_many σ 0 (2 : Int32))))) σ)) ∧ (¬ ((a).toInt = 5) → (((a).toInt = 6) → sX6_alikePairs [.inr (.inr (0, 0))] σ (fun vv tt => X 139 [some (.inr (.inr (0, 0))), some (.inl a)] (vv.toList ++ []) tt)) ∧ (¬ ((a).toInt = 6) → K (some (.inl (-1 : Int32))) σ)))))))) : X 0 [some (.inr (.inr (0, 0))), some (.inl a)] [] σ := am_run_ok emX6_count hX [139] 400 (show (_) ∧ ((((a).toInt = 0) → K (some (.inl (σ 11 0 2))) σ) ∧ (¬ ((a).toInt = 0) → (((a).toInt = 1) → (vp_in (0 : Int32) 2) ∧ ((((σ 15 0 0) = (0 : Int32)) → (vp_in (1 : Int32) 2) ∧ ((((σ 15 0 1) = (0 : Int32)) → K (some (.inl (0 : Int32))) σ) ∧ (¬ ((σ 15 0 1) = (0 : Int32)) → K (some (.inl (1 : Int32))) σ))) ∧ (¬ ((σ 15 0 0) = (0 : Int32)) → (vp_in (1 : Int32) 2) ∧ ((((σ 15 0 1) = (0 : Int32)) → K (some (.inl (1 : Int32))) σ) ∧ (¬ ((σ 15 0 1) = (0 : Int32)) → K (some (.inl (2 : Int32))) σ))))) ∧ (¬ ((a).toInt = 1) → (((a).toInt = 2) → K (some (.inl (σ 1 0 1))) σ) ∧ (¬ ((a).toInt = 2) → (((a).toInt = 3) → (vp_in (0 : Int32) 4) ∧ ((((σ 17 0 1) = (0 : Int32)) → K (some (.inl (-4 : Int32))) σ) ∧ (¬ ((σ 17 0 1) = (0 : Int32)) → (vp_in (0 : Int32) 4) ∧ (K (some (.inl (σ 17 0 3))) σ)))) ∧ (¬ ((a).toInt = 3) → (((a).toInt = 4) → 2 ≤ 2 ∧ 0 ≤ 8 ∧ True ∧ sX0_howMany [.inr (.inr (3, 0)), .inl (1 : Int32)] σ (fun vv tt => am_run eX6_count lX6_count (some .int) K X [139] 394 125 [some (.inr (.inr (0, 0))), some (.inl a)] (vv.toList ++ []) tt)) ∧ (¬ ((a).toInt = 4) → (((a).toInt = 5) → 2 ≤ 2 ∧ 0 ≤ 8 ∧ True ∧ sX0_howMany [.inr (.inr (3, 0)), .inl (2 : Int32)] σ (fun vv tt => am_run eX6_count lX6_count (some .int) K X [139] 394 134 [some (.inr (.inr (0, 0))), some (.inl a)] (vv.toList ++ []) tt)) ∧ (¬ ((a).toInt = 5) → (((a).toInt = 6) → 1 ≤ 1 ∧ 0 ≤ 8 ∧ True ∧ sX6_alikePairs [.inr (.inr (0, 0))] σ (fun vv tt => X 139 [some (.inr (.inr (0, 0))), some (.inl a)] (vv.toList ++ []) tt)) ∧ (¬ ((a).toInt = 6) → K (some (.inl (-1 : Int32))) σ)))))))) from ⟨by decide, ⟨fun q0 => (h.1 q0), fun q0 => ⟨fun q1 => ⟨am_ci (by decide), ⟨fun q2 => ⟨am_ci (by decide), ⟨fun q3 => ((((h.2 q0).1 q1).1 q2).1 q3), fun q3 => ((((h.2 q0).1 q1).1 q2).2 q3)⟩⟩, fun q2 => ⟨am_ci (by decide), ⟨fun q3 => ((((h.2 q0).1 q1).2 q2).1 q3), fun q3 => ((((h.2 q0).1 q1).2 q2).2 q3)⟩⟩⟩⟩, fun q1 => ⟨fun q2 => (((h.2 q0).2 q1).1 q2), fun q2 => ⟨fun q3 => ⟨am_ci (by decide), ⟨fun q4 => (((((h.2 q0).2 q1).2 q2).1 q3).1 q4), fun q4 => ⟨am_ci (by decide), (((((h.2 q0).2 q1).2 q2).1 q3).2 q4)⟩⟩⟩, fun q3 => ⟨fun q4 => ⟨am_le rfl, am_le rfl, trivial, uX0_howMany (⟨(((((h.2 q0).2 q1).2 q2).2 q3).1 q4).1, (show K (some (.inl (nI (c_many σ 0 (1 : Int32))))) σ from (((((h.2 q0).2 q1).2 q2).2 q3).1 q4).2)⟩)⟩, fun q4 => ⟨fun q5 => ⟨am_le rfl, am_le rfl, trivial, uX0_howMany (⟨((((((h.2 q0).2 q1).2 q2).2 q3).2 q4).1 q5).1, (show K (some (.inl (nI (c_many σ 0 (2 : Int32))))) σ from ((((((h.2 q0).2 q1).2 q2).2 q3).2 q4).1 q5).2)⟩)⟩, fun q5 => ⟨fun q6 => ⟨am_le rfl, am_le rfl, trivial, (((((((h.2 q0).2 q1).2 q2).2 q3).2 q4).2 q5).1 q6)⟩, fun q6 => (((((((h.2 q0).2 q1).2 q2).2 q3).2 q4).2 q5).2 q6)⟩⟩⟩⟩⟩⟩⟩⟩)
set_option maxRecDepth 100000 in
set_option maxHeartbeats 400000 in
theorem b_xc139 {K : Option am_V → am_M → Prop} {X : Nat → am_L → List am_V → am_M → Prop} (hX : am_cl eX6_count lX6_count (some .int) K X) {σ : am_M} (a v : Int32) (h : K (some (.inl v)) σ) : X 139 [some (.inr (.inr (0, 0))), some (.inl a)] [.inl v] σ := am_run_ok emX6_count hX [] 400 (show K (some (.inl v)) σ from h)
set_option maxRecDepth 100000 in
set_option maxHeartbeats 400000 in
theorem b_yc0 {K : Option am_V → am_M → Prop} {X : Nat → am_L → List am_V → am_M → Prop} (hX : am_cl eX7_count lX7_count (some .int) K X) {σ : am_M} (a : Int32) (h : (m_ok σ) ∧ (X 10 [some (.inr (.inr (20, 0))), some (.inl a), some (.inl (nI (m_here σ))), some (.inl (0 : Int32)), some (.inl (0 : Int32))] [] σ)) : X 0 [some (.inr (.inr (20, 0))), some (.inl a), none, none, none] [] σ := am_run_ok emX7_count hX [10] 400 (show 1 ≤ 1 ∧ 0 ≤ 8 ∧ True ∧ sX7_hereNow [.inr (.inr (20, 0))] σ (fun vv tt => am_run eX7_count lX7_count (some .int) K X [10] 398 4 [some (.inr (.inr (20, 0))), some (.inl a), none, none, none] (vv.toList ++ []) tt) from ⟨am_le rfl, am_le rfl, trivial, uX7_hereNow (⟨h.1, (show X 10 [some (.inr (.inr (20, 0))), some (.inl a), some (.inl (nI (m_here σ))), some (.inl (0 : Int32)), some (.inl (0 : Int32))] [] σ from h.2)⟩)⟩)
set_option maxRecDepth 100000 in
set_option maxHeartbeats 400000 in
theorem b_yc10 {K : Option am_V → am_M → Prop} {X : Nat → am_L → List am_V → am_M → Prop} (hX : am_cl eX7_count lX7_count (some .int) K X) {σ : am_M} (a s : Int32) (H t : Nat) (h : (((σ 20 0 1) ≤ (nI t)) → X 59 [some (.inr (.inr (20, 0))), some (.inl a), some (.inl (nI H)), some (.inl s), some (.inl (nI t))] [] σ) ∧ (¬ ((σ 20 0 1) ≤ (nI t)) → (((((nI H) >>> ((nI t) &&& 31)) &&& (1 : Int32)) = (1 : Int32)) → sX7_alikeWith [.inr (.inr (20, 0)), .inl (nI t), .inl ((nI H) &&& (((1 : Int32) <<< ((nI t) &&& 31)) - (1 : Int32)))] σ (fun vv tt => X 44 [some (.inr (.inr (20, 0))), some (.inl a), some (.inl (nI H)), some (.inl s), some (.inl (nI t))] (vv.toList ++ [.inl s]) tt)) ∧ (¬ ((((nI H) >>> ((nI t) &&& 31)) &&& (1 : Int32)) = (1 : Int32)) → X 10 [some (.inr (.inr (20, 0))), some (.inl a), some (.inl (nI H)), some (.inl (s + (0 : Int32))), some (.inl ((nI t) + (1 : Int32)))] [] σ))) : X 10 [some (.inr (.inr (20, 0))), some (.inl a), some (.inl (nI H)), some (.inl s), some (.inl (nI t))] [] σ := am_run_ok emX7_count hX [44, 59, 10] 400 (show (((σ 20 0 1) ≤ (nI t)) → X 59 [some (.inr (.inr (20, 0))), some (.inl a), some (.inl (nI H)), some (.inl s), some (.inl (nI t))] [] σ) ∧ (¬ ((σ 20 0 1) ≤ (nI t)) → (((((nI H) >>> ((nI t) &&& 31)) &&& (1 : Int32)) = (1 : Int32)) → 3 ≤ 4 ∧ 1 ≤ 8 ∧ True ∧ sX7_alikeWith [.inr (.inr (20, 0)), .inl (nI t), .inl ((nI H) &&& (((1 : Int32) <<< ((nI t) &&& 31)) - (1 : Int32)))] σ (fun vv tt => X 44 [some (.inr (.inr (20, 0))), some (.inl a), some (.inl (nI H)), some (.inl s), some (.inl (nI t))] (vv.toList ++ [.inl s]) tt)) ∧ (¬ ((((nI H) >>> ((nI t) &&& 31)) &&& (1 : Int32)) = (1 : Int32)) → X 10 [some (.inr (.inr (20, 0))), some (.inl a), some (.inl (nI H)), some (.inl (s + (0 : Int32))), some (.inl ((nI t) + (1 : Int32)))] [] σ)) from ⟨fun q0 => (h.1 q0), fun q0 => ⟨fun q1 => ⟨am_le rfl, am_le rfl, trivial, ((h.2 q0).1 q1)⟩, fun q1 => ((h.2 q0).2 q1)⟩⟩)
set_option maxRecDepth 100000 in
set_option maxHeartbeats 400000 in
theorem b_yc44 {K : Option am_V → am_M → Prop} {X : Nat → am_L → List am_V → am_M → Prop} (hX : am_cl eX7_count lX7_count (some .int) K X) {σ : am_M} (a s : Int32) (H t w : Nat) (h : (w < 512) ∧ (X 10 [some (.inr (.inr (20, 0))), some (.inl a), some (.inl (nI H)), some (.inl (s + (nI (q_pop w 9)))), some (.inl ((nI t) + (1 : Int32)))] [] σ)) : X 44 [some (.inr (.inr (20, 0))), some (.inl a), some (.inl (nI H)), some (.inl s), some (.inl (nI t))] [.inl (nI w), .inl s] σ := am_run_ok emX7_count hX [10] 400 (show 1 ≤ 2 ∧ 1 ≤ 8 ∧ sX7_bitsOf [.inl (nI w)] σ (fun vv tt => am_run eX7_count lX7_count (some .int) K X [10] 399 47 [some (.inr (.inr (20, 0))), some (.inl a), some (.inl (nI H)), some (.inl s), some (.inl (nI t))] (vv.toList ++ [.inl s]) tt) from ⟨am_le rfl, am_le rfl, uX7_bitsOf (⟨h.1, (show X 10 [some (.inr (.inr (20, 0))), some (.inl a), some (.inl (nI H)), some (.inl (s + (nI (q_pop w 9)))), some (.inl ((nI t) + (1 : Int32)))] [] σ from h.2)⟩)⟩)
set_option maxRecDepth 100000 in
set_option maxHeartbeats 400000 in
theorem b_yc59 {K : Option am_V → am_M → Prop} {X : Nat → am_L → List am_V → am_M → Prop} (hX : am_cl eX7_count lX7_count (some .int) K X) {σ : am_M} (a s : Int32) (H t : Nat) (h : (((a).toInt = 0) → K (some (.inl (σ 20 0 23))) σ) ∧ (¬ ((a).toInt = 0) → (((a).toInt = 1) → (((σ 28 0 0) = (0 : Int32)) → (((σ 28 0 1) = (0 : Int32)) → K (some (.inl (0 : Int32))) σ) ∧ (¬ ((σ 28 0 1) = (0 : Int32)) → K (some (.inl (1 : Int32))) σ)) ∧ (¬ ((σ 28 0 0) = (0 : Int32)) → (((σ 28 0 1) = (0 : Int32)) → K (some (.inl (1 : Int32))) σ) ∧ (¬ ((σ 28 0 1) = (0 : Int32)) → K (some (.inl (2 : Int32))) σ))) ∧ (¬ ((a).toInt = 1) → (((a).toInt = 2) → K (some (.inl (σ 20 0 7))) σ) ∧ (¬ ((a).toInt = 2) → (((a).toInt = 3) → (((σ 29 0 0) = (-4 : Int32)) → K (some (.inl (-4 : Int32))) σ) ∧ (¬ ((σ 29 0 0) = (-4 : Int32)) → K (some (.inl (σ 30 0 0))) σ)) ∧ (¬ ((a).toInt = 3) → (((a).toInt = 4) → (m_ok σ) ∧ (((p_who (m_r σ 0) (m_n σ) (1 : Int32)) < 512) ∧ (K (some (.inl (nI (q_pop (p_who (m_r σ 0) (m_n σ) (1 : Int32)) 9)))) σ))) ∧ (¬ ((a).toInt = 4) → (((a).toInt = 5) → (m_ok σ) ∧ (((p_who (m_r σ 0) (m_n σ) (2 : Int32)) < 512) ∧ (K (some (.inl (nI (q_pop (p_who (m_r σ 0) (m_n σ) (2 : Int32)) 9)))) σ))) ∧ (¬ ((a).toInt = 5) → (((a).toInt = 6) → K (some (.inl s)) σ) ∧ (¬ ((a).toInt = 6) → K (some (.inl (-1 : Int32))) σ)))))))) : X 59 [some (.inr (.inr (20, 0))), some (.inl a), some (.inl (nI H)), some (.inl s), some (.inl (nI t))] [] σ := am_run_ok emX7_count hX [] 400 (show (_) ∧ ((((a).toInt = 0) → K (some (.inl (σ 20 0 23))) σ) ∧ (¬ ((a).toInt = 0) → (((a).toInt = 1) → (vp_in (0 : Int32) 2) ∧ ((((σ 28 0 0) = (0 : Int32)) → (vp_in (1 : Int32) 2) ∧ ((((σ 28 0 1) = (0 : Int32)) → K (some (.inl (0 : Int32))) σ) ∧ (¬ ((σ 28 0 1) = (0 : Int32)) → K (some (.inl (1 : Int32))) σ))) ∧ (¬ ((σ 28 0 0) = (0 : Int32)) → (vp_in (1 : Int32) 2) ∧ ((((σ 28 0 1) = (0 : Int32)) → K (some (.inl (1 : Int32))) σ) ∧ (¬ ((σ 28 0 1) = (0 : Int32)) → K (some (.inl (2 : Int32))) σ))))) ∧ (¬ ((a).toInt = 1) → (((a).toInt = 2) → K (some (.inl (σ 20 0 7))) σ) ∧ (¬ ((a).toInt = 2) → (((a).toInt = 3) → (vp_in (0 : Int32) 4) ∧ ((((σ 29 0 0) = (-4 : Int32)) → K (some (.inl (-4 : Int32))) σ) ∧ (¬ ((σ 29 0 0) = (-4 : Int32)) → (vp_in (0 : Int32) 4) ∧ (K (some (.inl (σ 30 0 0))) σ)))) ∧ (¬ ((a).toInt = 3) → (((a).toInt = 4) → 3 ≤ 3 ∧ 0 ≤ 8 ∧ True ∧ sX7_whoOn [.inr (.inr (20, 0)), .inl (0 : Int32), .inl (1 : Int32)] σ (fun vv tt => am_run eX7_count lX7_count (some .int) K X [] 394 173 [some (.inr (.inr (20, 0))), some (.inl a), some (.inl (nI H)), some (.inl s), some (.inl (nI t))] (vv.toList ++ []) tt)) ∧ (¬ ((a).toInt = 4) → (((a).toInt = 5) → 3 ≤ 3 ∧ 0 ≤ 8 ∧ True ∧ sX7_whoOn [.inr (.inr (20, 0)), .inl (0 : Int32), .inl (2 : Int32)] σ (fun vv tt => am_run eX7_count lX7_count (some .int) K X [] 394 183 [some (.inr (.inr (20, 0))), some (.inl a), some (.inl (nI H)), some (.inl s), some (.inl (nI t))] (vv.toList ++ []) tt)) ∧ (¬ ((a).toInt = 5) → (((a).toInt = 6) → K (some (.inl s)) σ) ∧ (¬ ((a).toInt = 6) → K (some (.inl (-1 : Int32))) σ)))))))) from ⟨by decide, ⟨fun q0 => (h.1 q0), fun q0 => ⟨fun q1 => ⟨am_ci (by decide), ⟨fun q2 => ⟨am_ci (by decide), ⟨fun q3 => ((((h.2 q0).1 q1).1 q2).1 q3), fun q3 => ((((h.2 q0).1 q1).1 q2).2 q3)⟩⟩, fun q2 => ⟨am_ci (by decide), ⟨fun q3 => ((((h.2 q0).1 q1).2 q2).1 q3), fun q3 => ((((h.2 q0).1 q1).2 q2).2 q3)⟩⟩⟩⟩, fun q1 => ⟨fun q2 => (((h.2 q0).2 q1).1 q2), fun q2 => ⟨fun q3 => ⟨am_ci (by decide), ⟨fun q4 => (((((h.2 q0).2 q1).2 q2).1 q3).1 q4), fun q4 => ⟨am_ci (by decide), (((((h.2 q0).2 q1).2 q2).1 q3).2 q4)⟩⟩⟩, fun q3 => ⟨fun q4 => ⟨am_le rfl, am_le rfl, trivial, wX7_whoOn (g := 0) (⟨(by decide), ⟨(((((h.2 q0).2 q1).2 q2).2 q3).1 q4).1, (show 1 ≤ 1 ∧ 0 ≤ 8 ∧ sX7_bitsOf [.inl (nI (p_who (m_r σ 0) (m_n σ) (1 : Int32)))] σ (fun vv tt => am_run eX7_count lX7_count (some .int) K X [] 393 176 [some (.inr (.inr (20, 0))), some (.inl a), some (.inl (nI H)), some (.inl s), some (.inl (nI t))] (vv.toList ++ []) tt) from ⟨am_le rfl, am_le rfl, uX7_bitsOf (⟨(((((h.2 q0).2 q1).2 q2).2 q3).1 q4).2.1, (show K (some (.inl (nI (q_pop (p_who (m_r σ 0) (m_n σ) (1 : Int32)) 9)))) σ from (((((h.2 q0).2 q1).2 q2).2 q3).1 q4).2.2)⟩)⟩)⟩⟩)⟩, fun q4 => ⟨fun q5 => ⟨am_le rfl, am_le rfl, trivial, wX7_whoOn (g := 0) (⟨(by decide), ⟨((((((h.2 q0).2 q1).2 q2).2 q3).2 q4).1 q5).1, (show 1 ≤ 1 ∧ 0 ≤ 8 ∧ sX7_bitsOf [.inl (nI (p_who (m_r σ 0) (m_n σ) (2 : Int32)))] σ (fun vv tt => am_run eX7_count lX7_count (some .int) K X [] 393 186 [some (.inr (.inr (20, 0))), some (.inl a), some (.inl (nI H)), some (.inl s), some (.inl (nI t))] (vv.toList ++ []) tt) from ⟨am_le rfl, am_le rfl, uX7_bitsOf (⟨((((((h.2 q0).2 q1).2 q2).2 q3).2 q4).1 q5).2.1, (show K (some (.inl (nI (q_pop (p_who (m_r σ 0) (m_n σ) (2 : Int32)) 9)))) σ from ((((((h.2 q0).2 q1).2 q2).2 q3).2 q4).1 q5).2.2)⟩)⟩)⟩⟩)⟩, fun q5 => ⟨fun q6 => (((((((h.2 q0).2 q1).2 q2).2 q3).2 q4).2 q5).1 q6), fun q6 => (((((((h.2 q0).2 q1).2 q2).2 q3).2 q4).2 q5).2 q6)⟩⟩⟩⟩⟩⟩⟩⟩)
theorem q_pop_sub {S T : Nat} : ∀ {m : Nat}, (∀ i, i < m → S.testBit i = true → T.testBit i = true) → q_pop S m ≤ q_pop T m ∧ (q_pop S m = q_pop T m → ∀ i, i < m → S.testBit i = T.testBit i)
  | 0, _ => ⟨Nat.le_refl _, fun _ i hi => absurd hi (Nat.not_lt_zero i)⟩
  | m + 1, h => by
    obtain ⟨a, b⟩ := q_pop_sub (S := S) (T := T) (m := m) (fun i hi => h i (by omega))
    unfold q_pop
    cases cs : S.testBit m <;> cases ct : T.testBit m
    · simp only [Bool.false_eq_true, if_false]
      refine ⟨by omega, fun e i hi => ?_⟩
      by_cases c : i = m
      · rw [c, cs, ct]
      · exact b (by omega) i (by omega)
    · simp only [Bool.false_eq_true, if_false, if_true]
      exact ⟨by omega, fun e => absurd e (by omega)⟩
    · rw [h m (by omega) cs] at ct
      exact absurd ct (by decide)
    · simp only [if_true]
      refine ⟨by omega, fun e i hi => ?_⟩
      by_cases c : i = m
      · rw [c, cs, ct]
      · exact b (by omega) i (by omega)
theorem q_any_bit {i : Nat} : ∀ {L : List Nat}, (q_any L).testBit i = true ↔ ∃ T, T ∈ L ∧ T.testBit i = true := by
  have main : ∀ (L : List Nat) (x : Nat), (L.foldl (fun a b => a ||| b) x).testBit i = true ↔ (x.testBit i = true ∨ ∃ T, T ∈ L ∧ T.testBit i = true) := by
    intro L
    induction L with
    | nil =>
      intro x
      simp
    | cons y L ih =>
      intro x
      show (L.foldl (fun a b => a ||| b) (x ||| y)).testBit i = true ↔ _
      rw [ih, Nat.testBit_or, Bool.or_eq_true]
      constructor
      · rintro ((q | q) | ⟨T, h, q⟩)
        · exact Or.inl q
        · exact Or.inr ⟨y, List.mem_cons_self, q⟩
        · exact Or.inr ⟨T, List.mem_cons_of_mem _ h, q⟩
      · rintro (q | ⟨T, h, q⟩)
        · exact Or.inl (Or.inl q)
        · rcases List.mem_cons.mp h with e | e
          · subst e
            exact Or.inl (Or.inr q)
          · exact Or.inr ⟨T, e, q⟩
  intro L
  unfold q_any
  rw [main]
  simp
def t_bit (S i : Nat) : Nat := S ||| 2 ^ i
theorem t_bit_b (S i j : Nat) : (t_bit S i).testBit j = (S.testBit j || decide (i = j)) := by
  unfold t_bit
  rw [Nat.testBit_or, Nat.testBit_two_pow]
def l_b (r : Rw) (n H S : Nat) (p : Nat) : Bool := H.testBit p && (!(S.testBit p) && p_un r n (S ||| 2 ^ p))
theorem l_last {r : Rw} {n pl H S : Nat} (h9 : n ≤ 9) (hH : H < 2 ^ n) (hS : S < 2 ^ n) (hp : q_pop S 9 + 1 = pl) (hs : q_df S H = 0) : q_df (q_any (q_ls (p_gd r n pl H S) (2 ^ n))) S = q_set (l_b r n H S) n := by
  have ins : ∀ i, i < n → S.testBit i = false → q_pop (S ||| 2 ^ i) 9 = pl := fun i hi h => by
    rw [q_pop_ins (S := S) (T := S ||| 2 ^ i) (p := i) h (fun j => by rw [Nat.testBit_or, Nat.testBit_two_pow]; simp [eq_comm]) (m := 9) (by omega)]
    exact hp
  apply Nat.eq_of_testBit_eq
  intro i
  rw [q_df_bit, q_set_bit, Bool.eq_iff_iff, Bool.and_eq_true, Bool.and_eq_true, q_any_bit]
  constructor
  · rintro ⟨⟨T, hT, ti⟩, si⟩
    rw [q_ls_mem] at hT
    obtain ⟨tn, g⟩ := hT
    unfold p_gd at g
    rw [Bool.and_eq_true, Bool.and_eq_true, Bool.and_eq_true] at g
    obtain ⟨g1, g2, g3, g4⟩ := g
    have g1 := of_decide_eq_true g1
    have g2 := of_decide_eq_true g2
    have g3 := of_decide_eq_true g3
    have si' : S.testBit i = false := by
      cases c : S.testBit i
      · rfl
      · rw [c] at si
        exact absurd si (by decide)
    have hi : i < n := by
      rcases Nat.lt_or_ge i n with q | q
      · exact q
      · rw [q_hi tn q] at ti
        exact absurd ti (by decide)
    have eT : S ||| 2 ^ i = T := by
      have sub := q_pop_sub (S := S ||| 2 ^ i) (T := T) (m := 9) (fun j hj q => by
        rw [Nat.testBit_or, Nat.testBit_two_pow, Bool.or_eq_true] at q
        rcases q with q | q
        · exact q_sub_bit g2 q
        · rw [← of_decide_eq_true q]
          exact ti)
      have := sub.2 (by rw [ins i hi si', g3])
      have l1 : S ||| 2 ^ i < 2 ^ n := Nat.or_lt_two_pow hS (Nat.pow_lt_pow_right (by decide) hi)
      exact q_ext l1 tn (fun j hj => this j (by omega))
    refine ⟨decide_eq_true hi, ?_⟩
    unfold l_b
    rw [eT, q_sub_bit g1 ti, si', g4]
    rfl
  · rintro ⟨hi, g⟩
    have hi := of_decide_eq_true hi
    unfold l_b at g
    rw [Bool.and_eq_true, Bool.and_eq_true] at g
    obtain ⟨g1, g2, g3⟩ := g
    have si' : S.testBit i = false := by
      cases c : S.testBit i
      · rfl
      · rw [c] at g2
        exact absurd g2 (by decide)
    have l1 : S ||| 2 ^ i < 2 ^ n := Nat.or_lt_two_pow hS (Nat.pow_lt_pow_right (by decide) hi)
    refine ⟨⟨S ||| 2 ^ i, q_ls_mem.2 ⟨l1, ?_⟩, ?_⟩, by rw [si']; rfl⟩
    · unfold p_gd
      rw [ins i hi si', g3]
      have d1 : q_df (S ||| 2 ^ i) H = 0 := q_df_0.2 fun j q => by
        rw [Nat.testBit_or, Nat.testBit_two_pow, Bool.or_eq_true] at q
        rcases q with q | q
        · exact q_sub_bit hs q
        · rw [← of_decide_eq_true q]
          exact g1
      have d2 : q_df S (S ||| 2 ^ i) = 0 := q_df_0.2 fun j q => by
        rw [Nat.testBit_or, q]
        rfl
      rw [d1, d2]
      simp
    · rw [Nat.testBit_or, Nat.testBit_two_pow]
      simp
theorem pr_last {σ : am_M} {a : Int32} (hI : Inv σ) : pairI sX6_last sX7_last [.inl a] σ := by
  obtain ⟨n, pl, hv⟩ := id hI
  obtain ⟨h9, a1, a2, -⟩ := id hv
  obtain ⟨b1, b2, b3, b4, b5, b6, b7, b8, b9, b10, b11⟩ := id a2
  obtain ⟨k1, k2, k3, k4, k5, k6, k7, k8, k9, k10, k11, k12, k13⟩ := iv_q hv ivz_refl
  have h2 : 2 ^ n ≤ 512 := Nat.pow_le_pow_right (n := 2) (by decide) h9
  have h1 : 1 ≤ 2 ^ n := Nat.one_le_two_pow
  have e2 : (1 : Int32) <<< (nI n &&& 31) - (1 : Int32) = nI (2 ^ n - 1) := by
    rw [q_one n (by omega)]
    exact pk_sub (b := 1) h1
  refine ⟨am_le rfl, fun X hX => b_xl0 hX a ?_⟩
  rw [b1, e2]
  have yb : (a < 0 ∨ nI (2 ^ n - 1) < a) → sX7_last [am_r 20 0, .inl a] σ (fun w τ2 => w = some (.inl (-1 : Int32)) ∧ Inv τ2) := fun q => ⟨am_le rfl, fun Y hY => b_yl0 hY a (by
      rw [a1, e2]
      exact ⟨fun _ => ⟨rfl, hI⟩, fun c1 => ⟨fun _ => ⟨rfl, hI⟩, fun c2 => (q.elim c1 c2).elim⟩⟩)⟩
  refine ⟨fun c1 => ⟨_, rfl, yb (Or.inl c1)⟩, fun c1 => ⟨fun c2 => ⟨_, rfl, yb (Or.inr c2)⟩, fun c2 => ?_⟩⟩
  obtain ⟨S, hS, rfl⟩ := q_0b (b := 2 ^ n - 1) rfl (by omega) c1 c2
  have hS' : S < 2 ^ n := by omega
  have hq := q_pop_le S 9
  have e3 : nI (q_pop S 9) = nI pl - (1 : Int32) ↔ q_pop S 9 + 1 = pl := by
    rw [show nI pl - (1 : Int32) = nI (pl - 1) from pk_sub (b := 1) (by omega), nI_eq (by omega) (by omega)]
    omega
  refine b_xl19 hX _ ⟨k9, by omega, ?_⟩
  rw [b3, e3, q_dfz (by omega)]
  have ys : ∀ (τ : am_M) (v : Int32), ivz σ τ → (q_pop S 9 + 1 = pl → q_df S (c_here σ 0) = 0 → ∀ Y, am_cl eX7_last lX7_last (some .int) (fun w τ2 => w = some (.inl v) ∧ Inv τ2) Y → Y 55 [some (am_r 20 0), some (.inl (nI S)), some (.inl (nI (c_here σ 0))), some (.inl (0 : Int32)), some (.inl (0 : Int32)), none] [] τ) → ((¬ q_pop S 9 + 1 = pl ∨ ¬ q_df S (c_here σ 0) = 0) → v = -2) → sX7_last [am_r 20 0, .inl (nI S)] τ (fun w τ2 => w = some (.inl v) ∧ Inv τ2) := by
    intro τ v hz y1 y2
    obtain ⟨j1, j2, j3, j4, j5, j6, j7, j8, j9, j10, j11, j12, j13⟩ := iv_q hv hz
    have hvz := iv_z hz hv
    refine ⟨am_le rfl, fun Y hY => b_yl0 hY _ ?_⟩
    rw [hvz.2.1, e2]
    refine ⟨fun q => absurd q c1, fun _ => ⟨fun q => absurd q c2, fun _ => b_yl20 hY _ ⟨j1, by omega, ?_⟩⟩⟩
    rw [show τ 21 0 63 + (3 : Int32) = nI pl from j7, e3, q_dfz (by omega), j3]
    exact ⟨fun d1 => ⟨fun d2 => y1 d1 d2 Y hY, fun d2 => ⟨by rw [y2 (Or.inr d2)], n, pl, hvz⟩⟩, fun d1 => ⟨by rw [y2 (Or.inl d1)], n, pl, hvz⟩⟩
  refine ⟨fun d1 => ⟨fun d2 => ?_, fun d2 => ⟨_, rfl, ys σ _ ivz_refl (fun _ q => absurd q d2) (fun _ => rfl)⟩⟩, fun d1 => ⟨_, rfl, ys σ _ ivz_refl (fun q => absurd q d1) (fun _ => rfl)⟩⟩
  refine tX3_gather k9 (by omega) (q_512 h9 k4) (by omega) fun τ hg => ?_
  rw [k10] at hg
  have hz := ivz_got hg
  obtain ⟨j1, j2, j3, j4, j5, j6, j7, j8, j9, j10, j11, j12, j13⟩ := iv_q hv hz
  refine b_xl74 hX _ _ (tX3_inAny (s_got_has hg (p_gd_126 h9 (by omega))) (b_xl81 hX _ _ _ ?_))
  rw [q_dfI, l_last h9 k4 hS' d1 d2]
  refine ⟨_, rfl, ys τ _ hz (fun _ _ Y hY => ?_) (fun q => (q.elim (fun w => w d1) (fun w => w d2)).elim)⟩
  have loop := q_dn (W := fun i => Y 55 [some (am_r 20 0), some (.inl (nI S)), some (.inl (nI (c_here σ 0))), some (.inl (nI (q_set (l_b (c_r σ 0) n (c_here σ 0) S) i))), some (.inl (nI i)), none] [] τ) (n := n) (fun i hi IH => ?_) ?_ 0 (Nat.zero_le _)
  · exact loop
  · refine b_yl55 hY _ _ _ _ ?_
    have h31 : c_here σ 0 < 2 ^ 31 := Nat.lt_of_lt_of_le (q_512 h9 k4) (by decide)
    rw [(iv_z hz hv).2.1, nI_leI (by omega) (by omega), q_bitv h31 (by omega), q_bitv (by omega) (by omega), q_ite1, q_ite0]
    have next : ∀ (s : Int32) (v : Int32), s = nI (q_set (l_b (c_r σ 0) n (c_here σ 0) S) (i + 1)) → Y 55 [some (am_r 20 0), some (.inl (nI S)), some (.inl (nI (c_here σ 0))), some (.inl s), some (.inl (nI i + (1 : Int32))), some (.inl v)] [] τ := fun s v e => by
      rw [e, show nI i + (1 : Int32) = nI (i + 1) from nI_add i 1]
      exact am_fo hY (ls := [some (am_r 20 0), some (.inl (nI S)), some (.inl (nI (c_here σ 0))), some (.inl (nI (q_set (l_b (c_r σ 0) n (c_here σ 0) S) (i + 1)))), some (.inl (nI (i + 1))), none]) ⟨rfl, rfl, rfl, rfl, rfl, trivial⟩ IH
    have no : ∀ v : Int32, v = 0 → l_b (c_r σ 0) n (c_here σ 0) S i = false → Y 88 [some (am_r 20 0), some (.inl (nI S)), some (.inl (nI (c_here σ 0))), some (.inl (nI (q_set (l_b (c_r σ 0) n (c_here σ 0) S) i))), some (.inl (nI i)), none] [.inl v] τ := fun v e0 hb => b_yl88 hY _ _ _ _ _ ⟨fun _ => b_yl116 hY _ _ _ _ _ (next _ _ (by rw [q_or0, q_set_0 hb])), fun q => absurd e0 q⟩
    refine ⟨fun q => absurd q (by omega), fun _ => ⟨fun g1 => ⟨fun g2 => ?_, fun g2 => no _ rfl ?_⟩, fun g1 => no _ rfl ?_⟩⟩
    · refine b_yl88 hY _ _ _ _ _ ⟨fun q => absurd q (by decide), fun _ => ?_⟩
      rw [q_one i (by omega), q_or]
      refine tX7_isUnlike j1 (q_512 h9 (Nat.or_lt_two_pow hS' (Nat.pow_lt_pow_right (by decide) hi))) ?_
      rw [j2, j6]
      refine ⟨fun u => b_yl106 hY _ _ _ _ _ _ ⟨fun q => absurd q (by decide), fun _ => next _ _ ?_⟩, fun u => b_yl106 hY _ _ _ _ _ _ ⟨fun _ => next _ _ ?_, fun q => absurd rfl q⟩⟩
      · rw [q_one i (by omega), q_or, q_set_1]
        unfold l_b
        rw [g1, g2, u]
        rfl
      · rw [q_or0, q_set_0]
        unfold l_b
        rw [g1, g2, Bool.eq_false_iff.mpr u]
        rfl
    · unfold l_b
      rw [g1, (Bool.eq_false_or_eq_true (S.testBit i)).resolve_right g2]
      rfl
    · unfold l_b
      rw [Bool.eq_false_iff.mpr g1]
      rfl
  · refine b_yl55 hY _ _ _ _ ⟨fun _ => ⟨rfl, n, pl, iv_z hz hv⟩, fun q => absurd (by rw [(iv_z hz hv).2.1]; exact nI_le (Nat.le_refl _) (by omega)) q⟩
theorem q_ct_add {P : Nat → Bool} {a : Nat} : ∀ {b : Nat}, q_ct P (a + b) = q_ct P a + q_ct (fun y => P (a + y)) b
  | 0 => rfl
  | b + 1 => by
    have ih := q_ct_add (P := P) (a := a) (b := b)
    show (if P (a + b) then q_ct P (a + b) + 1 else q_ct P (a + b)) = q_ct P a + (if P (a + b) then q_ct (fun y => P (a + y)) b + 1 else q_ct (fun y => P (a + y)) b)
    rw [ih]
    split <;> omega
theorem q_ct_cg {P Q : Nat → Bool} : ∀ {n : Nat}, (∀ x, x < n → P x = Q x) → q_ct P n = q_ct Q n
  | 0, _ => rfl
  | n + 1, h => by
    unfold q_ct
    rw [h n (by omega), q_ct_cg (fun x hx => h x (by omega))]
theorem q_ct_0 {P : Nat → Bool} : ∀ {n : Nat}, (∀ x, x < n → P x = false) → q_ct P n = 0
  | 0, _ => rfl
  | n + 1, h => by
    unfold q_ct
    rw [h n (by omega), q_ct_0 (fun x hx => h x (by omega))]
    rfl
theorem q_ct_hi {P : Nat → Bool} {m : Nat} (h : ∀ x, m ≤ x → P x = false) : ∀ {n : Nat}, m ≤ n → q_ct P n = q_ct P m
  | 0, hn => by rw [show m = 0 by omega]
  | n + 1, hn => by
    by_cases c : m = n + 1
    · rw [c]
    · show (if P n then q_ct P n + 1 else q_ct P n) = _
      rw [h n (by omega), q_ct_hi h (by omega)]
      rfl
theorem q_pop_ct {S : Nat} : ∀ {n : Nat}, q_pop S n = q_ct (fun i => S.testBit i) n
  | 0 => rfl
  | n + 1 => by
    unfold q_pop q_ct
    rw [q_pop_ct]
    split <;> omega
theorem q_ct_one {R : Nat → Bool} (h : ∀ y, 0 < y → R y = false) {b : Nat} (hb : 1 ≤ b) : q_ct R b = if R 0 then 1 else 0 := by
  rw [q_ct_hi (m := 1) (fun x hx => h x (by omega)) hb]
  show (if R 0 then 0 + 1 else 0) = _
  rfl
theorem q_ct_pow {Q : Nat → Bool} : ∀ {m : Nat}, (∀ y, y < 2 ^ m → Q y = true → ∃ j, y = 2 ^ j) → q_ct Q (2 ^ m) = q_ct (fun j => Q (2 ^ j)) m
  | 0, h => by
    show (if Q 0 then 0 + 1 else 0) = 0
    cases c : Q 0
    · rfl
    · obtain ⟨j, hj⟩ := h 0 (by decide) c
      have := Nat.two_pow_pos j
      omega
  | m + 1, h => by
    have h2 : 2 ^ (m + 1) = 2 ^ m + 2 ^ m := by omega
    have hp := Nat.two_pow_pos m
    rw [h2, q_ct_add, q_ct_pow (fun y hy => h y (by omega))]
    show _ = (if Q (2 ^ m) then q_ct (fun j => Q (2 ^ j)) m + 1 else q_ct (fun j => Q (2 ^ j)) m)
    have e : q_ct (fun y => Q (2 ^ m + y)) (2 ^ m) = if Q (2 ^ m) then 1 else 0 := by
      rw [q_ct_cg (Q := fun y => decide (y = 0) && Q (2 ^ m)) (fun y hy => ?_)]
      · rw [q_ct_one (fun y hy => by simp [show ¬ y = 0 by omega]) (by omega)]
        simp
      · by_cases c : y = 0
        · subst c
          simp
        · simp only [c, decide_false, Bool.false_and]
          cases d : Q (2 ^ m + y)
          · rfl
          · obtain ⟨j, hj⟩ := h _ (by omega) d
            exfalso
            rcases Nat.lt_or_ge m j with q | q
            · have := Nat.pow_le_pow_right (n := 2) (by decide) (show m + 1 ≤ j from q)
              omega
            · have := Nat.pow_le_pow_right (n := 2) (by decide) q
              omega
    rw [e]
    split <;> omega
theorem q_p1 : ∀ y, y < 512 → q_pop y 9 = 1 → ∃ j, j < 9 ∧ y = 2 ^ j := by decide +kernel
theorem q_p2 : ∀ m, m < 9 → ∀ y, y < 2 ^ m → q_pop (2 ^ m + y) 9 = 1 + q_pop y 9 := by decide +kernel
theorem q_p3 : ∀ m, m < 9 → ∀ j, j < m → ∀ i, i < 9 → (2 ^ m + 2 ^ j).testBit i = (decide (i = m) || decide (i = j)) := by decide +kernel
theorem q_p4 : ∀ j, j < 9 → q_pop (2 ^ j) 9 = 1 := by decide +kernel
theorem alw_sy (a b : Nat → Int32) (j : Nat) : alw a b j = alw b a j := by
  unfold alw
  rw [decide_eq_decide.mpr (show a j = b j ↔ b j = a j from ⟨Eq.symm, Eq.symm⟩), Bool.and_comm (cn (a 0) (nI j))]
theorem al_sy (a b : Nat → Int32) : al a b = al b a := by
  unfold al
  rw [alw_sy a b 1, alw_sy a b 2, alw_sy a b 3]
theorem un_2 {r : Rw} {n m j : Nat} (h9 : n ≤ 9) (hm : m < n) (hj : j < m) : p_un r n (2 ^ m + 2 ^ j) = !(al (r m) (r j)) := by
  have bit : ∀ i, i < n → (2 ^ m + 2 ^ j).testBit i = (decide (i = m) || decide (i = j)) := fun i hi => q_p3 m (by omega) j hj i (by omega)
  cases c : al (r m) (r j)
  · show p_un r n (2 ^ m + 2 ^ j) = true
    unfold p_un
    rw [List.all_eq_true]
    intro p hp
    have hp := List.mem_range.mp hp
    rw [bit p hp]
    by_cases d : p = m ∨ p = j
    · have : p_aw r n p (2 ^ m + 2 ^ j) = 0 := by
        apply Nat.eq_of_testBit_eq
        intro i
        rw [p_aw_bit, Nat.zero_testBit]
        by_cases hi : i < n
        · rw [bit i hi]
          by_cases e : i = m ∨ i = j
          · by_cases g : i = p
            · simp [g]
            · have : al (r p) (r i) = false := by
                rcases d with d | d <;> rcases e with e | e
                · omega
                · rw [d, e]
                  exact c
                · rw [d, e, al_sy]
                  exact c
                · omega
              rw [this]
              simp
          · simp [show ¬ i = m from fun q => e (Or.inl q), show ¬ i = j from fun q => e (Or.inr q)]
        · simp [hi]
      rw [this]
      simp
    · simp [show ¬ p = m from fun q => d (Or.inl q), show ¬ p = j from fun q => d (Or.inr q)]
  · show p_un r n (2 ^ m + 2 ^ j) = false
    unfold p_un
    rw [List.all_eq_false]
    refine ⟨m, List.mem_range.mpr hm, ?_⟩
    rw [bit m hm]
    have : ¬ p_aw r n m (2 ^ m + 2 ^ j) = 0 := fun q => by
      have g := p_aw_bit r n m (2 ^ m + 2 ^ j) j
      rw [q, bit j (by omega), c, Nat.zero_testBit] at g
      simp [show j < n by omega, show ¬ j = m by omega] at g
    simp [this]
/-- how many are alike with one who stands before them -/
def a_al (r : Rw) (n H : Nat) : Nat → Nat
  | 0 => 0
  | m + 1 => a_al r n H m + if H.testBit m then q_pop (p_aw r n m (H &&& (2 ^ m - 1))) 9 else 0
theorem a_cnt {r : Rw} {n H : Nat} (h9 : n ≤ 9) : ∀ m, m ≤ n → 2 * (q_ct (p_gd r n 2 H 0) (2 ^ m) + a_al r n H m) + q_pop H m = q_pop H m * q_pop H m
  | 0, _ => by
    have : q_ct (p_gd r n 2 H 0) (2 ^ 0) = 0 := by
      show (if p_gd r n 2 H 0 0 then 0 + 1 else 0) = 0
      rw [p_gd_0 (by decide)]
      rfl
    rw [this]
    rfl
  | m + 1, hm => by
    have ih := a_cnt h9 (r := r) (H := H) m (by omega)
    have h2 : 2 ^ (m + 1) = 2 ^ m + 2 ^ m := by omega
    have hp5 : 2 ^ m ≤ 256 := Nat.pow_le_pow_right (n := 2) (by decide) (show m ≤ 8 by omega)
    have step : q_ct (p_gd r n 2 H 0) (2 ^ (m + 1)) = q_ct (p_gd r n 2 H 0) (2 ^ m) + q_ct (fun j => p_gd r n 2 H 0 (2 ^ m + 2 ^ j)) m := by
      rw [h2, q_ct_add, q_ct_pow (Q := fun y => p_gd r n 2 H 0 (2 ^ m + y))]
      intro y hy g
      unfold p_gd at g
      rw [Bool.and_eq_true, Bool.and_eq_true, Bool.and_eq_true] at g
      have g3 := of_decide_eq_true g.2.2.1
      rw [q_p2 m (by omega) y hy] at g3
      obtain ⟨j, -, e⟩ := q_p1 y (by omega) (by omega)
      exact ⟨j, e⟩
    have val : ∀ j, j < m → p_gd r n 2 H 0 (2 ^ m + 2 ^ j) = (H.testBit m && (H.testBit j && !(al (r m) (r j)))) := fun j hj => by
      have hjm : 2 ^ j < 2 ^ m := Nat.pow_lt_pow_right (by decide) hj
      unfold p_gd
      rw [un_2 h9 (by omega) hj, q_p2 m (by omega) _ hjm, q_p4 j (by omega), q_df0]
      have : decide (q_df (2 ^ m + 2 ^ j) H = 0) = (H.testBit m && H.testBit j) := by
        rw [Bool.eq_iff_iff, decide_eq_true_iff, q_df_0, Bool.and_eq_true]
        constructor
        · intro g
          exact ⟨g m (by rw [q_p3 m (by omega) j hj m (by omega)]; simp), g j (by rw [q_p3 m (by omega) j hj j (by omega)]; simp)⟩
        · rintro ⟨g1, g2⟩ i hi
          rcases Nat.lt_or_ge i 9 with q | q
          · rw [q_p3 m (by omega) j hj i q] at hi
            simp at hi
            rcases hi with e | e
            · rw [e]; exact g1
            · rw [e]; exact g2
          · rw [q_hi (n := 9) (show 2 ^ m + 2 ^ j < 512 by omega) q] at hi
            exact absurd hi (by decide)
      rw [this]
      simp [Bool.and_assoc]
    rw [step, q_ct_cg val]
    show 2 * (_ + _ + (a_al r n H m + if H.testBit m then _ else 0)) + (q_pop H m + if H.testBit m then 1 else 0) = (q_pop H m + if H.testBit m then 1 else 0) * (q_pop H m + if H.testBit m then 1 else 0)
    cases c : H.testBit m
    · have : q_ct (fun j => false && (H.testBit j && !(al (r m) (r j)))) m = 0 := q_ct_0 fun x _ => rfl
      simp only [Bool.false_eq_true, if_false]
      rw [this]
      simp only [Nat.add_zero]
      exact ih
    · simp only [if_true]
      have e1 : q_pop (p_aw r n m (H &&& (2 ^ m - 1))) 9 = q_ct (fun j => H.testBit j && al (r m) (r j)) m := by
        rw [q_pop_ct, q_ct_hi (m := m) (fun x hx => ?_) (by omega)]
        · refine q_ct_cg fun x hx => ?_
          rw [p_aw_bit, Nat.testBit_and, Nat.testBit_two_pow_sub_one]
          simp [hx, show x < n by omega, show ¬ x = m by omega]
        · rw [p_aw_bit, Nat.testBit_and, Nat.testBit_two_pow_sub_one]
          simp [show ¬ x < m by omega]
      have e2 : q_ct (fun j => true && (H.testBit j && !(al (r m) (r j)))) m + q_ct (fun j => H.testBit j && al (r m) (r j)) m = q_pop H m := by
        rw [q_pop_ct]
        clear ih step val e1
        generalize m = q at *
        have main : ∀ k (f g : Nat → Bool), q_ct (fun j => true && (f j && !(g j))) k + q_ct (fun j => f j && g j) k = q_ct f k := by
          intro k f g
          induction k with
          | zero => rfl
          | succ k ih =>
            unfold q_ct
            cases f k <;> cases g k <;> simp <;> simp at ih <;> omega
        exact main q (fun j => H.testBit j) (fun j => al (r q) (r j))
      rw [e1]
      have e3 : (q_pop H m + 1) * (q_pop H m + 1) = q_pop H m * q_pop H m + 2 * q_pop H m + 1 := by
        rw [Nat.add_mul, Nat.mul_add]
        omega
      rw [e3]
      omega
theorem q_pop_or {S T : Nat} (h : ∀ i, S.testBit i = true → T.testBit i = false) : ∀ {m : Nat}, q_pop (S ||| T) m = q_pop S m + q_pop T m
  | 0 => rfl
  | m + 1 => by
    unfold q_pop
    rw [q_pop_or h, Nat.testBit_or]
    cases c : S.testBit m
    · simp
      omega
    · rw [h m c]
      simp
      omega
theorem q_pop_hi {S n : Nat} (h : S < 2 ^ n) {m : Nat} (hm : n ≤ m) : q_pop S m = q_pop S n := by
  rw [q_pop_ct, q_pop_ct, q_ct_hi (fun x hx => q_hi h hx) hm]
theorem q_tri : ∀ h, h ≤ 9 → (nI h * (nI h - (1 : Int32))) / (2 : Int32) = nI (h * (h - 1) / 2) := by decide +kernel
theorem iv_hr2 {σ : am_M} {n pl : Nat} (hv : iv σ n pl) : c_many σ 0 1 + c_many σ 0 2 = q_pop (c_here σ 0) 9 := by
  unfold c_many c_here
  rw [q_pop_or fun i hi => ?_]
  unfold c_who at *
  rw [q_set_bit] at hi ⊢
  simp at hi
  simp [hi.2]
theorem tX6_alikePairs {σ : am_M} {n pl : Nat} {K : am_K} (hv : iv σ n pl) (h : ∀ τ, ivz σ τ → K (some (.inl (nI (a_al (c_r σ 0) n (c_here σ 0) n)))) τ) : sX6_alikePairs [am_r 0 0] σ K := by
  have h9 := hv.1
  obtain ⟨k1, k2, k3, k4, k5, k6, k7, k8, k9, k10, k11, k12, k13⟩ := iv_q hv ivz_refl
  refine ⟨am_le rfl, fun X hX => b_xp0 hX ⟨k9, tX3_gather (z := 2) (M := 0) k9 (by decide) (q_512 h9 k4) (by decide) fun τ hg => b_xp20 hX ?_⟩⟩
  rw [k10] at hg
  have hz := ivz_got hg
  obtain ⟨j1, j2, j3, j4, j5, j6, j7, j8, j9, j10, j11, j12, j13⟩ := iv_q hv hz
  have em : ∀ s, c_many τ 0 s = c_many σ 0 s := fun s => by
    unfold c_many
    rw [j12]
  rw [em, em, nI_add, iv_hr2 hv, q_tri _ (q_pop_le _ 9), hg.2.1, q_ls_len]
  have c := a_cnt (r := c_r σ 0) (H := c_here σ 0) h9 n (Nat.le_refl _)
  rw [q_pop_hi k4 h9]
  have hq := q_pop_le (c_here σ 0) n
  generalize q_pop (c_here σ 0) n = q at c hq ⊢
  generalize q_ct (p_gd (c_r σ 0) n 2 (c_here σ 0) 0) (2 ^ n) = T at c ⊢
  have hK := h τ hz
  generalize a_al (c_r σ 0) n (c_here σ 0) n = A at c hK ⊢
  have e : q * (q - 1) / 2 = T + A := by
    cases q with
    | zero => omega
    | succ q =>
      rw [Nat.add_sub_cancel]
      have : (q + 1) * (q + 1) = (q + 1) * q + (q + 1) := Nat.mul_succ _ _
      generalize (q + 1) * q = u at this ⊢
      omega
  rw [e, pk_sub (by omega), show T + A - T = A by omega]
  exact ⟨j9, j9, hK⟩
theorem tX7_countL {σ τ : am_M} {n pl : Nat} {a : Int32} {X : Nat → am_L → List am_V → am_M → Prop} {K : am_K} (hX : am_cl eX7_count lX7_count (some .int) K X) (hv : iv σ n pl) (hz : ivz σ τ) (h : X 59 [some (am_r 20 0), some (.inl a), some (.inl (nI (c_here σ 0))), some (.inl (nI (a_al (c_r σ 0) n (c_here σ 0) n))), some (.inl (nI n))] [] τ) : X 0 [some (am_r 20 0), some (.inl a), none, none, none] [] τ := by
  have h9 := hv.1
  obtain ⟨j1, j2, j3, j4, j5, j6, j7, j8, j9, j10, j11, j12, j13⟩ := iv_q hv hz
  refine b_yc0 hX _ ⟨j1, ?_⟩
  rw [j3]
  have loop := q_dn (W := fun i => X 10 [some (am_r 20 0), some (.inl a), some (.inl (nI (c_here σ 0))), some (.inl (nI (a_al (c_r σ 0) n (c_here σ 0) i))), some (.inl (nI i))] [] τ) (n := n) (fun i hi IH => ?_) ?_ 0 (Nat.zero_le _)
  · exact loop
  · refine b_yc10 hX _ _ _ _ ?_
    have h31 : c_here σ 0 < 2 ^ 31 := Nat.lt_of_lt_of_le (q_512 h9 j4) (by decide)
    rw [(iv_z hz hv).2.1, nI_leI (by omega) (by omega), q_bitv h31 (by omega), q_ite1, show nI i + (1 : Int32) = nI (i + 1) from nI_add i 1]
    refine ⟨fun q => absurd q (by omega), fun _ => ⟨fun c => ?_, fun c => ?_⟩⟩
    · have hp := Nat.two_pow_pos i
      rw [q_one i (by omega), show nI (2 ^ i) - (1 : Int32) = nI (2 ^ i - 1) from pk_sub (b := 1) (by omega), q_and]
      have l5 : c_here σ 0 &&& (2 ^ i - 1) < 512 := Nat.lt_of_le_of_lt Nat.and_le_left (q_512 h9 j4)
      refine tX7_alikeWith j1 (by omega) l5 (b_yc44 hX _ _ _ _ _ ⟨p_aw_lt (by rw [j2]; exact h9), ?_⟩)
      rw [j2, p_aw_cg hi (fun q j hq hj => j8 q j hq (by omega)), nI_add, show nI i + (1 : Int32) = nI (i + 1) from nI_add i 1]
      have e : a_al (c_r σ 0) n (c_here σ 0) (i + 1) = a_al (c_r σ 0) n (c_here σ 0) i + q_pop (p_aw (c_r σ 0) n i (c_here σ 0 &&& (2 ^ i - 1))) 9 := by
        show _ + (if (c_here σ 0).testBit i then _ else 0) = _
        rw [if_pos c]
      rw [← e]
      exact IH
    · have e : a_al (c_r σ 0) n (c_here σ 0) (i + 1) = a_al (c_r σ 0) n (c_here σ 0) i := by
        show _ + (if (c_here σ 0).testBit i then _ else 0) = _
        rw [if_neg c]
        rfl
      rw [Int32.add_zero, ← e]
      exact IH
  · refine b_yc10 hX _ _ _ _ ⟨fun _ => h, fun q => absurd (by rw [(iv_z hz hv).2.1]; exact nI_le (Nat.le_refl _) (by omega)) q⟩
theorem pr_count {σ : am_M} {a : Int32} (hI : Inv σ) : pairI sX6_count sX7_count [.inl a] σ := by
  obtain ⟨n, pl, hv⟩ := id hI
  obtain ⟨h9, a1, a2, a3, ⟨m, m6, s1, s2, s3⟩, ⟨t, t160, u1, u2, u3⟩, a6, a7, a8⟩ := id hv
  obtain ⟨k1, k2, k3, k4, k5, k6, k7, k8, k9, k10, k11, k12, k13⟩ := iv_q hv ivz_refl
  have ref : ∀ (τ : am_M) (v : Int32), ivz σ τ → (∀ Y : Nat → am_L → List am_V → am_M → Prop, am_cl eX7_count lX7_count (some .int) (fun w τ2 => w = some (.inl v) ∧ Inv τ2) Y → Y 59 [some (am_r 20 0), some (.inl a), some (.inl (nI (c_here σ 0))), some (.inl (nI (a_al (c_r σ 0) n (c_here σ 0) n))), some (.inl (nI n))] [] τ) → sX7_count [am_r 20 0, .inl a] τ (fun w τ2 => w = some (.inl v) ∧ Inv τ2) := fun τ v hz h => ⟨am_le rfl, fun Y hY => tX7_countL hY hv hz (h Y hY)⟩
  have i0 := (a3 0 (by decide)).1
  have i1 := (a3 1 (by decide)).1
  have p0 : ∀ s, q_pop (p_who (m_r σ 0) (m_n σ) s) 9 = c_many σ 0 s := fun s => by
    rw [k2, k5]
    rfl
  have l0 : ∀ s, p_who (m_r σ 0) (m_n σ) s < 512 := fun s => p_who_lt (by rw [k2]; exact h9)
  refine ⟨am_le rfl, fun X hX => b_xc0 hX a ?_⟩
  refine ⟨fun c0 => ⟨_, rfl, ref σ _ ivz_refl fun Y hY => b_yc59 hY _ _ _ _ ⟨fun _ => ⟨by rw [s1, s2], hI⟩, fun q => absurd c0 q⟩⟩, fun c0 => ?_⟩
  refine ⟨fun c1 => ⟨fun d0 => ⟨fun d1 => ⟨_, rfl, ref σ _ ivz_refl fun Y hY => b_yc59 hY _ _ _ _ ⟨fun q => absurd q c0, fun _ => ⟨fun _ => ⟨fun _ => ⟨fun _ => ⟨rfl, hI⟩, fun q => absurd (by rw [← i1]; exact d1) q⟩, fun q => absurd (by rw [← i0]; exact d0) q⟩, fun q => absurd c1 q⟩⟩⟩, fun d1 => ⟨_, rfl, ref σ _ ivz_refl fun Y hY => b_yc59 hY _ _ _ _ ⟨fun q => absurd q c0, fun _ => ⟨fun _ => ⟨fun _ => ⟨fun q => absurd (by rw [i1]; exact q) d1, fun _ => ⟨rfl, hI⟩⟩, fun q => absurd (by rw [← i0]; exact d0) q⟩, fun q => absurd c1 q⟩⟩⟩⟩, fun d0 => ⟨fun d1 => ⟨_, rfl, ref σ _ ivz_refl fun Y hY => b_yc59 hY _ _ _ _ ⟨fun q => absurd q c0, fun _ => ⟨fun _ => ⟨fun q => absurd (by rw [i0]; exact q) d0, fun _ => ⟨fun _ => ⟨rfl, hI⟩, fun q => absurd (by rw [← i1]; exact d1) q⟩⟩, fun q => absurd c1 q⟩⟩⟩, fun d1 => ⟨_, rfl, ref σ _ ivz_refl fun Y hY => b_yc59 hY _ _ _ _ ⟨fun q => absurd q c0, fun _ => ⟨fun _ => ⟨fun q => absurd (by rw [i0]; exact q) d0, fun _ => ⟨fun q => absurd (by rw [i1]; exact q) d1, fun _ => ⟨rfl, hI⟩⟩⟩, fun q => absurd c1 q⟩⟩⟩⟩⟩, fun c1 => ?_⟩
  refine ⟨fun c2 => ⟨_, rfl, ref σ _ ivz_refl fun Y hY => b_yc59 hY _ _ _ _ ⟨fun q => absurd q c0, fun _ => ⟨fun q => absurd q c1, fun _ => ⟨fun _ => ⟨by rw [u1, u2], hI⟩, fun q => absurd c2 q⟩⟩⟩⟩, fun c2 => ?_⟩
  refine ⟨fun c3 => ?_, fun c3 => ?_⟩
  · rcases a6 0 (by decide) with w | ⟨w1, w2, w3, z, w4, w5, w6, w7⟩
    · exact ⟨fun _ => ⟨_, rfl, ref σ _ ivz_refl fun Y hY => b_yc59 hY _ _ _ _ ⟨fun q => absurd q c0, fun _ => ⟨fun q => absurd q c1, fun _ => ⟨fun q => absurd q c2, fun _ => ⟨fun _ => ⟨fun _ => ⟨rfl, hI⟩, fun q => absurd w.2 q⟩, fun q => absurd c3 q⟩⟩⟩⟩⟩, fun q => absurd w.1 q⟩
    · have ne4 : ¬ σ 29 0 0 = -4 := fun q => by
        rw [← w2] at q
        obtain ⟨e, l⟩ := w3
        rw [q] at e
        exact absurd e (by decide)
      refine ⟨fun q => ?_, fun _ => ⟨_, rfl, ref σ _ ivz_refl fun Y hY => b_yc59 hY _ _ _ _ ⟨fun q => absurd q c0, fun _ => ⟨fun q => absurd q c1, fun _ => ⟨fun q => absurd q c2, fun _ => ⟨fun _ => ⟨fun q => absurd q ne4, fun _ => ⟨by rw [w5, w6], hI⟩⟩, fun q => absurd c3 q⟩⟩⟩⟩⟩⟩
      rw [w1] at q
      exact absurd q (by decide)
  refine ⟨fun c4 => ⟨k9, _, rfl, ref σ _ ivz_refl fun Y hY => b_yc59 hY _ _ _ _ ⟨fun q => absurd q c0, fun _ => ⟨fun q => absurd q c1, fun _ => ⟨fun q => absurd q c2, fun _ => ⟨fun q => absurd q c3, fun _ => ⟨fun _ => ⟨k1, l0 1, by rw [p0], hI⟩, fun q => absurd c4 q⟩⟩⟩⟩⟩⟩, fun c4 => ?_⟩
  refine ⟨fun c5 => ⟨k9, _, rfl, ref σ _ ivz_refl fun Y hY => b_yc59 hY _ _ _ _ ⟨fun q => absurd q c0, fun _ => ⟨fun q => absurd q c1, fun _ => ⟨fun q => absurd q c2, fun _ => ⟨fun q => absurd q c3, fun _ => ⟨fun q => absurd q c4, fun _ => ⟨fun _ => ⟨k1, l0 2, by rw [p0], hI⟩, fun q => absurd c5 q⟩⟩⟩⟩⟩⟩⟩, fun c5 => ?_⟩
  refine ⟨fun c6 => tX6_alikePairs hv fun τ hz => b_xc139 hX _ _ ⟨_, rfl, ref τ _ hz fun Y hY => b_yc59 hY _ _ _ _ ⟨fun q => absurd q c0, fun _ => ⟨fun q => absurd q c1, fun _ => ⟨fun q => absurd q c2, fun _ => ⟨fun q => absurd q c3, fun _ => ⟨fun q => absurd q c4, fun _ => ⟨fun q => absurd q c5, fun _ => ⟨fun _ => ⟨rfl, n, pl, iv_z hz hv⟩, fun q => absurd c6 q⟩⟩⟩⟩⟩⟩⟩⟩, fun c6 => ⟨_, rfl, ref σ _ ivz_refl fun Y hY => b_yc59 hY _ _ _ _ ⟨fun q => absurd q c0, fun _ => ⟨fun q => absurd q c1, fun _ => ⟨fun q => absurd q c2, fun _ => ⟨fun q => absurd q c3, fun _ => ⟨fun q => absurd q c4, fun _ => ⟨fun q => absurd q c5, fun _ => ⟨fun q => absurd q c6, fun _ => ⟨rfl, hI⟩⟩⟩⟩⟩⟩⟩⟩⟩⟩
