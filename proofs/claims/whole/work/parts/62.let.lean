/-! pairs: let -/
set_option maxRecDepth 100000 in
set_option maxHeartbeats 400000 in
theorem b_le0 {K : Option am_V → am_M → Prop} {X : Nat → am_L → List am_V → am_M → Prop} (hX : am_cl eX6_let lX6_let (some .int) K X) {σ : am_M} (a : Int32) (h : ((a < (0 : Int32)) → K (some (.inl (-1 : Int32))) σ) ∧ (¬ (a < (0 : Int32)) → (((1 : Int32) < a) → K (some (.inl (-1 : Int32))) σ) ∧ (¬ ((1 : Int32) < a) → (c_ok σ 0) ∧ ((c_ok σ 0) ∧ (sX3_gather [.inr (.inr (7, 0)), .inr (.inr (3, 0)), .inl (σ 3 0 2), .inl (nI (c_here σ 0)), .inl (0 : Int32)] σ (fun vv tt => X 48 [some (.inr (.inr (0, 0))), some (.inl a), some (.inl (nI (c_here σ 0))), some (.inl (nI (c_who σ 0 (2 : Int32)))), none, none, none, none, none] (vv.toList ++ []) tt)))))) : X 0 [some (.inr (.inr (0, 0))), some (.inl a), none, none, none, none, none, none, none] [] σ := am_run_ok emX6_let hX [48] 400 (show 3 ≤ 3 ∧ 0 ≤ 8 ∧ sX6_isWithin [.inl a, .inl (0 : Int32), .inl (1 : Int32)] σ (fun vv tt => am_run eX6_let lX6_let (some .int) K X [48] 396 6 [some (.inr (.inr (0, 0))), some (.inl a), none, none, none, none, none, none, none] (vv.toList ++ []) tt) from ⟨am_le rfl, am_le rfl, tX6_isWithin (⟨fun q0 => (show (((0 : Int32) = (0 : Int32)) → K (some (.inl (-1 : Int32))) σ) ∧ (¬ ((0 : Int32) = (0 : Int32)) → _) from ⟨fun _ => (h.1 q0), fun q => absurd (by decide) q⟩), fun q0 => ⟨fun q1 => (show (((0 : Int32) = (0 : Int32)) → K (some (.inl (-1 : Int32))) σ) ∧ (¬ ((0 : Int32) = (0 : Int32)) → _) from ⟨fun _ => ((h.2 q0).1 q1), fun q => absurd (by decide) q⟩), fun q1 => (show (((1 : Int32) = (0 : Int32)) → _) ∧ (¬ ((1 : Int32) = (0 : Int32)) → 1 ≤ 1 ∧ 0 ≤ 8 ∧ True ∧ sX0_here [.inr (.inr (3, 0))] σ (fun vv tt => am_run eX6_let lX6_let (some .int) K X [48] 392 18 [some (.inr (.inr (0, 0))), some (.inl a), none, none, none, none, none, none, none] (vv.toList ++ []) tt)) from ⟨fun q => absurd q (by decide), fun _ => ⟨am_le rfl, am_le rfl, trivial, uX0_here (⟨((h.2 q0).2 q1).1, (show 2 ≤ 2 ∧ 0 ≤ 8 ∧ True ∧ sX0_those [.inr (.inr (3, 0)), .inl (2 : Int32)] σ (fun vv tt => am_run eX6_let lX6_let (some .int) K X [48] 387 27 [some (.inr (.inr (0, 0))), some (.inl a), some (.inl (nI (c_here σ 0))), none, none, none, none, none, none] (vv.toList ++ []) tt) from ⟨am_le rfl, am_le rfl, trivial, tX0_those (⟨((h.2 q0).2 q1).2.1, (show 5 ≤ 5 ∧ 0 ≤ 8 ∧ True ∧ sX3_gather [.inr (.inr (7, 0)), .inr (.inr (3, 0)), .inl (σ 3 0 2), .inl (nI (c_here σ 0)), .inl (0 : Int32)] σ (fun vv tt => X 48 [some (.inr (.inr (0, 0))), some (.inl a), some (.inl (nI (c_here σ 0))), some (.inl (nI (c_who σ 0 (2 : Int32)))), none, none, none, none, none] (vv.toList ++ []) tt) from ⟨am_le rfl, am_le rfl, trivial, ((h.2 q0).2 q1).2.2⟩)⟩)⟩)⟩)⟩⟩)⟩⟩)⟩)
set_option maxRecDepth 100000 in
set_option maxHeartbeats 400000 in
theorem b_le48 {K : Option am_V → am_M → Prop} {X : Nat → am_L → List am_V → am_M → Prop} (hX : am_cl eX6_let lX6_let (some .int) K X) {σ : am_M} (a : Int32) (H A : Nat) (h : sX3_pack [.inr (.inr (7, 0))] σ (fun vv tt => X 55 [some (.inr (.inr (0, 0))), some (.inl a), some (.inl (nI H)), some (.inl (nI A)), none, none, none, none, none] (vv.toList ++ []) tt)) : X 48 [some (.inr (.inr (0, 0))), some (.inl a), some (.inl (nI H)), some (.inl (nI A)), none, none, none, none, none] [] σ := am_run_ok emX6_let hX [55] 400 (show 1 ≤ 1 ∧ 0 ≤ 8 ∧ True ∧ sX3_pack [.inr (.inr (7, 0))] σ (fun vv tt => X 55 [some (.inr (.inr (0, 0))), some (.inl a), some (.inl (nI H)), some (.inl (nI A)), none, none, none, none, none] (vv.toList ++ []) tt) from ⟨am_le rfl, am_le rfl, trivial, h⟩)
set_option maxRecDepth 100000 in
set_option maxHeartbeats 400000 in
theorem b_le55 {K : Option am_V → am_M → Prop} {X : Nat → am_L → List am_V → am_M → Prop} (hX : am_cl eX6_let lX6_let (some .int) K X) {σ : am_M} (a : Int32) (H A : Nat) (h : X 64 [some (.inr (.inr (0, 0))), some (.inl a), some (.inl (nI H)), some (.inl (nI A)), some (.inl (0 : Int32)), some (.inl (0 : Int32)), some (.inl (0 : Int32)), none, none] [] σ) : X 55 [some (.inr (.inr (0, 0))), some (.inl a), some (.inl (nI H)), some (.inl (nI A)), none, none, none, none, none] [] σ := am_run_ok emX6_let hX [64] 400 (show X 64 [some (.inr (.inr (0, 0))), some (.inl a), some (.inl (nI H)), some (.inl (nI A)), some (.inl (0 : Int32)), some (.inl (0 : Int32)), some (.inl (0 : Int32)), none, none] [] σ from h)
set_option maxRecDepth 100000 in
set_option maxHeartbeats 400000 in
theorem b_le64 {K : Option am_V → am_M → Prop} {X : Nat → am_L → List am_V → am_M → Prop} (hX : am_cl eX6_let lX6_let (some .int) K X) {σ : am_M} (a : Int32) (H A B U t : Nat) (h : (((σ 7 0 3) ≤ (nI t)) → X 153 [some (.inr (.inr (0, 0))), some (.inl a), some (.inl (nI H)), some (.inl (nI A)), some (.inl (nI B)), some (.inl (nI U)), some (.inl (nI t)), none, none] [] σ) ∧ (¬ ((σ 7 0 3) ≤ (nI t)) → (vp_in (nI t) 126) ∧ (X 86 [some (.inr (.inr (0, 0))), some (.inl a), some (.inl (nI H)), some (.inl (nI A)), some (.inl (nI B)), some (.inl (nI U)), some (.inl (nI t)), none, none] [.inl (σ 9 0 (nI t).toNatClampNeg)] σ))) : X 64 [some (.inr (.inr (0, 0))), some (.inl a), some (.inl (nI H)), some (.inl (nI A)), some (.inl (nI B)), some (.inl (nI U)), some (.inl (nI t)), none, none] [] σ := am_run_ok emX6_let hX [86, 153] 400 (show (((σ 7 0 3) ≤ (nI t)) → X 153 [some (.inr (.inr (0, 0))), some (.inl a), some (.inl (nI H)), some (.inl (nI A)), some (.inl (nI B)), some (.inl (nI U)), some (.inl (nI t)), none, none] [] σ) ∧ (¬ ((σ 7 0 3) ≤ (nI t)) → (vp_in (nI t) 126) ∧ (X 86 [some (.inr (.inr (0, 0))), some (.inl a), some (.inl (nI H)), some (.inl (nI A)), some (.inl (nI B)), some (.inl (nI U)), some (.inl (nI t)), none, none] [.inl (σ 9 0 (nI t).toNatClampNeg)] σ)) from ⟨fun q0 => (h.1 q0), fun q0 => ⟨(h.2 q0).1, (h.2 q0).2⟩⟩)
set_option maxRecDepth 100000 in
set_option maxHeartbeats 400000 in
theorem b_le86 {K : Option am_V → am_M → Prop} {X : Nat → am_L → List am_V → am_M → Prop} (hX : am_cl eX6_let lX6_let (some .int) K X) {σ : am_M} (a : Int32) (H A B U t T : Nat) (h : ((((nI A) &&& ((nI T) ^^^ (-1 : Int32))) = (0 : Int32)) → (vp_in ((nI H) &&& ((nI T) ^^^ (-1 : Int32))) 512) ∧ (X 113 [some (.inr (.inr (0, 0))), some (.inl a), some (.inl (nI H)), some (.inl (nI A)), some (.inl (nI B)), some (.inl (nI U)), some (.inl (nI t)), some (.inl (nI T)), none] [.inl ((1 : Int32) + (σ 10 0 ((nI H) &&& ((nI T) ^^^ (-1 : Int32))).toNatClampNeg))] σ)) ∧ (¬ (((nI A) &&& ((nI T) ^^^ (-1 : Int32))) = (0 : Int32)) → X 147 [some (.inr (.inr (0, 0))), some (.inl a), some (.inl (nI H)), some (.inl (nI A)), some (.inl (nI B)), some (.inl (nI U)), some (.inl (nI t)), some (.inl (nI T)), none] [] σ)) : X 86 [some (.inr (.inr (0, 0))), some (.inl a), some (.inl (nI H)), some (.inl (nI A)), some (.inl (nI B)), some (.inl (nI U)), some (.inl (nI t)), none, none] [.inl (nI T)] σ := am_run_ok emX6_let hX [113, 147] 400 (show ((((nI A) &&& ((nI T) ^^^ (-1 : Int32))) = (0 : Int32)) → (vp_in ((nI H) &&& ((nI T) ^^^ (-1 : Int32))) 512) ∧ (X 113 [some (.inr (.inr (0, 0))), some (.inl a), some (.inl (nI H)), some (.inl (nI A)), some (.inl (nI B)), some (.inl (nI U)), some (.inl (nI t)), some (.inl (nI T)), none] [.inl ((1 : Int32) + (σ 10 0 ((nI H) &&& ((nI T) ^^^ (-1 : Int32))).toNatClampNeg))] σ)) ∧ (¬ (((nI A) &&& ((nI T) ^^^ (-1 : Int32))) = (0 : Int32)) → X 147 [some (.inr (.inr (0, 0))), some (.inl a), some (.inl (nI H)), some (.inl (nI A)), some (.inl (nI B)), some (.inl (nI U)), some (.inl (nI t)), some (.inl (nI T)), none] [] σ) from ⟨fun q0 => ⟨(h.1 q0).1, (h.1 q0).2⟩, fun q0 => (h.2 q0)⟩)
set_option maxRecDepth 100000 in
set_option maxHeartbeats 400000 in
theorem b_le113 {K : Option am_V → am_M → Prop} {X : Nat → am_L → List am_V → am_M → Prop} (hX : am_cl eX6_let lX6_let (some .int) K X) {σ : am_M} (a : Int32) (H A B U t T F : Nat) (h : (((nI F) ≤ (nI B)) → (((nI F) = (nI B)) → X 147 [some (.inr (.inr (0, 0))), some (.inl a), some (.inl (nI H)), some (.inl (nI A)), some (.inl (nI B)), some (.inl ((nI U) ||| ((nI T) &&& ((nI A) ^^^ (-1 : Int32))))), some (.inl (nI t)), some (.inl (nI T)), some (.inl (nI F))] [] σ) ∧ (¬ ((nI F) = (nI B)) → X 147 [some (.inr (.inr (0, 0))), some (.inl a), some (.inl (nI H)), some (.inl (nI A)), some (.inl (nI B)), some (.inl (nI U)), some (.inl (nI t)), some (.inl (nI T)), some (.inl (nI F))] [] σ)) ∧ (¬ ((nI F) ≤ (nI B)) → (((nI F) = (nI F)) → X 147 [some (.inr (.inr (0, 0))), some (.inl a), some (.inl (nI H)), some (.inl (nI A)), some (.inl (nI F)), some (.inl ((0 : Int32) ||| ((nI T) &&& ((nI A) ^^^ (-1 : Int32))))), some (.inl (nI t)), some (.inl (nI T)), some (.inl (nI F))] [] σ) ∧ (¬ ((nI F) = (nI F)) → X 147 [some (.inr (.inr (0, 0))), some (.inl a), some (.inl (nI H)), some (.inl (nI A)), some (.inl (nI F)), some (.inl (0 : Int32)), some (.inl (nI t)), some (.inl (nI T)), some (.inl (nI F))] [] σ))) : X 113 [some (.inr (.inr (0, 0))), some (.inl a), some (.inl (nI H)), some (.inl (nI A)), some (.inl (nI B)), some (.inl (nI U)), some (.inl (nI t)), some (.inl (nI T)), none] [.inl (nI F)] σ := am_run_ok emX6_let hX [147] 400 (show (((nI F) ≤ (nI B)) → (((nI F) = (nI B)) → X 147 [some (.inr (.inr (0, 0))), some (.inl a), some (.inl (nI H)), some (.inl (nI A)), some (.inl (nI B)), some (.inl ((nI U) ||| ((nI T) &&& ((nI A) ^^^ (-1 : Int32))))), some (.inl (nI t)), some (.inl (nI T)), some (.inl (nI F))] [] σ) ∧ (¬ ((nI F) = (nI B)) → X 147 [some (.inr (.inr (0, 0))), some (.inl a), some (.inl (nI H)), some (.inl (nI A)), some (.inl (nI B)), some (.inl (nI U)), some (.inl (nI t)), some (.inl (nI T)), some (.inl (nI F))] [] σ)) ∧ (¬ ((nI F) ≤ (nI B)) → (((nI F) = (nI F)) → X 147 [some (.inr (.inr (0, 0))), some (.inl a), some (.inl (nI H)), some (.inl (nI A)), some (.inl (nI F)), some (.inl ((0 : Int32) ||| ((nI T) &&& ((nI A) ^^^ (-1 : Int32))))), some (.inl (nI t)), some (.inl (nI T)), some (.inl (nI F))] [] σ) ∧ (¬ ((nI F) = (nI F)) → X 147 [some (.inr (.inr (0, 0))), some (.inl a), some (.inl (nI H)), some (.inl (nI A)), some (.inl (nI F)), some (.inl (0 : Int32)), some (.inl (nI t)), some (.inl (nI T)), some (.inl (nI F))] [] σ)) from ⟨fun q0 => ⟨fun q1 => ((h.1 q0).1 q1), fun q1 => ((h.1 q0).2 q1)⟩, fun q0 => ⟨fun q1 => ((h.2 q0).1 q1), fun q1 => ((h.2 q0).2 q1)⟩⟩)
set_option maxRecDepth 100000 in
set_option maxHeartbeats 400000 in
theorem b_le147 {K : Option am_V → am_M → Prop} {X : Nat → am_L → List am_V → am_M → Prop} (hX : am_cl eX6_let lX6_let (some .int) K X) {σ : am_M} (a x y : Int32) (H A t : Nat) (h : X 64 [some (.inr (.inr (0, 0))), some (.inl a), some (.inl (nI H)), some (.inl (nI A)), some (.inl x), some (.inl y), some (.inl ((nI t) + (1 : Int32))), none, none] [] σ) : X 147 [some (.inr (.inr (0, 0))), some (.inl a), some (.inl (nI H)), some (.inl (nI A)), some (.inl x), some (.inl y), some (.inl (nI t)), none, none] [] σ := am_run_ok emX6_let hX [64] 400 (show X 64 [some (.inr (.inr (0, 0))), some (.inl a), some (.inl (nI H)), some (.inl (nI A)), some (.inl x), some (.inl y), some (.inl ((nI t) + (1 : Int32))), none, none] [] σ from h)
set_option maxRecDepth 100000 in
set_option maxHeartbeats 400000 in
theorem b_le153 {K : Option am_V → am_M → Prop} {X : Nat → am_L → List am_V → am_M → Prop} (hX : am_cl eX6_let lX6_let (some .int) K X) {σ : am_M} (a : Int32) (H A B U t : Nat) (h : (((nI B) = (0 : Int32)) → K (some (.inl (-4 : Int32))) σ) ∧ (¬ ((nI B) = (0 : Int32)) → ((a = (0 : Int32)) → K (some (.inl (f_tz (nI U)))) σ) ∧ (¬ (a = (0 : Int32)) → K (some (.inl (nI B))) σ))) : X 153 [some (.inr (.inr (0, 0))), some (.inl a), some (.inl (nI H)), some (.inl (nI A)), some (.inl (nI B)), some (.inl (nI U)), some (.inl (nI t)), none, none] [] σ := am_run_ok emX6_let hX [] 400 (show (((nI B) = (0 : Int32)) → K (some (.inl (-4 : Int32))) σ) ∧ (¬ ((nI B) = (0 : Int32)) → ((a = (0 : Int32)) → 1 ≤ 1 ∧ 0 ≤ 8 ∧ sJ6_numberOfTrailingZeros [.inl (nI U)] σ (fun vv tt => am_run eX6_let lX6_let (some .int) K X [] 394 170 [some (.inr (.inr (0, 0))), some (.inl a), some (.inl (nI H)), some (.inl (nI A)), some (.inl (nI B)), some (.inl (nI U)), some (.inl (nI t)), none, none] (vv.toList ++ []) tt)) ∧ (¬ (a = (0 : Int32)) → K (some (.inl (nI B))) σ)) from ⟨fun q0 => (h.1 q0), fun q0 => ⟨fun q1 => ⟨am_le rfl, am_le rfl, uJ6_numberOfTrailingZeros ((show K (some (.inl (f_tz (nI U)))) σ from ((h.2 q0).1 q1)))⟩, fun q1 => ((h.2 q0).2 q1)⟩⟩)
set_option maxRecDepth 100000 in
set_option maxHeartbeats 400000 in
theorem b_lf0 {K : Option am_V → am_M → Prop} {X : Nat → am_L → List am_V → am_M → Prop} (hX : am_cl eX7_let lX7_let (some .int) K X) {σ : am_M} (a : Int32) (h : ((a < (0 : Int32)) → K (some (.inl (-1 : Int32))) σ) ∧ (¬ (a < (0 : Int32)) → (((1 : Int32) < a) → K (some (.inl (-1 : Int32))) σ) ∧ (¬ ((1 : Int32) < a) → (m_ok σ) ∧ ((m_ok σ) ∧ (sX7_layMost [.inr (.inr (20, 0)), .inl ((σ 21 0 63) + (3 : Int32))] σ (fun vv tt => X 40 [some (.inr (.inr (20, 0))), some (.inl a), some (.inl (nI (m_here σ))), some (.inl (nI (p_who (m_r σ 0) (m_n σ) (1 : Int32)))), some (.inl (0 : Int32)), some (.inl (-4 : Int32)), none, none] (vv.toList ++ []) tt)))))) : X 0 [some (.inr (.inr (20, 0))), some (.inl a), none, none, none, none, none, none] [] σ := am_run_ok emX7_let hX [40] 400 (show 3 ≤ 3 ∧ 0 ≤ 8 ∧ sX7_in [.inr (.inl (a).toInt64), .inr (.inl (0 : Int64)), .inr (.inl (1 : Int64))] σ (fun vv tt => am_run eX7_let lX7_let (some .int) K X [40] 395 7 [some (.inr (.inr (20, 0))), some (.inl a), none, none, none, none, none, none] (vv.toList ++ []) tt) from ⟨am_le rfl, am_le rfl, uX7_in (v := a) (a := (0 : Int32)) (b := (1 : Int32)) (⟨fun q0 => (show (((0 : Int32) = (0 : Int32)) → K (some (.inl (-1 : Int32))) σ) ∧ (¬ ((0 : Int32) = (0 : Int32)) → _) from ⟨fun _ => (h.1 q0), fun q => absurd (by decide) q⟩), fun q0 => ⟨fun q1 => (show (((0 : Int32) = (0 : Int32)) → K (some (.inl (-1 : Int32))) σ) ∧ (¬ ((0 : Int32) = (0 : Int32)) → _) from ⟨fun _ => ((h.2 q0).1 q1), fun q => absurd (by decide) q⟩), fun q1 => (show (((1 : Int32) = (0 : Int32)) → _) ∧ (¬ ((1 : Int32) = (0 : Int32)) → 1 ≤ 1 ∧ 0 ≤ 8 ∧ True ∧ sX7_hereNow [.inr (.inr (20, 0))] σ (fun vv tt => am_run eX7_let lX7_let (some .int) K X [40] 392 16 [some (.inr (.inr (20, 0))), some (.inl a), none, none, none, none, none, none] (vv.toList ++ []) tt)) from ⟨fun q => absurd q (by decide), fun _ => ⟨am_le rfl, am_le rfl, trivial, uX7_hereNow (⟨((h.2 q0).2 q1).1, (show 3 ≤ 3 ∧ 0 ≤ 8 ∧ True ∧ sX7_whoOn [.inr (.inr (20, 0)), .inl (0 : Int32), .inl (1 : Int32)] σ (fun vv tt => am_run eX7_let lX7_let (some .int) K X [40] 387 23 [some (.inr (.inr (20, 0))), some (.inl a), some (.inl (nI (m_here σ))), none, none, none, none, none] (vv.toList ++ []) tt) from ⟨am_le rfl, am_le rfl, trivial, wX7_whoOn (g := 0) (⟨(by decide), ⟨((h.2 q0).2 q1).2.1, (show 2 ≤ 3 ∧ 1 ≤ 8 ∧ True ∧ sX7_seatsOn [.inr (.inr (20, 0)), .inl (0 : Int32)] σ (fun vv tt => am_run eX7_let lX7_let (some .int) K X [40] 378 37 [some (.inr (.inr (20, 0))), some (.inl a), some (.inl (nI (m_here σ))), some (.inl (nI (p_who (m_r σ 0) (m_n σ) (1 : Int32)))), some (.inl (0 : Int32)), some (.inl (-4 : Int32)), none, none] (vv.toList ++ [.inr (.inr (20, 0))]) tt) from ⟨am_le rfl, am_le rfl, trivial, tX7_seatsOn (⟨am_ci (by decide), (show 2 ≤ 2 ∧ 0 ≤ 8 ∧ True ∧ sX7_layMost [.inr (.inr (20, 0)), .inl ((σ 21 0 63) + (3 : Int32))] σ (fun vv tt => X 40 [some (.inr (.inr (20, 0))), some (.inl a), some (.inl (nI (m_here σ))), some (.inl (nI (p_who (m_r σ 0) (m_n σ) (1 : Int32)))), some (.inl (0 : Int32)), some (.inl (-4 : Int32)), none, none] (vv.toList ++ []) tt) from ⟨am_le rfl, am_le rfl, trivial, ((h.2 q0).2 q1).2.2⟩)⟩)⟩)⟩⟩)⟩)⟩)⟩⟩)⟩⟩)⟩)
set_option maxRecDepth 100000 in
set_option maxHeartbeats 400000 in
theorem b_lf40 {K : Option am_V → am_M → Prop} {X : Nat → am_L → List am_V → am_M → Prop} (hX : am_cl eX7_let lX7_let (some .int) K X) {σ : am_M} (a m w : Int32) (H V : Nat) (h : X 43 [some (.inr (.inr (20, 0))), some (.inl a), some (.inl (nI H)), some (.inl (nI V)), some (.inl m), some (.inl w), some (.inl (0 : Int32)), none] [] σ) : X 40 [some (.inr (.inr (20, 0))), some (.inl a), some (.inl (nI H)), some (.inl (nI V)), some (.inl m), some (.inl w), none, none] [] σ := am_run_ok emX7_let hX [43] 400 (show X 43 [some (.inr (.inr (20, 0))), some (.inl a), some (.inl (nI H)), some (.inl (nI V)), some (.inl m), some (.inl w), some (.inl (0 : Int32)), none] [] σ from h)
set_option maxRecDepth 100000 in
set_option maxHeartbeats 400000 in
theorem b_lf43 {K : Option am_V → am_M → Prop} {X : Nat → am_L → List am_V → am_M → Prop} (hX : am_cl eX7_let lX7_let (some .int) K X) {σ : am_M} (a m w : Int32) (H V p : Nat) (h : (((σ 20 0 1) ≤ (nI p)) → X 141 [some (.inr (.inr (20, 0))), some (.inl a), some (.inl (nI H)), some (.inl (nI V)), some (.inl m), some (.inl w), some (.inl (nI p)), none] [] σ) ∧ (¬ ((σ 20 0 1) ≤ (nI p)) → X 55 [some (.inr (.inr (20, 0))), some (.inl a), some (.inl (nI H)), some (.inl (nI V)), some (.inl m), some (.inl w), some (.inl (nI p)), some (.inl (0 : Int32))] [] σ)) : X 43 [some (.inr (.inr (20, 0))), some (.inl a), some (.inl (nI H)), some (.inl (nI V)), some (.inl m), some (.inl w), some (.inl (nI p)), none] [] σ := am_run_ok emX7_let hX [55, 141] 400 (show (((σ 20 0 1) ≤ (nI p)) → X 141 [some (.inr (.inr (20, 0))), some (.inl a), some (.inl (nI H)), some (.inl (nI V)), some (.inl m), some (.inl w), some (.inl (nI p)), none] [] σ) ∧ (¬ ((σ 20 0 1) ≤ (nI p)) → X 55 [some (.inr (.inr (20, 0))), some (.inl a), some (.inl (nI H)), some (.inl (nI V)), some (.inl m), some (.inl w), some (.inl (nI p)), some (.inl (0 : Int32))] [] σ) from ⟨fun q0 => (h.1 q0), fun q0 => (h.2 q0)⟩)
set_option maxRecDepth 100000 in
set_option maxHeartbeats 400000 in
theorem b_lf55 {K : Option am_V → am_M → Prop} {X : Nat → am_L → List am_V → am_M → Prop} (hX : am_cl eX7_let lX7_let (some .int) K X) {σ : am_M} (a m w : Int32) (H V p S : Nat) (h : (((nI H) < (nI S)) → X 135 [some (.inr (.inr (20, 0))), some (.inl a), some (.inl (nI H)), some (.inl (nI V)), some (.inl m), some (.inl w), some (.inl (nI p)), some (.inl (nI S))] [] σ) ∧ (¬ ((nI H) < (nI S)) → (((((nI V) >>> ((nI p) &&& 31)) &&& (1 : Int32)) = (1 : Int32)) → (((((nI S) >>> ((nI p) &&& 31)) &&& (1 : Int32)) = (1 : Int32)) → (m_ok σ) ∧ ((S < 512) ∧ ((H < 512) ∧ (((m_fil σ S H = true) → (vp_in ((nI H) &&& ((nI S) ^^^ (-1 : Int32))) 512) ∧ (((((1 : Int32) + (σ 26 0 ((nI H) &&& ((nI S) ^^^ (-1 : Int32))).toNatClampNeg)) ≤ m) → X 129 [some (.inr (.inr (20, 0))), some (.inl a), some (.inl (nI H)), some (.inl (nI V)), some (.inl m), some (.inl w), some (.inl (nI p)), some (.inl (nI S))] [] σ) ∧ (¬ (((1 : Int32) + (σ 26 0 ((nI H) &&& ((nI S) ^^^ (-1 : Int32))).toNatClampNeg)) ≤ m) → (vp_in ((nI H) &&& ((nI S) ^^^ (-1 : Int32))) 512) ∧ (X 129 [some (.inr (.inr (20, 0))), some (.inl a), some (.inl (nI H)), some (.inl (nI V)), some (.inl ((1 : Int32) + (σ 26 0 ((nI H) &&& ((nI S) ^^^ (-1 : Int32))).toNatClampNeg))), some (.inl (nI p)), some (.inl (nI p)), some (.inl (nI S))] [] σ)))) ∧ (¬ (m_fil σ S H = true) → X 129 [some (.inr (.inr (20, 0))), some (.inl a), some (.inl (nI H)), some (.inl (nI V)), some (.inl m), some (.inl w), some (.inl (nI p)), some (.inl (nI S))] [] σ))))) ∧ (¬ ((((nI S) >>> ((nI p) &&& 31)) &&& (1 : Int32)) = (1 : Int32)) → X 129 [some (.inr (.inr (20, 0))), some (.inl a), some (.inl (nI H)), some (.inl (nI V)), some (.inl m), some (.inl w), some (.inl (nI p)), some (.inl (nI S))] [] σ)) ∧ (¬ ((((nI V) >>> ((nI p) &&& 31)) &&& (1 : Int32)) = (1 : Int32)) → X 135 [some (.inr (.inr (20, 0))), some (.inl a), some (.inl (nI H)), some (.inl (nI V)), some (.inl m), some (.inl w), some (.inl (nI p)), some (.inl (nI S))] [] σ))) : X 55 [some (.inr (.inr (20, 0))), some (.inl a), some (.inl (nI H)), some (.inl (nI V)), some (.inl m), some (.inl w), some (.inl (nI p)), some (.inl (nI S))] [] σ := am_run_ok emX7_let hX [129, 135] 400 (show (((nI H) < (nI S)) → X 135 [some (.inr (.inr (20, 0))), some (.inl a), some (.inl (nI H)), some (.inl (nI V)), some (.inl m), some (.inl w), some (.inl (nI p)), some (.inl (nI S))] [] σ) ∧ (¬ ((nI H) < (nI S)) → (((((nI V) >>> ((nI p) &&& 31)) &&& (1 : Int32)) = (1 : Int32)) → (((((nI S) >>> ((nI p) &&& 31)) &&& (1 : Int32)) = (1 : Int32)) → 3 ≤ 3 ∧ 0 ≤ 8 ∧ True ∧ sX7_isFilling [.inr (.inr (20, 0)), .inl (nI S), .inl (nI H)] σ (fun vv tt => am_run eX7_let lX7_let (some .int) K X [129, 135] 379 89 [some (.inr (.inr (20, 0))), some (.inl a), some (.inl (nI H)), some (.inl (nI V)), some (.inl m), some (.inl w), some (.inl (nI p)), some (.inl (nI S))] (vv.toList ++ []) tt)) ∧ (¬ ((((nI S) >>> ((nI p) &&& 31)) &&& (1 : Int32)) = (1 : Int32)) → X 129 [some (.inr (.inr (20, 0))), some (.inl a), some (.inl (nI H)), some (.inl (nI V)), some (.inl m), some (.inl w), some (.inl (nI p)), some (.inl (nI S))] [] σ)) ∧ (¬ ((((nI V) >>> ((nI p) &&& 31)) &&& (1 : Int32)) = (1 : Int32)) → X 135 [some (.inr (.inr (20, 0))), some (.inl a), some (.inl (nI H)), some (.inl (nI V)), some (.inl m), some (.inl w), some (.inl (nI p)), some (.inl (nI S))] [] σ)) from ⟨fun q0 => (h.1 q0), fun q0 => ⟨fun q1 => ⟨fun q2 => ⟨am_le rfl, am_le rfl, trivial, uX7_isFilling (S := S) (f := H) (⟨(((h.2 q0).1 q1).1 q2).1, ⟨(((h.2 q0).1 q1).1 q2).2.1, ⟨(((h.2 q0).1 q1).1 q2).2.2.1, ⟨fun q3 => (show (((1 : Int32) = (0 : Int32)) → _) ∧ (¬ ((1 : Int32) = (0 : Int32)) → (vp_in ((nI H) &&& ((nI S) ^^^ (-1 : Int32))) 512) ∧ (((((1 : Int32) + (σ 26 0 ((nI H) &&& ((nI S) ^^^ (-1 : Int32))).toNatClampNeg)) ≤ m) → X 129 [some (.inr (.inr (20, 0))), some (.inl a), some (.inl (nI H)), some (.inl (nI V)), some (.inl m), some (.inl w), some (.inl (nI p)), some (.inl (nI S))] [] σ) ∧ (¬ (((1 : Int32) + (σ 26 0 ((nI H) &&& ((nI S) ^^^ (-1 : Int32))).toNatClampNeg)) ≤ m) → (vp_in ((nI H) &&& ((nI S) ^^^ (-1 : Int32))) 512) ∧ (X 129 [some (.inr (.inr (20, 0))), some (.inl a), some (.inl (nI H)), some (.inl (nI V)), some (.inl ((1 : Int32) + (σ 26 0 ((nI H) &&& ((nI S) ^^^ (-1 : Int32))).toNatClampNeg))), some (.inl (nI p)), some (.inl (nI p)), some (.inl (nI S))] [] σ)))) from ⟨fun q => absurd q (by decide), fun _ => ⟨((((h.2 q0).1 q1).1 q2).2.2.2.1 q3).1, ⟨fun q4 => (((((h.2 q0).1 q1).1 q2).2.2.2.1 q3).2.1 q4), fun q4 => ⟨(((((h.2 q0).1 q1).1 q2).2.2.2.1 q3).2.2 q4).1, (((((h.2 q0).1 q1).1 q2).2.2.2.1 q3).2.2 q4).2⟩⟩⟩⟩), fun q3 => (show (((0 : Int32) = (0 : Int32)) → X 129 [some (.inr (.inr (20, 0))), some (.inl a), some (.inl (nI H)), some (.inl (nI V)), some (.inl m), some (.inl w), some (.inl (nI p)), some (.inl (nI S))] [] σ) ∧ (¬ ((0 : Int32) = (0 : Int32)) → _) from ⟨fun _ => ((((h.2 q0).1 q1).1 q2).2.2.2.2 q3), fun q => absurd (by decide) q⟩)⟩⟩⟩⟩)⟩, fun q2 => (((h.2 q0).1 q1).2 q2)⟩, fun q1 => ((h.2 q0).2 q1)⟩⟩)
set_option maxRecDepth 100000 in
set_option maxHeartbeats 400000 in
theorem b_lf129 {K : Option am_V → am_M → Prop} {X : Nat → am_L → List am_V → am_M → Prop} (hX : am_cl eX7_let lX7_let (some .int) K X) {σ : am_M} (a m w : Int32) (H V p S : Nat) (h : X 55 [some (.inr (.inr (20, 0))), some (.inl a), some (.inl (nI H)), some (.inl (nI V)), some (.inl m), some (.inl w), some (.inl (nI p)), some (.inl ((nI S) + (1 : Int32)))] [] σ) : X 129 [some (.inr (.inr (20, 0))), some (.inl a), some (.inl (nI H)), some (.inl (nI V)), some (.inl m), some (.inl w), some (.inl (nI p)), some (.inl (nI S))] [] σ := am_run_ok emX7_let hX [55] 400 (show X 55 [some (.inr (.inr (20, 0))), some (.inl a), some (.inl (nI H)), some (.inl (nI V)), some (.inl m), some (.inl w), some (.inl (nI p)), some (.inl ((nI S) + (1 : Int32)))] [] σ from h)
set_option maxRecDepth 100000 in
set_option maxHeartbeats 400000 in
theorem b_lf135 {K : Option am_V → am_M → Prop} {X : Nat → am_L → List am_V → am_M → Prop} (hX : am_cl eX7_let lX7_let (some .int) K X) {σ : am_M} (a m w : Int32) (H V p : Nat) (h : X 43 [some (.inr (.inr (20, 0))), some (.inl a), some (.inl (nI H)), some (.inl (nI V)), some (.inl m), some (.inl w), some (.inl ((nI p) + (1 : Int32))), none] [] σ) : X 135 [some (.inr (.inr (20, 0))), some (.inl a), some (.inl (nI H)), some (.inl (nI V)), some (.inl m), some (.inl w), some (.inl (nI p)), none] [] σ := am_run_ok emX7_let hX [43] 400 (show X 43 [some (.inr (.inr (20, 0))), some (.inl a), some (.inl (nI H)), some (.inl (nI V)), some (.inl m), some (.inl w), some (.inl ((nI p) + (1 : Int32))), none] [] σ from h)
set_option maxRecDepth 100000 in
set_option maxHeartbeats 400000 in
theorem b_lf141 {K : Option am_V → am_M → Prop} {X : Nat → am_L → List am_V → am_M → Prop} (hX : am_cl eX7_let lX7_let (some .int) K X) {σ : am_M} (a m w : Int32) (H V p : Nat) (h : ((w = (-4 : Int32)) → K (some (.inl w)) σ) ∧ (¬ (w = (-4 : Int32)) → ((a = (0 : Int32)) → K (some (.inl w)) σ) ∧ (¬ (a = (0 : Int32)) → K (some (.inl m)) σ))) : X 141 [some (.inr (.inr (20, 0))), some (.inl a), some (.inl (nI H)), some (.inl (nI V)), some (.inl m), some (.inl w), some (.inl (nI p)), none] [] σ := am_run_ok emX7_let hX [] 400 (show ((w = (-4 : Int32)) → K (some (.inl w)) σ) ∧ (¬ (w = (-4 : Int32)) → ((a = (0 : Int32)) → K (some (.inl w)) σ) ∧ (¬ (a = (0 : Int32)) → K (some (.inl m)) σ)) from ⟨fun q0 => (h.1 q0), fun q0 => ⟨fun q1 => ((h.2 q0).1 q1), fun q1 => ((h.2 q0).2 q1)⟩⟩)
/-- the best so far, and whom to let in for it -/
def le_inv (G : Nat → Prop) (v : Nat → Nat) (A B U : Nat) : Prop := (∀ T, G T → v T ≤ B) ∧ (B = 0 ∨ ∃ T, G T ∧ v T = B) ∧ ∀ b, U.testBit b = true ↔ ∃ T, G T ∧ v T = B ∧ T.testBit b = true ∧ A.testBit b = false
theorem le_skip {G G' : Nat → Prop} {v : Nat → Nat} {A B U : Nat} (h : le_inv G v A B U) (e : ∀ T, G T ↔ G' T) : le_inv G' v A B U := by
  have : G = G' := funext fun T => propext (e T)
  rw [← this]
  exact h
theorem le_add {G : Nat → Prop} {v : Nat → Nat} {A B U S : Nat} (h : le_inv G v A B U) (v1 : 1 ≤ v S) : le_inv (fun T => G T ∨ T = S) v A (if B < v S then v S else B) (if v S ≤ B then (if v S = B then U ||| q_df S A else U) else q_df S A) := by
  obtain ⟨h1, h2, h3⟩ := h
  by_cases c : B < v S
  · rw [if_pos c, if_neg (by omega)]
    refine ⟨fun T g => ?_, Or.inr ⟨S, Or.inr rfl, rfl⟩, fun b => ?_⟩
    · rcases g with g | g
      · have := h1 T g
        omega
      · rw [g]
        exact Nat.le_refl _
    · rw [q_df_bit]
      constructor
      · intro q
        simp at q
        exact ⟨S, Or.inr rfl, rfl, q.1, q.2⟩
      · rintro ⟨T, g | g, e, q1, q2⟩
        · have := h1 T g
          omega
        · rw [← g, q1, q2]
          rfl
  · rw [if_neg c, if_pos (by omega)]
    refine ⟨fun T g => ?_, ?_, fun b => ?_⟩
    · rcases g with g | g
      · exact h1 T g
      · rw [g]
        omega
    · rcases h2 with h2 | ⟨T, g, e⟩
      · exact Or.inl h2
      · exact Or.inr ⟨T, Or.inl g, e⟩
    · by_cases d : v S = B
      · rw [if_pos d, Nat.testBit_or, Bool.or_eq_true, h3, q_df_bit]
        constructor
        · rintro (⟨T, g, q⟩ | q)
          · exact ⟨T, Or.inl g, q⟩
          · simp at q
            exact ⟨S, Or.inr rfl, d, q.1, q.2⟩
        · rintro ⟨T, g | g, e, q1, q2⟩
          · exact Or.inl ⟨T, g, e, q1, q2⟩
          · right
            rw [← g, q1, q2]
            rfl
      · rw [if_neg d, h3]
        constructor
        · rintro ⟨T, g, q⟩
          exact ⟨T, Or.inl g, q⟩
        · rintro ⟨T, g | g, e, q1, q2⟩
          · exact ⟨T, g, e, q1, q2⟩
          · rw [g] at e
            exact absurd e d
theorem le_loop {X : Nat → am_L → List am_V → am_M → Prop} {K : am_K} (hX : am_cl eX6_let lX6_let (some .int) K X) {τ : am_M} {a : Int32} {n H A : Nat} {L : List Nat} {V : Nat → Nat} (h9 : n ≤ 9) (hH : H < 2 ^ n) (hA : A < 2 ^ n) (hL : s_has τ L) (hLn : ∀ i, i < L.length → L.getD i 0 < 2 ^ n) (hV : ∀ Q, Q < 2 ^ n → τ 10 0 Q = nI (V Q) ∧ V Q < 512) (h : ∀ B U, le_inv (fun T => ∃ j, j < L.length ∧ L.getD j 0 = T ∧ q_df A T = 0) (fun T => 1 + V (q_df H T)) A B U → B ≤ 512 → U < 2 ^ n → X 153 [some (am_r 0 0), some (.inl a), some (.inl (nI H)), some (.inl (nI A)), some (.inl (nI B)), some (.inl (nI U)), some (.inl (nI L.length)), none, none] [] τ) : X 55 [some (am_r 0 0), some (.inl a), some (.inl (nI H)), some (.inl (nI A)), none, none, none, none, none] [] τ := by
  obtain ⟨s1, s2, s3⟩ := hL
  have h2 : 2 ^ n ≤ 512 := Nat.pow_le_pow_right (n := 2) (by decide) h9
  have hq : ∀ T, q_df H T < 2 ^ n := fun T => Nat.lt_of_le_of_lt (q_df_le _ _) hH
  refine b_le55 hX _ _ _ ?_
  have loop := q_dn (W := fun i => ∀ B U, le_inv (fun T => ∃ j, j < i ∧ L.getD j 0 = T ∧ q_df A T = 0) (fun T => 1 + V (q_df H T)) A B U → B ≤ 512 → U < 2 ^ n → X 64 [some (am_r 0 0), some (.inl a), some (.inl (nI H)), some (.inl (nI A)), some (.inl (nI B)), some (.inl (nI U)), some (.inl (nI i)), none, none] [] τ) (n := L.length) (fun i hi IH B U hi1 hB hU => ?_) (fun B U hi1 hB hU => ?_) 0 (Nat.zero_le _) 0 0 ⟨fun T ⟨j, hj, _⟩ => absurd hj (Nat.not_lt_zero j), Or.inl rfl, fun b => ⟨fun q => by rw [Nat.zero_testBit] at q; exact absurd q (by decide), fun ⟨T, ⟨j, hj, _⟩, _⟩ => absurd hj (Nat.not_lt_zero j)⟩⟩ (by decide) (Nat.two_pow_pos n)
  · exact loop
  · refine b_le64 hX _ _ _ _ _ _ ?_
    have hT := hLn i hi
    rw [s1, nI_leI (by omega) (by omega), nI_clamp (by omega), s3 i hi]
    refine ⟨fun q => absurd q (by omega), fun _ => ⟨q_in (by omega) (by decide), b_le86 hX _ _ _ _ _ _ _ ?_⟩⟩
    rw [q_dfz (by omega), q_dfI, nI_clamp (by have := hq (L.getD i 0); omega), (hV _ (hq _)).1, show (1 : Int32) + nI (V (q_df H (L.getD i 0))) = nI (1 + V (q_df H (L.getD i 0))) from nI_add 1 _]
    have hv5 := (hV _ (hq (L.getD i 0))).2
    have hin : ∀ T, (∃ j, j < i + 1 ∧ L.getD j 0 = T ∧ q_df A T = 0) ↔ ((∃ j, j < i ∧ L.getD j 0 = T ∧ q_df A T = 0) ∨ (T = L.getD i 0 ∧ q_df A (L.getD i 0) = 0)) := fun T => by
      constructor
      · rintro ⟨j, hj, e, q⟩
        by_cases c : j = i
        · subst c
          exact Or.inr ⟨e.symm, by rw [e]; exact q⟩
        · exact Or.inl ⟨j, by omega, e, q⟩
      · rintro (⟨j, hj, q⟩ | ⟨e, q⟩)
        · exact ⟨j, by omega, q⟩
        · exact ⟨i, by omega, e.symm, by rw [e]; exact q⟩
    refine ⟨fun c => ⟨q_in (by have := hq (L.getD i 0); omega) (by decide), ?_⟩, fun c => ?_⟩
    · have hadd := le_add (S := L.getD i 0) hi1 (by omega)
      have hnew : le_inv (fun T => ∃ j, j < i + 1 ∧ L.getD j 0 = T ∧ q_df A T = 0) (fun T => 1 + V (q_df H T)) A (if B < 1 + V (q_df H (L.getD i 0)) then 1 + V (q_df H (L.getD i 0)) else B) (if 1 + V (q_df H (L.getD i 0)) ≤ B then (if 1 + V (q_df H (L.getD i 0)) = B then U ||| q_df (L.getD i 0) A else U) else q_df (L.getD i 0) A) := le_skip hadd (fun T => by
        rw [hin T]
        constructor
        · rintro (q | q)
          · exact Or.inl q
          · exact Or.inr ⟨q, c⟩
        · rintro (q | q)
          · exact Or.inl q
          · exact Or.inr q.1)
      generalize hF : 1 + V (q_df H (L.getD i 0)) = F at hnew hv5 ⊢
      have hF5 : F ≤ 512 := by omega
      have hd : q_df (L.getD i 0) A < 2 ^ n := Nat.lt_of_le_of_lt (q_df_le _ _) hT
      refine b_le113 hX _ _ _ _ _ _ _ _ ?_
      rw [nI_leI (a := F) (b := B) (by omega) (by omega), nI_eq (a := F) (b := B) (by omega) (by omega), q_dfI, q_or, show (0 : Int32) ||| nI (q_df (L.getD i 0) A) = nI (q_df (L.getD i 0) A) from by rw [← q_0, q_or, Nat.zero_or]]
      have fin : ∀ B' U' : Nat, B' = (if B < F then F else B) → U' = (if F ≤ B then (if F = B then U ||| q_df (L.getD i 0) A else U) else q_df (L.getD i 0) A) → U' < 2 ^ n → X 147 [some (am_r 0 0), some (.inl a), some (.inl (nI H)), some (.inl (nI A)), some (.inl (nI B')), some (.inl (nI U')), some (.inl (nI i)), some (.inl (nI (L.getD i 0))), some (.inl (nI F))] [] τ := fun B' U' eB e hU' => by
        refine am_fo hX (ls := [some (am_r 0 0), some (.inl a), some (.inl (nI H)), some (.inl (nI A)), some (.inl (nI B')), some (.inl (nI U')), some (.inl (nI i)), none, none]) ⟨rfl, rfl, rfl, rfl, rfl, rfl, rfl, trivial⟩ (b_le147 hX _ _ _ _ _ _ ?_)
        rw [show nI i + (1 : Int32) = nI (i + 1) from nI_add i 1]
        exact IH _ _ (by rw [e, eB]; exact hnew) (by rw [eB]; split <;> omega) hU'
      refine ⟨fun c1 => ⟨fun c2 => fin _ _ ?_ ?_ (Nat.or_lt_two_pow hU hd), fun c2 => fin _ _ ?_ ?_ hU⟩, fun c1 => ⟨fun c2 => fin _ _ ?_ ?_ hd, fun c2 => absurd rfl c2⟩⟩
      · rw [if_neg (by omega)]
      · rw [if_pos c1, if_pos c2]
      · rw [if_neg (by omega)]
      · rw [if_pos c1, if_neg c2]
      · rw [if_pos (by omega)]
      · rw [if_neg c1]
    · refine am_fo hX (ls := [some (am_r 0 0), some (.inl a), some (.inl (nI H)), some (.inl (nI A)), some (.inl (nI B)), some (.inl (nI U)), some (.inl (nI i)), none, none]) ⟨rfl, rfl, rfl, rfl, rfl, rfl, rfl, trivial⟩ (b_le147 hX _ _ _ _ _ _ ?_)
      rw [show nI i + (1 : Int32) = nI (i + 1) from nI_add i 1]
      refine IH _ _ (le_skip hi1 fun T => ?_) hB hU
      rw [hin T]
      constructor
      · exact Or.inl
      · rintro (q | q)
        · exact q
        · exact absurd q.2 c
  · refine b_le64 hX _ _ _ _ _ _ ⟨fun _ => h B U hi1 hB hU, fun q => absurd (by rw [s1]; exact nI_le (Nat.le_refl _) (by omega)) q⟩
/-- the reference's way -/
def lf_inv (G : Nat → Prop) (v : Nat → Nat) (n W M : Nat) (w : Int32) (Z : Nat → Nat → Prop) : Prop := (∀ q T, Z q T → G T → W.testBit q = true → T.testBit q = true → v T ≤ M) ∧ ((M = 0 ∧ w = -4) ∨ ∃ q, w = nI q ∧ q < n ∧ 0 < M ∧ (∃ T, G T ∧ W.testBit q = true ∧ T.testBit q = true ∧ v T = M) ∧ ∀ q' T, q' < q → G T → W.testBit q' = true → T.testBit q' = true → v T < M)
theorem lf_mono {G : Nat → Prop} {v : Nat → Nat} {n W M : Nat} {w : Int32} {Z Z' : Nat → Nat → Prop} (h : lf_inv G v n W M w Z) (e : ∀ q T, Z' q T → G T → W.testBit q = true → T.testBit q = true → Z q T) : lf_inv G v n W M w Z' := ⟨fun q T z g a b => h.1 q T (e q T z g a b) g a b, h.2⟩
theorem lf_loop {X : Nat → am_L → List am_V → am_M → Prop} {K : am_K} (hX : am_cl eX7_let lX7_let (some .int) K X) {τ : am_M} {a : Int32} {n H W : Nat} {V : Nat → Nat} (h9 : n ≤ 9) (ho : τ 20 0 1 = nI n) (hH : H < 2 ^ n) (hW : W < 2 ^ n) (hV : ∀ Q, q_df Q H = 0 → τ 26 0 Q = nI (V Q) ∧ V Q < 512) (h : ∀ M w, lf_inv (fun T => m_fil τ T H = true) (fun T => 1 + V (q_df H T)) n W M w (fun q T => q < n ∧ T ≤ H) → M ≤ 512 → X 141 [some (am_r 20 0), some (.inl a), some (.inl (nI H)), some (.inl (nI W)), some (.inl (nI M)), some (.inl w), some (.inl (nI n)), none] [] τ) : X 40 [some (am_r 20 0), some (.inl a), some (.inl (nI H)), some (.inl (nI W)), some (.inl (0 : Int32)), some (.inl (-4 : Int32)), none, none] [] τ := by
  have h2 : 2 ^ n ≤ 512 := Nat.pow_le_pow_right (n := 2) (by decide) h9
  obtain ⟨-, mo⟩ := m_n_of ho h9
  refine b_lf40 hX _ _ _ _ _ ?_
  have loop := q_dn (W := fun p => ∀ M w, lf_inv (fun T => m_fil τ T H = true) (fun T => 1 + V (q_df H T)) n W M w (fun q T => q < p ∧ T ≤ H) → M ≤ 512 → X 43 [some (am_r 20 0), some (.inl a), some (.inl (nI H)), some (.inl (nI W)), some (.inl (nI M)), some (.inl w), some (.inl (nI p)), none] [] τ) (n := n) (fun p hp IHp M w hi hM => ?_) (fun M w hi hM => ?_) 0 (Nat.zero_le _) 0 (-4) ⟨fun q T z => absurd z.1 (Nat.not_lt_zero q), Or.inl ⟨rfl, rfl⟩⟩ (by decide)
  · exact loop
  · refine b_lf43 hX _ _ _ _ _ _ ?_
    rw [ho, nI_leI (by omega) (by omega)]
    refine ⟨fun q => absurd q (by omega), fun _ => ?_⟩
    have out : ∀ M w S, lf_inv (fun T => m_fil τ T H = true) (fun T => 1 + V (q_df H T)) n W M w (fun q T => q < p + 1 ∧ T ≤ H) → M ≤ 512 → X 135 [some (am_r 20 0), some (.inl a), some (.inl (nI H)), some (.inl (nI W)), some (.inl (nI M)), some (.inl w), some (.inl (nI p)), some (.inl S)] [] τ := fun M w S hi hM => by
      refine am_fo hX (ls := [some (am_r 20 0), some (.inl a), some (.inl (nI H)), some (.inl (nI W)), some (.inl (nI M)), some (.inl w), some (.inl (nI p)), none]) ⟨rfl, rfl, rfl, rfl, rfl, rfl, rfl, trivial⟩ (b_lf135 hX _ _ _ _ _ _ ?_)
      rw [show nI p + (1 : Int32) = nI (p + 1) from nI_add p 1]
      exact IHp M w hi hM
    have inner := q_dn (W := fun S => ∀ M w, lf_inv (fun T => m_fil τ T H = true) (fun T => 1 + V (q_df H T)) n W M w (fun q T => (q < p ∧ T ≤ H) ∨ (q = p ∧ T < S)) → M ≤ 512 → X 55 [some (am_r 20 0), some (.inl a), some (.inl (nI H)), some (.inl (nI W)), some (.inl (nI M)), some (.inl w), some (.inl (nI p)), some (.inl (nI S))] [] τ) (n := H + 1) (fun S hS IH M w hi hM => ?_) (fun M w hi hM => ?_) 0 (Nat.zero_le _) M w (lf_mono hi fun q T z _ _ _ => z.elim id (fun z => absurd z.2 (Nat.not_lt_zero _))) hM
    · exact inner
    · refine b_lf55 hX _ _ _ _ _ _ _ ?_
      have hd : q_df H S < 512 := Nat.lt_of_le_of_lt (q_df_le _ _) (by omega)
      obtain ⟨v1, v2⟩ := hV (q_df H S) (q_df_sub H S)
      rw [nI_ltI (by omega) (by omega), q_bitv (by omega) (by omega), q_bitv (by omega) (by omega), q_ite1, q_ite1, q_dfI, nI_clamp (by omega), v1, show (1 : Int32) + nI (V (q_df H S)) = nI (1 + V (q_df H S)) from nI_add 1 _, nI_leI (by omega) (by omega)]
      have next : ∀ M w, lf_inv (fun T => m_fil τ T H = true) (fun T => 1 + V (q_df H T)) n W M w (fun q T => (q < p ∧ T ≤ H) ∨ (q = p ∧ T < S + 1)) → M ≤ 512 → X 129 [some (am_r 20 0), some (.inl a), some (.inl (nI H)), some (.inl (nI W)), some (.inl (nI M)), some (.inl w), some (.inl (nI p)), some (.inl (nI S))] [] τ := fun M w hi hM => b_lf129 hX _ _ _ _ _ _ _ (by
        rw [show nI S + (1 : Int32) = nI (S + 1) from nI_add S 1]
        exact IH M w hi hM)
      have same : (W.testBit p = true → S.testBit p = true → m_fil τ S H = true → 1 + V (q_df H S) ≤ M) → X 129 [some (am_r 20 0), some (.inl a), some (.inl (nI H)), some (.inl (nI W)), some (.inl (nI M)), some (.inl w), some (.inl (nI p)), some (.inl (nI S))] [] τ := fun hs => next M w ⟨fun q T z g b1 b2 => by
        rcases z with z | ⟨z1, z2⟩
        · exact hi.1 q T (Or.inl z) g b1 b2
        · by_cases c : T = S
          · subst c
            subst z1
            exact hs b1 b2 g
          · exact hi.1 q T (Or.inr ⟨z1, by omega⟩) g b1 b2, hi.2⟩ hM
      refine ⟨fun q => absurd q (by omega), fun _ => ⟨fun c1 => ⟨fun c2 => ⟨mo, by omega, by omega, fun c3 => ⟨q_in hd (by decide), fun c4 => same fun _ _ _ => c4, fun c4 => ⟨q_in hd (by decide), next _ _ ⟨fun q T z g b1 b2 => ?_, Or.inr ⟨p, rfl, hp, by omega, ⟨S, c3, c1, c2, rfl⟩, fun q' T z g b1 b2 => ?_⟩⟩ (by omega)⟩⟩, fun c3 => same fun _ _ q => absurd q c3⟩, fun c2 => same fun _ q _ => absurd q c2⟩, fun c1 => out M w _ (lf_mono hi fun q T z _ b1 _ => ?_) hM⟩⟩
      · rcases z with z | ⟨z1, z2⟩
        · have := hi.1 q T (Or.inl z) g b1 b2
          omega
        · by_cases c : T = S
          · subst c
            exact Nat.le_refl _
          · have := hi.1 q T (Or.inr ⟨z1, by omega⟩) g b1 b2
            omega
      · have gT : T ≤ H := by
          have : m_fil τ T H = true := g
          unfold m_fil at this
          rw [Bool.and_eq_true] at this
          exact q_sub_le (of_decide_eq_true this.1)
        have := hi.1 q' T (Or.inl ⟨z, gT⟩) g b1 b2
        omega
      · by_cases c : q = p
        · rw [c] at b1
          exact absurd b1 c1
        · exact Or.inl ⟨by omega, z.2⟩
    · refine b_lf55 hX _ _ _ _ _ _ _ ⟨fun _ => out M w _ (lf_mono hi fun q T z _ _ _ => ?_) hM, fun q => absurd (nI_lt (Nat.lt_succ_self H) (by omega)) q⟩
      by_cases c : q = p
      · exact Or.inr ⟨c, by omega⟩
      · exact Or.inl ⟨by omega, z.2⟩
  · refine b_lf43 hX _ _ _ _ _ _ ⟨fun _ => h M w hi hM, fun q => absurd (by rw [ho]; exact nI_le (Nat.le_refl _) (by omega)) q⟩
theorem q_low_at : ∀ S, S < 512 → 0 < S → S.testBit (q_low S) = true ∧ ∀ j, j < q_low S → S.testBit j = false := by decide +kernel
theorem q_low_eq {S q : Nat} (hS : S < 512) (h1 : S.testBit q = true) (h2 : ∀ j, j < q → ¬ S.testBit j = true) : q_low S = q ∧ 0 < S := by
  have h0 : 0 < S := by
    rcases Nat.eq_zero_or_pos S with e | e
    · rw [e, Nat.zero_testBit] at h1
      exact absurd h1 (by decide)
    · exact e
  obtain ⟨a, b⟩ := q_low_at S hS h0
  refine ⟨?_, h0⟩
  rcases Nat.lt_trichotomy (q_low S) q with c | c | c
  · exact absurd a (h2 _ c)
  · exact c
  · rw [b q c] at h1
    exact absurd h1 (by decide)
theorem fil_eq {σ τ : am_M} {n pl : Nat} (hv : iv σ n pl) (hz : ivz σ τ) (S : Nat) : m_fil τ S (c_here σ 0) = p_gd (c_r σ 0) n pl (c_here σ 0) (c_who σ 0 2) S := by
  obtain ⟨k1, k2, k3, k4, k5, k6, k7, k8, k9, k10, k11, k12, k13⟩ := iv_q hv hz
  have h5 := hv.2.2.1.2.2.2.2.1.2
  have hq := q_pop_le S 9
  unfold m_fil m_boat p_gd
  rw [k2, k6, k7, k5]
  congr 1
  congr 1
  rw [decide_eq_decide.mpr (nI_eq (by omega) (by omega))]
theorem who_12 {σ : am_M} {i : Nat} : (c_who σ 0 1).testBit i = true → (c_who σ 0 2).testBit i = false := by
  unfold c_who
  rw [q_set_bit, q_set_bit]
  intro h
  simp at h
  simp [h.2]
theorem pr_let {σ : am_M} {a : Int32} (hI : Inv σ) : pairI sX6_let sX7_let [.inl a] σ := by
  obtain ⟨n, pl, hv⟩ := id hI
  obtain ⟨h9, a1, a2, -⟩ := id hv
  obtain ⟨b1, b2, b3, b4, b5, b6, b7, b8, b9, b10, b11⟩ := id a2
  obtain ⟨k1, k2, k3, k4, k5, k6, k7, k8, k9, k10, k11, k12, k13⟩ := iv_q hv ivz_refl
  have h2 : 2 ^ n ≤ 512 := Nat.pow_le_pow_right (n := 2) (by decide) h9
  refine ⟨am_le rfl, fun X hX => b_le0 hX a ⟨fun c1 => ⟨_, rfl, am_le rfl, fun Y hY => b_lf0 hY _ ⟨fun _ => ⟨rfl, hI⟩, fun q => absurd c1 q⟩⟩, fun c1 => ⟨fun c2 => ⟨_, rfl, am_le rfl, fun Y hY => b_lf0 hY _ ⟨fun q => absurd q c1, fun _ => ⟨fun _ => ⟨rfl, hI⟩, fun q => absurd c2 q⟩⟩⟩, fun c2 => ⟨k9, k9, ?_⟩⟩⟩⟩
  rw [b3]
  refine tX3_gather (M := 0) k9 (by omega) (q_512 h9 k4) (by decide) fun τ hg => ?_
  rw [k10] at hg
  have hz := ivz_got hg
  refine b_le48 hX _ _ _ (tX3_pack h9 (p_gd_0 (by omega)) (s_got_has hg (p_gd_126 h9 (by omega))) hg.2.2.2 fun υ hk hp => ?_)
  have hz2 : ivz τ υ := ivz_of fun k _ _ _ _ c10 _ _ _ => hk k c10
  have hzz := ivz_trans hz hz2
  have hm : ∀ Q, Q < 2 ^ n → mx (p_gd (c_r σ 0) n pl (c_here σ 0) 0) Q (υ 10 0 Q).toNatClampNeg ∧ υ 10 0 Q = nI (υ 10 0 Q).toNatClampNeg ∧ (υ 10 0 Q).toNatClampNeg < 512 := fun Q hQ => by
    obtain ⟨v, m, e⟩ := hp Q hQ
    have := mx_le (p_gd_0 (by omega)) m
    rw [e, nI_clamp (by omega)]
    exact ⟨m, rfl, by omega⟩
  have hs : s_has υ (q_ls (p_gd (c_r σ 0) n pl (c_here σ 0) 0) (2 ^ n)) := by
    have := s_got_has hg (p_gd_126 h9 (by omega))
    unfold s_has at this ⊢
    rw [hk 7 (by decide), hk 9 (by decide)]
    exact this
  refine le_loop hX (n := n) (V := fun Q => (υ 10 0 Q).toNatClampNeg) h9 k4 (k13 2) hs (fun i hi => (q_ls_at hi).1) (fun Q hQ => (hm Q hQ).2) fun B U hi hB hU => ?_
  have hi := le_skip hi (G' := fun T => p_gd (c_r σ 0) n pl (c_here σ 0) (c_who σ 0 2) T = true) (fun T => by
    constructor
    · rintro ⟨j, hj, e, q⟩
      obtain ⟨e1, e2⟩ := q_ls_at hj
      rw [e] at e1 e2
      unfold p_gd at e2 ⊢
      rw [Bool.and_eq_true, Bool.and_eq_true] at e2
      rw [e2.1, e2.2.2, q]
      rfl
    · intro g
      have g' := g
      unfold p_gd at g
      rw [Bool.and_eq_true, Bool.and_eq_true] at g
      have gl : T < 2 ^ n := Nat.lt_of_le_of_lt (q_sub_le (of_decide_eq_true g.1)) k4
      have : p_gd (c_r σ 0) n pl (c_here σ 0) 0 T = true := by
        unfold p_gd
        rw [g.1, g.2.2, q_df0]
        rfl
      obtain ⟨j, hj, e⟩ := q_ls_get gl this
      exact ⟨j, hj, e, of_decide_eq_true g.2.1⟩)
  obtain ⟨j1, j2, j3, j4, j5, j6, j7, j8, j9, j10, j11, j12, j13⟩ := iv_q hv hzz
  have ref : ∀ v : Int32, (B = 0 → v = -4) → (∀ q, ¬ B = 0 → q_low U = q → 0 < U → v = if a = 0 then nI q else nI B) → sX7_let [am_r 20 0, .inl a] υ (fun w τ2 => w = some (.inl v) ∧ Inv τ2) := by
    intro v v0 v1
    refine ⟨am_le rfl, fun Y hY => b_lf0 hY _ ⟨fun q => absurd q c1, fun _ => ⟨fun q => absurd q c2, fun _ => ⟨j1, j1, ?_⟩⟩⟩⟩
    rw [show υ 21 0 63 + (3 : Int32) = nI pl from j7, j3, j2, j5]
    refine tX7_layMost j1 (by omega) (by omega) fun ω hk2 hp2 => ?_
    rw [j2, p_bt_cg j6] at hp2
    have hz3 : ivz υ ω := ivz_of fun k _ _ _ _ _ _ _ c26 => hk2 k c26
    have hza := ivz_trans hzz hz3
    have hvω := iv_z hza hv
    refine lf_loop hY (n := n) (V := fun Q => (υ 10 0 Q).toNatClampNeg) h9 hvω.2.1 k4 (k13 1) (fun Q hQ => ?_) fun M w hl hM => b_lf141 hY _ _ _ _ _ _ ?_
    · have hQn : Q < 2 ^ n := Nat.lt_of_le_of_lt (q_sub_le hQ) k4
      obtain ⟨m1, e1, l1⟩ := hm Q hQn
      obtain ⟨w, m2, e2⟩ := hp2 Q hQn
      rw [e2, ← mx_here m1 m2 hQ]
      exact ⟨rfl, l1⟩
    obtain ⟨l1, l2⟩ := hl
    have gfil : ∀ T, m_fil ω T (c_here σ 0) = true ↔ p_gd (c_r σ 0) n pl (c_here σ 0) (c_who σ 0 2) T = true := fun T => by rw [fil_eq hv hza T]
    have some_w : ∀ T, p_gd (c_r σ 0) n pl (c_here σ 0) (c_who σ 0 2) T = true → ∃ q, q < n ∧ (c_who σ 0 1).testBit q = true ∧ T.testBit q = true ∧ T ≤ c_here σ 0 := fun T g => by
      unfold p_gd at g
      rw [Bool.and_eq_true, Bool.and_eq_true, Bool.and_eq_true] at g
      obtain ⟨g1, g2, g3, -⟩ := g
      have g1 := of_decide_eq_true g1
      have g2 := of_decide_eq_true g2
      have g3 := of_decide_eq_true g3
      have hpop : q_pop (c_who σ 0 2) 9 < pl := by
        have := b11
        unfold p_inv at this
        have e : p_who (c_r σ 0) n 2 = c_who σ 0 2 := by
          unfold c_who p_who
          rw [k10]
          rfl
        rw [e] at this
        exact this
      have ex : ∃ i, i < 9 ∧ T.testBit i = true ∧ (c_who σ 0 2).testBit i = false := by
        apply Classical.byContradiction
        intro no
        have sub := q_pop_sub (S := T) (T := c_who σ 0 2) (m := 9) (fun i hi q => by
          cases c : (c_who σ 0 2).testBit i
          · exact absurd ⟨i, hi, q, c⟩ no
          · rfl)
        have := sub.1
        omega
      obtain ⟨i, -, t1, t2⟩ := ex
      have hh := q_sub_bit g1 t1
      have hw : (c_who σ 0 1).testBit i = true := by
        unfold c_here at hh
        rw [Nat.testBit_or, t2, Bool.or_false] at hh
        exact hh
      refine ⟨i, ?_, hw, t1, q_sub_le g1⟩
      rcases Nat.lt_or_ge i n with q | q
      · exact q
      · rw [q_hi (k13 1) q] at hw
        exact absurd hw (by decide)
    have fin : Inv ω := ⟨n, pl, hvω⟩
    obtain ⟨i1, i2, i3⟩ := hi
    by_cases cB : B = 0
    · have none : ∀ T, ¬ p_gd (c_r σ 0) n pl (c_here σ 0) (c_who σ 0 2) T = true := fun T g => by
        have : 1 + (υ 10 0 (q_df (c_here σ 0) T)).toNatClampNeg ≤ B := i1 T g
        omega
      rcases l2 with ⟨-, lw⟩ | ⟨q, -, -, -, ⟨T, g, -⟩, -⟩
      · rw [lw, v0 cB]
        exact ⟨fun _ => ⟨rfl, fin⟩, fun q => absurd rfl q⟩
      · exact absurd ((gfil T).1 g) (none T)
    · obtain ⟨T, g, e⟩ := i2.resolve_left cB
      obtain ⟨q0, hq0, w0, t0, tH⟩ := some_w T g
      have hBM := l1 q0 T ⟨hq0, tH⟩ ((gfil T).2 g) w0 t0
      rcases l2 with ⟨l0, -⟩ | ⟨q, lw, hq, hM0, ⟨T', g', w', t', e'⟩, lmin⟩
      · exfalso
        simp only [] at e hBM
        omega
      have hMB := i1 T' ((gfil T').1 g')
      have eMB : M = B := by
        simp only [] at e hBM hMB e'
        omega
      have ub : U.testBit q = true := (i3 q).2 ⟨T', (gfil T').1 g', by rw [e', eMB], t', who_12 w'⟩
      have umin : ∀ j, j < q → ¬ U.testBit j = true := fun j hj u => by
        obtain ⟨T2, g2, e2, t2, n2⟩ := (i3 j).1 u
        have hw2 : (c_who σ 0 1).testBit j = true := by
          have g2' := g2
          unfold p_gd at g2'
          rw [Bool.and_eq_true] at g2'
          have hh := q_sub_bit (of_decide_eq_true g2'.1) t2
          unfold c_here at hh
          rw [Nat.testBit_or, n2, Bool.or_false] at hh
          exact hh
        have := lmin j T2 hj ((gfil T2).2 g2) hw2 t2
        simp only [] at e2 this
        omega
      obtain ⟨ql, u0⟩ := q_low_eq (q_512 h9 hU) ub umin
      have nw : ¬ w = -4 := fun e => by
        rw [lw] at e
        have h1 := congrArg Int32.toInt e
        rw [nI_toInt (by omega)] at h1
        have h3 : (-4 : Int32).toInt = -4 := by decide
        rw [h3] at h1
        omega
      have hv1 := v1 q cB ql u0
      refine ⟨fun z => absurd z nw, fun _ => ⟨fun z => ?_, fun z => ?_⟩⟩
      · rw [if_pos z] at hv1
        rw [hv1, lw]
        exact ⟨rfl, fin⟩
      · rw [if_neg z] at hv1
        rw [hv1, eMB]
        exact ⟨rfl, fin⟩
  have zB : nI B = (0 : Int32) ↔ B = 0 := nI_eq (b := 0) (by omega) (by decide)
  refine b_le153 hX _ _ _ _ _ _ ?_
  rw [zB]
  refine ⟨fun cB => ⟨_, rfl, ref _ (fun _ => rfl) (fun q n0 => absurd cB n0)⟩, fun cB => ⟨fun c0 => ⟨_, rfl, ref _ (fun z => absurd z cB) (fun q _ ql u0 => ?_)⟩, fun c0 => ⟨_, rfl, ref _ (fun z => absurd z cB) (fun q _ ql u0 => ?_)⟩⟩⟩
  · rw [f_tz_ok U (q_512 h9 hU) u0, ql, if_pos c0]
  · rw [if_neg c0]
