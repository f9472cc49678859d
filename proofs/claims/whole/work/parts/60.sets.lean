/-! pairs: most, sets, fill, fits -/
set_option maxRecDepth 100000 in
set_option maxHeartbeats 400000 in
theorem b_xm0 {K : Option am_V → am_M → Prop} {X : Nat → am_L → List am_V → am_M → Prop} (hX : am_cl eX6_most lX6_most (some .int) K X) {σ : am_M} (a : Int32) (h : ((a < (2 : Int32)) → K (some (.inl (-1 : Int32))) σ) ∧ (¬ (a < (2 : Int32)) → (((5 : Int32) < a) → K (some (.inl (-1 : Int32))) σ) ∧ (¬ ((5 : Int32) < a) → (c_ok σ 0) ∧ (sX3_gather [.inr (.inr (7, 0)), .inr (.inr (3, 0)), .inl a, .inl (nI (c_here σ 0)), .inl (0 : Int32)] σ (fun vv tt => X 31 [some (.inr (.inr (0, 0))), some (.inl a)] (vv.toList ++ []) tt))))) : X 0 [some (.inr (.inr (0, 0))), some (.inl a)] [] σ := am_run_ok emX6_most hX [31] 400 (show 3 ≤ 3 ∧ 0 ≤ 8 ∧ sX6_isWithin [.inl a, .inl (2 : Int32), .inl (5 : Int32)] σ (fun vv tt => am_run eX6_most lX6_most (some .int) K X [31] 396 6 [some (.inr (.inr (0, 0))), some (.inl a)] (vv.toList ++ []) tt) from ⟨am_le rfl, am_le rfl, tX6_isWithin (⟨fun q0 => (show (((0 : Int32) = (0 : Int32)) → K (some (.inl (-1 : Int32))) σ) ∧ (¬ ((0 : Int32) = (0 : Int32)) → _) from ⟨fun _ => (h.1 q0), fun q => absurd (by decide) q⟩), fun q0 => ⟨fun q1 => (show (((0 : Int32) = (0 : Int32)) → K (some (.inl (-1 : Int32))) σ) ∧ (¬ ((0 : Int32) = (0 : Int32)) → _) from ⟨fun _ => ((h.2 q0).1 q1), fun q => absurd (by decide) q⟩), fun q1 => (show (((1 : Int32) = (0 : Int32)) → _) ∧ (¬ ((1 : Int32) = (0 : Int32)) → 1 ≤ 4 ∧ 3 ≤ 8 ∧ True ∧ sX0_here [.inr (.inr (3, 0))] σ (fun vv tt => am_run eX6_most lX6_most (some .int) K X [31] 387 27 [some (.inr (.inr (0, 0))), some (.inl a)] (vv.toList ++ [.inl a, .inr (.inr (3, 0)), .inr (.inr (7, 0))]) tt)) from ⟨fun q => absurd q (by decide), fun _ => ⟨am_le rfl, am_le rfl, trivial, uX0_here (⟨((h.2 q0).2 q1).1, (show 5 ≤ 5 ∧ 0 ≤ 8 ∧ True ∧ sX3_gather [.inr (.inr (7, 0)), .inr (.inr (3, 0)), .inl a, .inl (nI (c_here σ 0)), .inl (0 : Int32)] σ (fun vv tt => X 31 [some (.inr (.inr (0, 0))), some (.inl a)] (vv.toList ++ []) tt) from ⟨am_le rfl, am_le rfl, trivial, ((h.2 q0).2 q1).2⟩)⟩)⟩⟩)⟩⟩)⟩)
set_option maxRecDepth 100000 in
set_option maxHeartbeats 400000 in
theorem b_xm31 {K : Option am_V → am_M → Prop} {X : Nat → am_L → List am_V → am_M → Prop} (hX : am_cl eX6_most lX6_most (some .int) K X) {σ : am_M} (a : Int32) (h : sX3_pack [.inr (.inr (7, 0))] σ (fun vv tt => X 38 [some (.inr (.inr (0, 0))), some (.inl a)] (vv.toList ++ []) tt)) : X 31 [some (.inr (.inr (0, 0))), some (.inl a)] [] σ := am_run_ok emX6_most hX [38] 400 (show 1 ≤ 1 ∧ 0 ≤ 8 ∧ True ∧ sX3_pack [.inr (.inr (7, 0))] σ (fun vv tt => X 38 [some (.inr (.inr (0, 0))), some (.inl a)] (vv.toList ++ []) tt) from ⟨am_le rfl, am_le rfl, trivial, h⟩)
set_option maxRecDepth 100000 in
set_option maxHeartbeats 400000 in
theorem b_xm38 {K : Option am_V → am_M → Prop} {X : Nat → am_L → List am_V → am_M → Prop} (hX : am_cl eX6_most lX6_most (some .int) K X) {σ : am_M} (a : Int32) (h : (c_ok σ 0) ∧ ((vp_in (nI (c_here σ 0)) 512) ∧ (K (some (.inl (σ 10 0 (nI (c_here σ 0)).toNatClampNeg))) σ))) : X 38 [some (.inr (.inr (0, 0))), some (.inl a)] [] σ := am_run_ok emX6_most hX [] 400 (show 1 ≤ 2 ∧ 1 ≤ 8 ∧ True ∧ sX0_here [.inr (.inr (3, 0))] σ (fun vv tt => am_run eX6_most lX6_most (some .int) K X [] 394 52 [some (.inr (.inr (0, 0))), some (.inl a)] (vv.toList ++ [.inr (.inr (10, 0))]) tt) from ⟨am_le rfl, am_le rfl, trivial, uX0_here (⟨h.1, (show (vp_in (nI (c_here σ 0)) 512) ∧ (K (some (.inl (σ 10 0 (nI (c_here σ 0)).toNatClampNeg))) σ) from ⟨h.2.1, h.2.2⟩)⟩)⟩)
set_option maxRecDepth 100000 in
set_option maxHeartbeats 400000 in
theorem b_ym0 {K : Option am_V → am_M → Prop} {X : Nat → am_L → List am_V → am_M → Prop} (hX : am_cl eX7_most lX7_most (some .int) K X) {σ : am_M} (a : Int32) (h : ((a < (2 : Int32)) → K (some (.inl (-1 : Int32))) σ) ∧ (¬ (a < (2 : Int32)) → (((5 : Int32) < a) → K (some (.inl (-1 : Int32))) σ) ∧ (¬ ((5 : Int32) < a) → sX7_layMost [.inr (.inr (20, 0)), .inl a] σ (fun vv tt => X 21 [some (.inr (.inr (20, 0))), some (.inl a)] (vv.toList ++ []) tt)))) : X 0 [some (.inr (.inr (20, 0))), some (.inl a)] [] σ := am_run_ok emX7_most hX [21] 400 (show 3 ≤ 3 ∧ 0 ≤ 8 ∧ sX7_in [.inr (.inl (a).toInt64), .inr (.inl (2 : Int64)), .inr (.inl (5 : Int64))] σ (fun vv tt => am_run eX7_most lX7_most (some .int) K X [21] 395 11 [some (.inr (.inr (20, 0))), some (.inl a)] (vv.toList ++ []) tt) from ⟨am_le rfl, am_le rfl, uX7_in (v := a) (a := (2 : Int32)) (b := (5 : Int32)) (⟨fun q0 => (show (((0 : Int32) = (0 : Int32)) → K (some (.inl (-1 : Int32))) σ) ∧ (¬ ((0 : Int32) = (0 : Int32)) → _) from ⟨fun _ => (h.1 q0), fun q => absurd (by decide) q⟩), fun q0 => ⟨fun q1 => (show (((0 : Int32) = (0 : Int32)) → K (some (.inl (-1 : Int32))) σ) ∧ (¬ ((0 : Int32) = (0 : Int32)) → _) from ⟨fun _ => ((h.2 q0).1 q1), fun q => absurd (by decide) q⟩), fun q1 => (show (((1 : Int32) = (0 : Int32)) → _) ∧ (¬ ((1 : Int32) = (0 : Int32)) → 2 ≤ 2 ∧ 0 ≤ 8 ∧ True ∧ sX7_layMost [.inr (.inr (20, 0)), .inl a] σ (fun vv tt => X 21 [some (.inr (.inr (20, 0))), some (.inl a)] (vv.toList ++ []) tt)) from ⟨fun q => absurd q (by decide), fun _ => ⟨am_le rfl, am_le rfl, trivial, ((h.2 q0).2 q1)⟩⟩)⟩⟩)⟩)
set_option maxRecDepth 100000 in
set_option maxHeartbeats 400000 in
theorem b_ym21 {K : Option am_V → am_M → Prop} {X : Nat → am_L → List am_V → am_M → Prop} (hX : am_cl eX7_most lX7_most (some .int) K X) {σ : am_M} (a : Int32) (h : (m_ok σ) ∧ ((vp_in (nI (m_here σ)) 512) ∧ (K (some (.inl (σ 26 0 (nI (m_here σ)).toNatClampNeg))) σ))) : X 21 [some (.inr (.inr (20, 0))), some (.inl a)] [] σ := am_run_ok emX7_most hX [] 400 (show 1 ≤ 2 ∧ 1 ≤ 8 ∧ True ∧ sX7_hereNow [.inr (.inr (20, 0))] σ (fun vv tt => am_run eX7_most lX7_most (some .int) K X [] 396 29 [some (.inr (.inr (20, 0))), some (.inl a)] (vv.toList ++ [.inr (.inr (26, 0))]) tt) from ⟨am_le rfl, am_le rfl, trivial, uX7_hereNow (⟨h.1, (show (vp_in (nI (m_here σ)) 512) ∧ (K (some (.inl (σ 26 0 (nI (m_here σ)).toNatClampNeg))) σ) from ⟨h.2.1, h.2.2⟩)⟩)⟩)
set_option maxRecDepth 100000 in
set_option maxHeartbeats 400000 in
theorem b_xt0 {K : Option am_V → am_M → Prop} {X : Nat → am_L → List am_V → am_M → Prop} (hX : am_cl eX6_sets lX6_sets (some .int) K X) {σ : am_M} (a : Int32) (h : ((a < (0 : Int32)) → K (some (.inl (-1 : Int32))) σ) ∧ (¬ (a < (0 : Int32)) → (((3 : Int32) < a) → K (some (.inl (-1 : Int32))) σ) ∧ (¬ ((3 : Int32) < a) → (c_ok σ 0) ∧ (sX3_gather [.inr (.inr (7, 0)), .inr (.inr (3, 0)), .inl (σ 3 0 2), .inl (nI (c_here σ 0)), .inl (0 : Int32)] σ (fun vv tt => X 37 [some (.inr (.inr (0, 0))), some (.inl a)] (vv.toList ++ []) tt))))) : X 0 [some (.inr (.inr (0, 0))), some (.inl a)] [] σ := am_run_ok emX6_sets hX [37] 400 (show 3 ≤ 3 ∧ 0 ≤ 8 ∧ sX6_isWithin [.inl a, .inl (0 : Int32), .inl (3 : Int32)] σ (fun vv tt => am_run eX6_sets lX6_sets (some .int) K X [37] 396 6 [some (.inr (.inr (0, 0))), some (.inl a)] (vv.toList ++ []) tt) from ⟨am_le rfl, am_le rfl, tX6_isWithin (⟨fun q0 => (show (((0 : Int32) = (0 : Int32)) → K (some (.inl (-1 : Int32))) σ) ∧ (¬ ((0 : Int32) = (0 : Int32)) → _) from ⟨fun _ => (h.1 q0), fun q => absurd (by decide) q⟩), fun q0 => ⟨fun q1 => (show (((0 : Int32) = (0 : Int32)) → K (some (.inl (-1 : Int32))) σ) ∧ (¬ ((0 : Int32) = (0 : Int32)) → _) from ⟨fun _ => ((h.2 q0).1 q1), fun q => absurd (by decide) q⟩), fun q1 => (show (((1 : Int32) = (0 : Int32)) → _) ∧ (¬ ((1 : Int32) = (0 : Int32)) → 1 ≤ 4 ∧ 3 ≤ 8 ∧ True ∧ sX0_here [.inr (.inr (3, 0))] σ (fun vv tt => am_run eX6_sets lX6_sets (some .int) K X [37] 385 33 [some (.inr (.inr (0, 0))), some (.inl a)] (vv.toList ++ [.inl (σ 3 0 2), .inr (.inr (3, 0)), .inr (.inr (7, 0))]) tt)) from ⟨fun q => absurd q (by decide), fun _ => ⟨am_le rfl, am_le rfl, trivial, uX0_here (⟨((h.2 q0).2 q1).1, (show 5 ≤ 5 ∧ 0 ≤ 8 ∧ True ∧ sX3_gather [.inr (.inr (7, 0)), .inr (.inr (3, 0)), .inl (σ 3 0 2), .inl (nI (c_here σ 0)), .inl (0 : Int32)] σ (fun vv tt => X 37 [some (.inr (.inr (0, 0))), some (.inl a)] (vv.toList ++ []) tt) from ⟨am_le rfl, am_le rfl, trivial, ((h.2 q0).2 q1).2⟩)⟩)⟩⟩)⟩⟩)⟩)
set_option maxRecDepth 100000 in
set_option maxHeartbeats 400000 in
theorem b_xt37 {K : Option am_V → am_M → Prop} {X : Nat → am_L → List am_V → am_M → Prop} (hX : am_cl eX6_sets lX6_sets (some .int) K X) {σ : am_M} (a : Int32) (h : (c_ok σ 0) ∧ (sX6_tellSets [.inr (.inr (0, 0)), .inl a, .inl (nI (c_here σ 0))] σ (fun vv tt => X 49 [some (.inr (.inr (0, 0))), some (.inl a)] (vv.toList ++ []) tt))) : X 37 [some (.inr (.inr (0, 0))), some (.inl a)] [] σ := am_run_ok emX6_sets hX [49] 400 (show 1 ≤ 3 ∧ 2 ≤ 8 ∧ True ∧ sX0_here [.inr (.inr (3, 0))] σ (fun vv tt => am_run eX6_sets lX6_sets (some .int) K X [49] 395 46 [some (.inr (.inr (0, 0))), some (.inl a)] (vv.toList ++ [.inl a, .inr (.inr (0, 0))]) tt) from ⟨am_le rfl, am_le rfl, trivial, uX0_here (⟨h.1, (show 3 ≤ 3 ∧ 0 ≤ 8 ∧ True ∧ sX6_tellSets [.inr (.inr (0, 0)), .inl a, .inl (nI (c_here σ 0))] σ (fun vv tt => X 49 [some (.inr (.inr (0, 0))), some (.inl a)] (vv.toList ++ []) tt) from ⟨am_le rfl, am_le rfl, trivial, h.2⟩)⟩)⟩)
set_option maxRecDepth 100000 in
set_option maxHeartbeats 400000 in
theorem b_xt49 {K : Option am_V → am_M → Prop} {X : Nat → am_L → List am_V → am_M → Prop} (hX : am_cl eX6_sets lX6_sets (some .int) K X) {σ : am_M} (a v : Int32) (h : K (some (.inl v)) σ) : X 49 [some (.inr (.inr (0, 0))), some (.inl a)] [.inl v] σ := am_run_ok emX6_sets hX [] 400 (show K (some (.inl v)) σ from h)
set_option maxRecDepth 100000 in
set_option maxHeartbeats 400000 in
theorem b_xf0 {K : Option am_V → am_M → Prop} {X : Nat → am_L → List am_V → am_M → Prop} (hX : am_cl eX6_fill lX6_fill (some .int) K X) {σ : am_M} (a : Int32) (h : ((a < (0 : Int32)) → K (some (.inl (-1 : Int32))) σ) ∧ (¬ (a < (0 : Int32)) → (((1 : Int32) < a) → K (some (.inl (-1 : Int32))) σ) ∧ (¬ ((1 : Int32) < a) → (c_ok σ 0) ∧ ((c_ok σ 0) ∧ (sX3_gather [.inr (.inr (7, 0)), .inr (.inr (3, 0)), .inl (σ 3 0 2), .inl (nI (c_here σ 0)), .inl (nI (c_who σ 0 (2 : Int32)))] σ (fun vv tt => X 44 [some (.inr (.inr (0, 0))), some (.inl a)] (vv.toList ++ []) tt)))))) : X 0 [some (.inr (.inr (0, 0))), some (.inl a)] [] σ := am_run_ok emX6_fill hX [44] 400 (show 3 ≤ 3 ∧ 0 ≤ 8 ∧ sX6_isWithin [.inl a, .inl (0 : Int32), .inl (1 : Int32)] σ (fun vv tt => am_run eX6_fill lX6_fill (some .int) K X [44] 396 6 [some (.inr (.inr (0, 0))), some (.inl a)] (vv.toList ++ []) tt) from ⟨am_le rfl, am_le rfl, tX6_isWithin (⟨fun q0 => (show (((0 : Int32) = (0 : Int32)) → K (some (.inl (-1 : Int32))) σ) ∧ (¬ ((0 : Int32) = (0 : Int32)) → _) from ⟨fun _ => (h.1 q0), fun q => absurd (by decide) q⟩), fun q0 => ⟨fun q1 => (show (((0 : Int32) = (0 : Int32)) → K (some (.inl (-1 : Int32))) σ) ∧ (¬ ((0 : Int32) = (0 : Int32)) → _) from ⟨fun _ => ((h.2 q0).1 q1), fun q => absurd (by decide) q⟩), fun q1 => (show (((1 : Int32) = (0 : Int32)) → _) ∧ (¬ ((1 : Int32) = (0 : Int32)) → 1 ≤ 4 ∧ 3 ≤ 8 ∧ True ∧ sX0_here [.inr (.inr (3, 0))] σ (fun vv tt => am_run eX6_fill lX6_fill (some .int) K X [44] 385 33 [some (.inr (.inr (0, 0))), some (.inl a)] (vv.toList ++ [.inl (σ 3 0 2), .inr (.inr (3, 0)), .inr (.inr (7, 0))]) tt)) from ⟨fun q => absurd q (by decide), fun _ => ⟨am_le rfl, am_le rfl, trivial, uX0_here (⟨((h.2 q0).2 q1).1, (show 2 ≤ 6 ∧ 4 ≤ 8 ∧ True ∧ sX0_those [.inr (.inr (3, 0)), .inl (2 : Int32)] σ (fun vv tt => am_run eX6_fill lX6_fill (some .int) K X [44] 381 41 [some (.inr (.inr (0, 0))), some (.inl a)] (vv.toList ++ [.inl (nI (c_here σ 0)), .inl (σ 3 0 2), .inr (.inr (3, 0)), .inr (.inr (7, 0))]) tt) from ⟨am_le rfl, am_le rfl, trivial, tX0_those (⟨((h.2 q0).2 q1).2.1, (show 5 ≤ 5 ∧ 0 ≤ 8 ∧ True ∧ sX3_gather [.inr (.inr (7, 0)), .inr (.inr (3, 0)), .inl (σ 3 0 2), .inl (nI (c_here σ 0)), .inl (nI (c_who σ 0 (2 : Int32)))] σ (fun vv tt => X 44 [some (.inr (.inr (0, 0))), some (.inl a)] (vv.toList ++ []) tt) from ⟨am_le rfl, am_le rfl, trivial, ((h.2 q0).2 q1).2.2⟩)⟩)⟩)⟩)⟩⟩)⟩⟩)⟩)
set_option maxRecDepth 100000 in
set_option maxHeartbeats 400000 in
theorem b_xf44 {K : Option am_V → am_M → Prop} {X : Nat → am_L → List am_V → am_M → Prop} (hX : am_cl eX6_fill lX6_fill (some .int) K X) {σ : am_M} (a : Int32) (h : (c_ok σ 0) ∧ (sX6_tellSets [.inr (.inr (0, 0)), .inl a, .inl (nI (c_here σ 0))] σ (fun vv tt => X 56 [some (.inr (.inr (0, 0))), some (.inl a)] (vv.toList ++ []) tt))) : X 44 [some (.inr (.inr (0, 0))), some (.inl a)] [] σ := am_run_ok emX6_fill hX [56] 400 (show 1 ≤ 3 ∧ 2 ≤ 8 ∧ True ∧ sX0_here [.inr (.inr (3, 0))] σ (fun vv tt => am_run eX6_fill lX6_fill (some .int) K X [56] 395 53 [some (.inr (.inr (0, 0))), some (.inl a)] (vv.toList ++ [.inl a, .inr (.inr (0, 0))]) tt) from ⟨am_le rfl, am_le rfl, trivial, uX0_here (⟨h.1, (show 3 ≤ 3 ∧ 0 ≤ 8 ∧ True ∧ sX6_tellSets [.inr (.inr (0, 0)), .inl a, .inl (nI (c_here σ 0))] σ (fun vv tt => X 56 [some (.inr (.inr (0, 0))), some (.inl a)] (vv.toList ++ []) tt) from ⟨am_le rfl, am_le rfl, trivial, h.2⟩)⟩)⟩)
set_option maxRecDepth 100000 in
set_option maxHeartbeats 400000 in
theorem b_xf56 {K : Option am_V → am_M → Prop} {X : Nat → am_L → List am_V → am_M → Prop} (hX : am_cl eX6_fill lX6_fill (some .int) K X) {σ : am_M} (a v : Int32) (h : K (some (.inl v)) σ) : X 56 [some (.inr (.inr (0, 0))), some (.inl a)] [.inl v] σ := am_run_ok emX6_fill hX [] 400 (show K (some (.inl v)) σ from h)
set_option maxRecDepth 100000 in
set_option maxHeartbeats 400000 in
theorem b_xi0 {K : Option am_V → am_M → Prop} {X : Nat → am_L → List am_V → am_M → Prop} (hX : am_cl eX6_fits lX6_fits (some .int) K X) {σ : am_M} (a : Int32) (h : ((a < (0 : Int32)) → K (some (.inl (-1 : Int32))) σ) ∧ (¬ (a < (0 : Int32)) → (((3 : Int32) < a) → K (some (.inl (-1 : Int32))) σ) ∧ (¬ ((3 : Int32) < a) → sX2_those [.inr (.inr (11, 0)), .inl (0 : Int32)] σ (fun vv tt => X 45 [some (.inr (.inr (0, 0))), some (.inl a), some (.inl (((1 : Int32) <<< ((σ 3 0 1) &&& 31)) - (1 : Int32)))] (vv.toList ++ [.inl (((1 : Int32) <<< ((σ 3 0 1) &&& 31)) - (1 : Int32)), .inl (σ 3 0 2), .inr (.inr (3, 0)), .inr (.inr (7, 0))]) tt)))) : X 0 [some (.inr (.inr (0, 0))), some (.inl a), none] [] σ := am_run_ok emX6_fits hX [45] 400 (show 3 ≤ 3 ∧ 0 ≤ 8 ∧ sX6_isWithin [.inl a, .inl (0 : Int32), .inl (3 : Int32)] σ (fun vv tt => am_run eX6_fits lX6_fits (some .int) K X [45] 396 6 [some (.inr (.inr (0, 0))), some (.inl a), none] (vv.toList ++ []) tt) from ⟨am_le rfl, am_le rfl, tX6_isWithin (⟨fun q0 => (show (((0 : Int32) = (0 : Int32)) → K (some (.inl (-1 : Int32))) σ) ∧ (¬ ((0 : Int32) = (0 : Int32)) → _) from ⟨fun _ => (h.1 q0), fun q => absurd (by decide) q⟩), fun q0 => ⟨fun q1 => (show (((0 : Int32) = (0 : Int32)) → K (some (.inl (-1 : Int32))) σ) ∧ (¬ ((0 : Int32) = (0 : Int32)) → _) from ⟨fun _ => ((h.2 q0).1 q1), fun q => absurd (by decide) q⟩), fun q1 => (show (((1 : Int32) = (0 : Int32)) → _) ∧ (¬ ((1 : Int32) = (0 : Int32)) → 1 ≤ 1 ∧ 0 ≤ 8 ∧ True ∧ sX0_pools [.inr (.inr (3, 0))] σ (fun vv tt => am_run eX6_fits lX6_fits (some .int) K X [45] 392 18 [some (.inr (.inr (0, 0))), some (.inl a), none] (vv.toList ++ []) tt)) from ⟨fun q => absurd q (by decide), fun _ => ⟨am_le rfl, am_le rfl, trivial, tX0_pools ((show 2 ≤ 6 ∧ 4 ≤ 8 ∧ True ∧ sX2_those [.inr (.inr (11, 0)), .inl (0 : Int32)] σ (fun vv tt => X 45 [some (.inr (.inr (0, 0))), some (.inl a), some (.inl (((1 : Int32) <<< ((σ 3 0 1) &&& 31)) - (1 : Int32)))] (vv.toList ++ [.inl (((1 : Int32) <<< ((σ 3 0 1) &&& 31)) - (1 : Int32)), .inl (σ 3 0 2), .inr (.inr (3, 0)), .inr (.inr (7, 0))]) tt) from ⟨am_le rfl, am_le rfl, trivial, ((h.2 q0).2 q1)⟩))⟩⟩)⟩⟩)⟩)
set_option maxRecDepth 100000 in
set_option maxHeartbeats 400000 in
theorem b_xi45 {K : Option am_V → am_M → Prop} {X : Nat → am_L → List am_V → am_M → Prop} (hX : am_cl eX6_fits lX6_fits (some .int) K X) {σ : am_M} (a b v p : Int32) (h : sX2_those [.inr (.inr (11, 0)), .inl (1 : Int32)] σ (fun vv tt => X 56 [some (.inr (.inr (0, 0))), some (.inl a), some (.inl b)] (vv.toList ++ [.inl (b &&& (v ^^^ (-1 : Int32))), .inl p, .inr (.inr (3, 0)), .inr (.inr (7, 0))]) tt)) : X 45 [some (.inr (.inr (0, 0))), some (.inl a), some (.inl b)] [.inl v, .inl b, .inl p, .inr (.inr (3, 0)), .inr (.inr (7, 0))] σ := am_run_ok emX6_fits hX [56] 400 (show 2 ≤ 6 ∧ 4 ≤ 8 ∧ True ∧ sX2_those [.inr (.inr (11, 0)), .inl (1 : Int32)] σ (fun vv tt => X 56 [some (.inr (.inr (0, 0))), some (.inl a), some (.inl b)] (vv.toList ++ [.inl (b &&& (v ^^^ (-1 : Int32))), .inl p, .inr (.inr (3, 0)), .inr (.inr (7, 0))]) tt) from ⟨am_le rfl, am_le rfl, trivial, h⟩)
set_option maxRecDepth 100000 in
set_option maxHeartbeats 400000 in
theorem b_xi56 {K : Option am_V → am_M → Prop} {X : Nat → am_L → List am_V → am_M → Prop} (hX : am_cl eX6_fits lX6_fits (some .int) K X) {σ : am_M} (a b u v p : Int32) (h : sX3_gather [.inr (.inr (7, 0)), .inr (.inr (3, 0)), .inl p, .inl v, .inl u] σ (fun vv tt => X 59 [some (.inr (.inr (0, 0))), some (.inl a), some (.inl b)] (vv.toList ++ []) tt)) : X 56 [some (.inr (.inr (0, 0))), some (.inl a), some (.inl b)] [.inl u, .inl v, .inl p, .inr (.inr (3, 0)), .inr (.inr (7, 0))] σ := am_run_ok emX6_fits hX [59] 400 (show 5 ≤ 5 ∧ 0 ≤ 8 ∧ True ∧ sX3_gather [.inr (.inr (7, 0)), .inr (.inr (3, 0)), .inl p, .inl v, .inl u] σ (fun vv tt => X 59 [some (.inr (.inr (0, 0))), some (.inl a), some (.inl b)] (vv.toList ++ []) tt) from ⟨am_le rfl, am_le rfl, trivial, h⟩)
set_option maxRecDepth 100000 in
set_option maxHeartbeats 400000 in
theorem b_xi59 {K : Option am_V → am_M → Prop} {X : Nat → am_L → List am_V → am_M → Prop} (hX : am_cl eX6_fits lX6_fits (some .int) K X) {σ : am_M} (a b : Int32) (h : sX6_tellSets [.inr (.inr (0, 0)), .inl a, .inl b] σ (fun vv tt => X 65 [some (.inr (.inr (0, 0))), some (.inl a), some (.inl b)] (vv.toList ++ []) tt)) : X 59 [some (.inr (.inr (0, 0))), some (.inl a), some (.inl b)] [] σ := am_run_ok emX6_fits hX [65] 400 (show 3 ≤ 3 ∧ 0 ≤ 8 ∧ True ∧ sX6_tellSets [.inr (.inr (0, 0)), .inl a, .inl b] σ (fun vv tt => X 65 [some (.inr (.inr (0, 0))), some (.inl a), some (.inl b)] (vv.toList ++ []) tt) from ⟨am_le rfl, am_le rfl, trivial, h⟩)
set_option maxRecDepth 100000 in
set_option maxHeartbeats 400000 in
theorem b_xi65 {K : Option am_V → am_M → Prop} {X : Nat → am_L → List am_V → am_M → Prop} (hX : am_cl eX6_fits lX6_fits (some .int) K X) {σ : am_M} (a b v : Int32) (h : K (some (.inl v)) σ) : X 65 [some (.inr (.inr (0, 0))), some (.inl a), some (.inl b)] [.inl v] σ := am_run_ok emX6_fits hX [] 400 (show K (some (.inl v)) σ from h)
set_option maxRecDepth 100000 in
set_option maxHeartbeats 400000 in
theorem b_se0 {K : Option am_V → am_M → Prop} {X : Nat → am_L → List am_V → am_M → Prop} (hX : am_cl eX2_those lX2_those (some .int) K X) {σ : am_M} (a : Int32) (h : X 4 [some (.inr (.inr (11, 0))), some (.inl a), some (.inl (0 : Int32)), some (.inl (0 : Int32))] [] σ) : X 0 [some (.inr (.inr (11, 0))), some (.inl a), none, none] [] σ := am_run_ok emX2_those hX [4] 400 (show X 4 [some (.inr (.inr (11, 0))), some (.inl a), some (.inl (0 : Int32)), some (.inl (0 : Int32))] [] σ from h)
set_option maxRecDepth 100000 in
set_option maxHeartbeats 400000 in
theorem b_se4 {K : Option am_V → am_M → Prop} {X : Nat → am_L → List am_V → am_M → Prop} (hX : am_cl eX2_those lX2_those (some .int) K X) {σ : am_M} (a s t : Int32) (h : (((σ 11 0 2) ≤ t) → K (some (.inl s)) σ) ∧ (¬ ((σ 11 0 2) ≤ t) → (vp_in t 6) ∧ ((((σ 13 0 t.toNatClampNeg) = a) → (vp_in t 6) ∧ (X 4 [some (.inr (.inr (11, 0))), some (.inl a), some (.inl (s ||| ((1 : Int32) <<< ((σ 12 0 t.toNatClampNeg) &&& 31)))), some (.inl (t + (1 : Int32)))] [] σ)) ∧ (¬ ((σ 13 0 t.toNatClampNeg) = a) → X 4 [some (.inr (.inr (11, 0))), some (.inl a), some (.inl (s ||| (0 : Int32))), some (.inl (t + (1 : Int32)))] [] σ)))) : X 4 [some (.inr (.inr (11, 0))), some (.inl a), some (.inl s), some (.inl t)] [] σ := am_run_ok emX2_those hX [4] 400 (show (((σ 11 0 2) ≤ t) → K (some (.inl s)) σ) ∧ (¬ ((σ 11 0 2) ≤ t) → (vp_in t 6) ∧ ((((σ 13 0 t.toNatClampNeg) = a) → (vp_in t 6) ∧ (X 4 [some (.inr (.inr (11, 0))), some (.inl a), some (.inl (s ||| ((1 : Int32) <<< ((σ 12 0 t.toNatClampNeg) &&& 31)))), some (.inl (t + (1 : Int32)))] [] σ)) ∧ (¬ ((σ 13 0 t.toNatClampNeg) = a) → X 4 [some (.inr (.inr (11, 0))), some (.inl a), some (.inl (s ||| (0 : Int32))), some (.inl (t + (1 : Int32)))] [] σ))) from ⟨fun q0 => (h.1 q0), fun q0 => ⟨(h.2 q0).1, ⟨fun q1 => ⟨((h.2 q0).2.1 q1).1, ((h.2 q0).2.1 q1).2⟩, fun q1 => ((h.2 q0).2.2 q1)⟩⟩⟩)
theorem ivz_of {σ τ : am_M} (h : ∀ k, k ≠ 6 → k ≠ 7 → k ≠ 8 → k ≠ 9 → k ≠ 10 → k ≠ 19 → k ≠ 22 → k ≠ 26 → τ k = σ k) : ivz σ τ := by
  have f : ∀ k, k ≠ 6 ∧ k ≠ 7 ∧ k ≠ 8 ∧ k ≠ 9 ∧ k ≠ 10 ∧ k ≠ 19 ∧ k ≠ 22 ∧ k ≠ 26 → τ k = σ k := fun k c => h k c.1 c.2.1 c.2.2.1 c.2.2.2.1 c.2.2.2.2.1 c.2.2.2.2.2.1 c.2.2.2.2.2.2.1 c.2.2.2.2.2.2.2
  exact ⟨⟨fun k _ _ c6 c7 c8 c9 c10 c19 _ _ c22 c26 => f k ⟨c6, c7, c8, c9, c10, c19, c22, c26⟩, fun j _ => by rw [f 20 (by decide)], fun c _ => by rw [f 3 (by decide)], fun i _ => by rw [f 5 (by decide)], fun j _ _ => by rw [f 21 (by decide)]⟩, by rw [f 3 (by decide)], fun i _ => by rw [f 5 (by decide)], fun j _ => by rw [f 21 (by decide)]⟩
theorem ivz_got {σ τ : am_M} {L : List Nat} {n : Nat} (h : s_got σ τ L n) : ivz σ τ := ivz_of fun k _ c7 c8 c9 _ _ _ _ => h.1 k c7 c8 c9
theorem ivz_col {σ τ : am_M} {L : List Nat} {n : Nat} (h : m_col σ τ L n) : ivz σ τ := ⟨⟨fun k _ _ _ _ _ _ _ _ c20 _ _ _ => h.1 k c20, fun j hj => h.2.1 j (by omega), fun c _ => by rw [h.1 3 (by decide)], fun i _ => by rw [h.1 5 (by decide)], fun j _ _ => by rw [h.1 21 (by decide)]⟩, by rw [h.1 3 (by decide)], fun i _ => by rw [h.1 5 (by decide)], fun j _ => by rw [h.1 21 (by decide)]⟩
theorem p_aw_cg {r r' : Rw} {n p S : Nat} (hp : p < n) (h : ∀ q j, q < n → j < 4 → r q j = r' q j) : p_aw r n p S = p_aw r' n p S := q_set_cg fun q hq => by
  rw [al_cg (fun j hj => h p j hp hj) (fun j hj => h q j hq hj)]
theorem p_un_cg {r r' : Rw} {n S : Nat} (h : ∀ q j, q < n → j < 4 → r q j = r' q j) : p_un r n S = p_un r' n S := by
  unfold p_un
  rw [Bool.eq_iff_iff, List.all_eq_true, List.all_eq_true]
  constructor
  · intro g p hp
    rw [← p_aw_cg (List.mem_range.mp hp) h]
    exact g p hp
  · intro g p hp
    rw [p_aw_cg (List.mem_range.mp hp) h]
    exact g p hp
theorem iv_q {σ τ : am_M} {n pl : Nat} (hv : iv σ n pl) (hz : ivz σ τ) : m_ok τ ∧ m_n τ = n ∧ m_here τ = c_here σ 0 ∧ c_here σ 0 < 2 ^ n ∧ (∀ s, p_who (m_r τ 0) n s = c_who σ 0 s) ∧ (∀ S, p_un (m_r τ 0) n S = p_un (c_r σ 0) n S) ∧ m_pl τ = nI pl ∧ (∀ q j, q < n → j < 7 → m_r τ 0 q j = c_r σ 0 q j) ∧ c_ok τ 0 ∧ c_n τ 0 = n ∧ c_here τ 0 = c_here σ 0 ∧ (∀ s, c_who τ 0 s = c_who σ 0 s) ∧ (∀ s, c_who σ 0 s < 2 ^ n) := by
  have hv' := iv_z hz hv
  obtain ⟨f1, f2, f3, f4, f5⟩ := iv_f hv'
  obtain ⟨g1, g2, g3, g4, g5⟩ := iv_f hv
  have h9 := hv.1
  have er : ∀ q, q < n → c_r τ 0 q = c_r σ 0 q := fun q hq => ivz_r hz (by omega)
  have em : ∀ q j, q < n → j < 7 → m_r τ 0 q j = c_r σ 0 q j := fun q j hq hj => by
    rw [← hv'.2.2.1.2.1 q j hq hj, er q hq]
  have ew : ∀ s, c_who τ 0 s = c_who σ 0 s := fun s => by
    unfold c_who
    rw [f2, g2]
    refine q_set_cg fun p hp => ?_
    have := congrFun (er p hp) 6
    unfold c_r at this
    rw [this]
  have ep : ∀ s, p_who (m_r τ 0) n s = c_who σ 0 s := fun s => by
    rw [f5, ← ew]
    unfold c_who p_who
    rw [f2]
    rfl
  have el : ∀ s, c_who σ 0 s < 2 ^ n := fun s => by
    unfold c_who
    rw [g2]
    exact q_set_lt _ n
  refine ⟨f3, f4, ?_, ?_, ep, fun S => p_un_cg fun q j hq hj => em q j hq (by omega), ?_, em, f1, f2, ?_, ew, el⟩
  · unfold m_here c_here
    rw [f4, ep, ep]
  · exact Nat.or_lt_two_pow (el 1) (el 2)
  · exact hv'.2.2.1.2.2.2.1
  · unfold c_here
    rw [ew, ew]
theorem q_ls_cut {P : Nat → Bool} {m : Nat} (h : ∀ S, P S = true → S < m) : ∀ {n : Nat}, m ≤ n → q_ls P n = q_ls P m
  | 0, hn => by rw [show m = 0 by omega]
  | n + 1, hn => by
    by_cases c : m = n + 1
    · rw [c]
    · rw [q_ls_no (fun q => absurd (h n q) (by omega)), q_ls_cut h (by omega)]
theorem q_512 {S n : Nat} (h9 : n ≤ 9) (h : S < 2 ^ n) : S < 512 := Nat.lt_of_lt_of_le h (Nat.pow_le_pow_right (n := 2) (by decide) h9)
theorem q_df0 (S : Nat) : q_df 0 S = 0 := by
  unfold q_df
  simp
theorem l_sets {σ τ : am_M} {n pl : Nat} (hv : iv σ n pl) (hz : ivz σ τ) : q_ls (fun S => decide (q_df S (m_here τ) = 0) && m_boat τ S) (m_here τ + 1) = q_ls (p_gd (c_r σ 0) n pl (c_here σ 0) 0) (2 ^ n) := by
  obtain ⟨k1, k2, k3, k4, k5, k6, k7, k8, k9, k10, k11, k12, k13⟩ := iv_q hv hz
  have h5 := hv.2.2.1.2.2.2.2.1.2
  rw [k3]
  have e : (fun S => decide (q_df S (c_here σ 0) = 0) && m_boat τ S) = p_gd (c_r σ 0) n pl (c_here σ 0) 0 := by
    funext S
    have hq := q_pop_le S 9
    unfold m_boat p_gd
    rw [k2, k6, k7, q_df0]
    have e2 : decide (nI (q_pop S 9) = nI pl) = decide (q_pop S 9 = pl) := decide_eq_decide.mpr (nI_eq (by omega) (by omega))
    rw [e2]
    simp
  rw [e]
  refine (q_ls_cut (fun S h => ?_) (by omega)).symm
  unfold p_gd at h
  rw [Bool.and_eq_true] at h
  have := q_sub_le (of_decide_eq_true h.1)
  omega
theorem l_fill {σ τ : am_M} {n pl : Nat} (hv : iv σ n pl) (hz : ivz σ τ) : q_ls (fun S => m_fil τ S (m_here τ)) (m_here τ + 1) = q_ls (p_gd (c_r σ 0) n pl (c_here σ 0) (c_who σ 0 2)) (2 ^ n) := by
  obtain ⟨k1, k2, k3, k4, k5, k6, k7, k8, k9, k10, k11, k12, k13⟩ := iv_q hv hz
  have h5 := hv.2.2.1.2.2.2.2.1.2
  rw [k3]
  have e : (fun S => m_fil τ S (c_here σ 0)) = p_gd (c_r σ 0) n pl (c_here σ 0) (c_who σ 0 2) := by
    funext S
    have hq := q_pop_le S 9
    unfold m_fil m_boat p_gd
    rw [k2, k6, k7, k5]
    congr 1
    congr 1
    rw [decide_eq_decide.mpr (nI_eq (by omega) (by omega))]
  rw [e]
  refine (q_ls_cut (fun S h => ?_) (by omega)).symm
  unfold p_gd at h
  rw [Bool.and_eq_true] at h
  have := q_sub_le (of_decide_eq_true h.1)
  omega
theorem pr_sets {σ : am_M} {a : Int32} (hI : Inv σ) : pairI sX6_sets sX7_sets [.inl a] σ := by
  obtain ⟨n, pl, hv⟩ := id hI
  obtain ⟨h9, a1, a2, -⟩ := id hv
  obtain ⟨b1, b2, b3, b4, b5, b6, b7, b8, b9, b10, b11⟩ := id a2
  obtain ⟨k1, k2, k3, k4, k5, k6, k7, k8, k9, k10, k11, k12, k13⟩ := iv_q hv ivz_refl
  refine ⟨am_le rfl, fun X hX => b_xt0 hX a ⟨fun c1 => ⟨_, rfl, tX7_sets k1 k7 b5.2 (fun _ => ⟨rfl, hI⟩) (fun q => absurd (Or.inl c1) q)⟩, fun c1 => ⟨fun c2 => ⟨_, rfl, tX7_sets k1 k7 b5.2 (fun _ => ⟨rfl, hI⟩) (fun q => absurd (Or.inr c2) q)⟩, fun c2 => ⟨k9, ?_⟩⟩⟩⟩
  rw [b3]
  refine tX3_gather (M := 0) k9 (by omega) (q_512 h9 k4) (by decide) fun τ hg => ?_
  rw [k10] at hg
  have hz := ivz_got hg
  obtain ⟨j1, j2, j3, j4, j5, j6, j7, j8, j9, j10, j11, j12, j13⟩ := iv_q hv hz
  refine b_xt37 hX _ ⟨j9, ?_⟩
  refine tX6_tellSets (s_got_has hg (p_gd_126 h9 (by omega))) (b_xt49 hX _ _ ⟨_, rfl, tX7_sets j1 j7 b5.2 (fun q => (q.elim c1 c2).elim) (fun _ τ' hc => ⟨?_, n, pl, iv_z (ivz_col hc) (iv_z hz hv)⟩)⟩)
  rw [l_sets hv hz, j3, j11]
theorem pr_fill {σ : am_M} {a : Int32} (hI : Inv σ) : pairI sX6_fill sX7_fill [.inl a] σ := by
  obtain ⟨n, pl, hv⟩ := id hI
  obtain ⟨h9, a1, a2, -⟩ := id hv
  obtain ⟨b1, b2, b3, b4, b5, b6, b7, b8, b9, b10, b11⟩ := id a2
  obtain ⟨k1, k2, k3, k4, k5, k6, k7, k8, k9, k10, k11, k12, k13⟩ := iv_q hv ivz_refl
  refine ⟨am_le rfl, fun X hX => b_xf0 hX a ⟨fun c1 => ⟨_, rfl, tX7_fill k1 k7 b5.2 (fun _ => ⟨rfl, hI⟩) (fun q => absurd (Or.inl c1) q)⟩, fun c1 => ⟨fun c2 => ⟨_, rfl, tX7_fill k1 k7 b5.2 (fun _ => ⟨rfl, hI⟩) (fun q => absurd (Or.inr c2) q)⟩, fun c2 => ⟨k9, k9, ?_⟩⟩⟩⟩
  rw [b3]
  refine tX3_gather k9 (by omega) (q_512 h9 k4) (q_512 h9 (k13 2)) fun τ hg => ?_
  rw [k10] at hg
  have hz := ivz_got hg
  obtain ⟨j1, j2, j3, j4, j5, j6, j7, j8, j9, j10, j11, j12, j13⟩ := iv_q hv hz
  refine b_xf44 hX _ ⟨j9, ?_⟩
  refine tX6_tellSets (s_got_has hg (p_gd_126 h9 (by omega))) (b_xf56 hX _ _ ⟨_, rfl, tX7_fill j1 j7 b5.2 (fun q => (q.elim c1 c2).elim) (fun _ τ' hc => ⟨?_, n, pl, iv_z (ivz_col hc) (iv_z hz hv)⟩)⟩)
  rw [l_fill hv hz, j3, j11]
/-- in a pool that lies in H the gathered sets and the boats pack alike -/
theorem mx_here {r : Rw} {n z H Q v w : Nat} (h1 : mx (p_gd r n z H 0) Q v) (h2 : mx (p_bt r n z) Q w) (hQ : q_df Q H = 0) : v = w := by
  refine mx_one (mx_cg (good' := p_bt r n z) (fun S hS => ?_) hQ h1) h2
  unfold p_gd p_bt
  rw [hS, q_df0]
  simp
theorem p_bt_cg {r r' : Rw} {n z : Nat} (h : ∀ S, p_un r n S = p_un r' n S) : p_bt r n z = p_bt r' n z := by
  funext S
  unfold p_bt
  rw [h]
theorem p_gd_0 {r : Rw} {n z P M : Nat} (hz : 1 ≤ z) : p_gd r n z P M 0 = false := by
  have : ¬ q_pop 0 9 = z := by
    rw [q_pop_0]
    omega
  unfold p_gd
  simp [this]
theorem pr_most {σ : am_M} {a : Int32} (hI : Inv σ) : pairI sX6_most sX7_most [.inl a] σ := by
  obtain ⟨n, pl, hv⟩ := id hI
  obtain ⟨h9, a1, a2, -⟩ := id hv
  obtain ⟨k1, k2, k3, k4, k5, k6, k7, k8, k9, k10, k11, k12, k13⟩ := iv_q hv ivz_refl
  refine ⟨am_le rfl, fun X hX => b_xm0 hX a ⟨fun c1 => ⟨_, rfl, am_le rfl, fun Y hY => b_ym0 hY _ ⟨fun _ => ⟨rfl, hI⟩, fun q => absurd c1 q⟩⟩, fun c1 => ⟨fun c2 => ⟨_, rfl, am_le rfl, fun Y hY => b_ym0 hY _ ⟨fun q => absurd q c1, fun _ => ⟨fun _ => ⟨rfl, hI⟩, fun q => absurd c2 q⟩⟩⟩, fun c2 => ⟨k9, ?_⟩⟩⟩⟩
  obtain ⟨z, z2, z5, rfl⟩ := q_rng (a := 2) (b := 5) rfl rfl (by decide) c1 c2 (by decide)
  refine tX3_gather (M := 0) k9 (by omega) (q_512 h9 k4) (by decide) fun τ hg => ?_
  rw [k10] at hg
  have hz := ivz_got hg
  refine b_xm31 hX _ (tX3_pack h9 (p_gd_0 (by omega)) (s_got_has hg (p_gd_126 h9 (by omega))) hg.2.2.2 fun υ hk hp => b_xm38 hX _ ?_)
  have hz2 : ivz τ υ := ivz_of fun k _ _ _ _ c10 _ _ _ => hk k c10
  have hzz := ivz_trans hz hz2
  obtain ⟨j1, j2, j3, j4, j5, j6, j7, j8, j9, j10, j11, j12, j13⟩ := iv_q hv hzz
  rw [j11, nI_clamp (by have := q_512 h9 k4; omega)]
  have vH : vp_in (nI (c_here σ 0)) 512 := q_in (q_512 h9 k4) (by decide)
  refine ⟨j9, vH, _, rfl, am_le rfl, fun Y hY => b_ym0 hY _ ⟨fun q => absurd q c1, fun _ => ⟨fun q => absurd q c2, fun _ => tX7_layMost j1 (by omega) (by omega) fun ω hk2 hp2 => b_ym21 hY _ ?_⟩⟩⟩
  have hz3 : ivz υ ω := ivz_of fun k _ _ _ _ _ _ _ c26 => hk2 k c26
  obtain ⟨i1, i2, i3, i4, i5, i6, i7, i8, i9, i10, i11, i12, i13⟩ := iv_q hv (ivz_trans hzz hz3)
  rw [i3, nI_clamp (by have := q_512 h9 k4; omega)]
  refine ⟨i1, vH, ?_, n, pl, iv_z (ivz_trans hzz hz3) hv⟩
  obtain ⟨v, m1, e1⟩ := hp (c_here σ 0) k4
  rw [j2, p_bt_cg j6] at hp2
  obtain ⟨w, m2, e2⟩ := hp2 (c_here σ 0) k4
  rw [e1, e2, mx_here m1 m2 (q_sub_refl _)]
/-- those seen, aboard or not -/
def sn_set (σ : am_M) (sw : Nat → Nat) (b : Int32) : Nat → Nat
  | 0 => 0
  | k + 1 => sn_set σ sw b k ||| if σ 13 0 k = b then 2 ^ sw k else 0
theorem sn_bit {σ : am_M} {sw : Nat → Nat} {b : Int32} {i : Nat} : ∀ {m : Nat}, (sn_set σ sw b m).testBit i = true ↔ ∃ k, k < m ∧ σ 13 0 k = b ∧ sw k = i
  | 0 => by
    refine ⟨fun q => ?_, fun ⟨k, hk, _⟩ => absurd hk (Nat.not_lt_zero k)⟩
    unfold sn_set at q
    rw [Nat.zero_testBit] at q
    exact absurd q (by decide)
  | m + 1 => by
    show (sn_set σ sw b m ||| if σ 13 0 m = b then 2 ^ sw m else 0).testBit i = true ↔ _
    rw [Nat.testBit_or, Bool.or_eq_true, sn_bit]
    constructor
    · rintro (⟨k, hk, q⟩ | q)
      · exact ⟨k, by omega, q⟩
      · by_cases c : σ 13 0 m = b
        · rw [if_pos c, Nat.testBit_two_pow] at q
          exact ⟨m, by omega, c, of_decide_eq_true q⟩
        · rw [if_neg c, Nat.zero_testBit] at q
          exact absurd q (by decide)
    · rintro ⟨k, hk, q1, q2⟩
      by_cases c : k = m
      · subst c
        right
        rw [if_pos q1, Nat.testBit_two_pow, q2]
        simp
      · exact Or.inl ⟨k, by omega, q1, q2⟩
theorem sn_lt {σ : am_M} {sw : Nat → Nat} {b : Int32} {n : Nat} {m : Nat} (h : ∀ k, k < m → sw k < n) : sn_set σ sw b m < 2 ^ n := q_lt_of fun i hi => by
  cases c : (sn_set σ sw b m).testBit i
  · rfl
  · obtain ⟨k, hk, -, e⟩ := sn_bit.1 c
    have := h k hk
    omega
theorem tX2_those {σ : am_M} {m : Nat} {sw : Nat → Nat} {b : Int32} {K : am_K} (h6 : m ≤ 6) (hm : σ 11 0 2 = nI m) (hs : ∀ k, k < m → σ 12 0 k = nI (sw k) ∧ sw k < 9) (h : K (some (.inl (nI (sn_set σ sw b m)))) σ) : sX2_those [am_r 11 0, .inl b] σ K := by
  refine ⟨am_le rfl, fun X hX => b_se0 hX _ ?_⟩
  have loop := q_dn (W := fun i => X 4 [some (am_r 11 0), some (.inl b), some (.inl (nI (sn_set σ sw b i))), some (.inl (nI i))] [] σ) (n := m) (fun i hi IH => ?_) ?_ 0 (Nat.zero_le _)
  · exact loop
  · refine b_se4 hX _ _ _ ?_
    obtain ⟨s1, s2⟩ := hs i hi
    rw [hm, nI_leI (by omega) (by omega), nI_clamp (by omega), s1, q_one _ (by omega), q_or, show nI i + (1 : Int32) = nI (i + 1) from nI_add i 1]
    have vi : vp_in (nI i) 6 := q_in (by omega) (by decide)
    refine ⟨fun q => absurd q (by omega), fun _ => ⟨vi, fun c => ⟨vi, ?_⟩, fun c => ?_⟩⟩
    · have e : sn_set σ sw b (i + 1) = sn_set σ sw b i ||| 2 ^ sw i := by
        show sn_set σ sw b i ||| (if σ 13 0 i = b then 2 ^ sw i else 0) = _
        rw [if_pos c]
      rw [← e]
      exact IH
    · have e : sn_set σ sw b (i + 1) = sn_set σ sw b i := by
        show sn_set σ sw b i ||| (if σ 13 0 i = b then 2 ^ sw i else 0) = _
        rw [if_neg c, Nat.or_zero]
      rw [q_or0, ← e]
      exact IH
  · refine b_se4 hX _ _ _ ⟨fun _ => h, fun q => absurd (by rw [hm]; exact nI_le (Nat.le_refl _) (by omega)) q⟩
theorem l_fits {σ τ : am_M} {n pl m : Nat} {sw : Nat → Nat} (hv : iv σ n pl) (hz : ivz σ τ) (h27 : τ 27 = σ 27) (hs : ∀ k, k < m → sw k < n ∧ σ 13 0 k = σ 27 0 (2 * k + 1) ∧ (σ 13 0 k = 0 ∨ σ 13 0 k = 1)) : q_ls (m_fit τ m sw) (2 ^ n) = q_ls (p_gd (c_r σ 0) n pl (q_df (2 ^ n - 1) (sn_set σ sw 0 m)) (sn_set σ sw 1 m)) (2 ^ n) := by
  obtain ⟨k1, k2, k3, k4, k5, k6, k7, k8, k9, k10, k11, k12, k13⟩ := iv_q hv hz
  have h5 := hv.2.2.1.2.2.2.2.1.2
  refine q_ls_cg fun S hS => ?_
  have hq := q_pop_le S 9
  unfold m_fit m_boat p_gd
  rw [k2, k6, k7, decide_eq_decide.mpr (nI_eq (by omega) (by omega)), h27]
  have key : ((List.range m).all fun k => decide ((if S.testBit (sw k) then (1 : Int32) else 0) = σ 27 0 (2 * k + 1))) = (decide (q_df S (q_df (2 ^ n - 1) (sn_set σ sw 0 m)) = 0) && decide (q_df (sn_set σ sw 1 m) S = 0)) := by
    rw [Bool.eq_iff_iff, List.all_eq_true, Bool.and_eq_true, decide_eq_true_iff, decide_eq_true_iff, q_df_0, q_df_0]
    constructor
    · intro g
      refine ⟨fun i hi => ?_, fun i hi => ?_⟩
      · rw [q_df_bit, Nat.testBit_two_pow_sub_one]
        have hin : i < n := by
          rcases Nat.lt_or_ge i n with q | q
          · exact q
          · rw [q_hi hS q] at hi
            exact absurd hi (by decide)
        rw [decide_eq_true hin]
        cases c : (sn_set σ sw 0 m).testBit i
        · rfl
        · obtain ⟨k, hk, q1, q2⟩ := sn_bit.1 c
          have := of_decide_eq_true (g k (List.mem_range.mpr hk))
          rw [← (hs k hk).2.1, q1, q2, hi] at this
          exact absurd this (by decide)
      · obtain ⟨k, hk, q1, q2⟩ := sn_bit.1 hi
        have := of_decide_eq_true (g k (List.mem_range.mpr hk))
        rw [← (hs k hk).2.1, q1, q2] at this
        exact q_ite1.1 this
    · rintro ⟨g1, g2⟩ k hk
      have hk := List.mem_range.mp hk
      obtain ⟨s1, s2, s3⟩ := hs k hk
      refine decide_eq_true ?_
      rw [← s2]
      rcases s3 with q | q
      · rw [q]
        cases c : S.testBit (sw k)
        · rfl
        · have := g1 (sw k) c
          rw [q_df_bit, sn_bit.2 ⟨k, hk, q, rfl⟩] at this
          simp at this
      · rw [q, g2 (sw k) (sn_bit.2 ⟨k, hk, q, rfl⟩)]
        rfl
  rw [key]
  cases decide (q_pop S 9 = pl) <;> cases p_un (c_r σ 0) n S <;> cases decide (q_df S (q_df (2 ^ n - 1) (sn_set σ sw 0 m)) = 0) <;> cases decide (q_df (sn_set σ sw 1 m) S = 0) <;> rfl
theorem pr_fits {σ : am_M} {a : Int32} (hI : Inv σ) : pairI sX6_fits sX7_fits [.inl a] σ := by
  obtain ⟨n, pl, hv⟩ := id hI
  obtain ⟨h9, a1, a2, a3, ⟨m, m6, s1, s2, s3⟩, -⟩ := id hv
  obtain ⟨b1, b2, b3, b4, b5, b6, b7, b8, b9, b10, b11⟩ := id a2
  obtain ⟨k1, k2, k3, k4, k5, k6, k7, k8, k9, k10, k11, k12, k13⟩ := iv_q hv ivz_refl
  have sw : ∃ sw : Nat → Nat, ∀ k, k < m → sw k < n ∧ σ 12 0 k = nI (sw k) ∧ σ 27 0 (2 * k) = nI (sw k) := ⟨fun k => (σ 12 0 k).toNatClampNeg, fun k hk => by
    obtain ⟨⟨p, hp, e1, e2⟩, -⟩ := s3 k hk
    show (σ 12 0 k).toNatClampNeg < n ∧ σ 12 0 k = nI (σ 12 0 k).toNatClampNeg ∧ σ 27 0 (2 * k) = nI (σ 12 0 k).toNatClampNeg
    rw [e1, nI_clamp (by omega)]
    exact ⟨hp, rfl, e2⟩⟩
  obtain ⟨sw, hsw⟩ := sw
  have m27 : ∀ k, k < m → σ 27 0 (2 * k) = nI (sw k) ∧ sw k < 9 := fun k hk => ⟨(hsw k hk).2.2, by have := (hsw k hk).1; omega⟩
  refine ⟨am_le rfl, fun X hX => b_xi0 hX a ⟨fun c1 => ⟨_, rfl, tX7_fits k1 k7 b5.2 s2 m6 m27 (fun _ => ⟨rfl, hI⟩) (fun q => absurd (Or.inl c1) q)⟩, fun c1 => ⟨fun c2 => ⟨_, rfl, tX7_fits k1 k7 b5.2 s2 m6 m27 (fun _ => ⟨rfl, hI⟩) (fun q => absurd (Or.inr c2) q)⟩, fun c2 => ?_⟩⟩⟩
  have m12 : ∀ k, k < m → σ 12 0 k = nI (sw k) ∧ sw k < 9 := fun k hk => ⟨(hsw k hk).2.1, by have := (hsw k hk).1; omega⟩
  have h2 : 2 ^ n ≤ 512 := Nat.pow_le_pow_right (n := 2) (by decide) h9
  have h1 : 1 ≤ 2 ^ n := Nat.one_le_two_pow
  rw [b1, b3, q_one n (by omega), show nI (2 ^ n) - (1 : Int32) = nI (2 ^ n - 1) from pk_sub (b := 1) h1]
  refine tX2_those m6 s1 m12 (b_xi45 hX _ _ _ _ (tX2_those m6 s1 m12 (b_xi56 hX _ _ _ _ _ ?_)))
  rw [q_dfI]
  have l0 : q_df (2 ^ n - 1) (sn_set σ sw 0 m) < 512 := Nat.lt_of_le_of_lt (q_df_le _ _) (by omega)
  have l1 : sn_set σ sw 1 m < 512 := q_512 h9 (sn_lt fun k hk => (hsw k hk).1)
  refine tX3_gather k9 (by omega) l0 l1 fun τ hg => ?_
  rw [k10] at hg
  have hz := ivz_got hg
  obtain ⟨j1, j2, j3, j4, j5, j6, j7, j8, j9, j10, j11, j12, j13⟩ := iv_q hv hz
  have e27 : τ 27 = σ 27 := hg.1 27 (by decide) (by decide) (by decide)
  have e20 : τ 20 = σ 20 := hg.1 20 (by decide) (by decide) (by decide)
  refine b_xi59 hX _ _ (tX6_tellSets (s_got_has hg (p_gd_126 h9 (by omega))) (b_xi65 hX _ _ _ ⟨_, rfl, tX7_fits (m := m) (sw := sw) j1 j7 b5.2 (by rw [e20]; exact s2) m6 (by rw [e27]; exact m27) (fun q => (q.elim c1 c2).elim) (fun _ τ' hc => ⟨?_, n, pl, iv_z (ivz_col hc) (iv_z hz hv)⟩)⟩))
  rw [j2, l_fits hv hz e27 fun k hk => ⟨(hsw k hk).1, (s3 k hk).2⟩]
