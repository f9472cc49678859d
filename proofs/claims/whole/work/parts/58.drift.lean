/-! pairs: drift, sheet, lay -/
set_option maxRecDepth 100000 in
set_option maxHeartbeats 400000 in
theorem b_xd0 {K : Option am_V → am_M → Prop} {X : Nat → am_L → List am_V → am_M → Prop} (hX : am_cl eX6_drift lX6_drift (some .int) K X) {σ : am_M} (a b d : Int32) (h : ((b < (1 : Int32)) → K (some (.inl (-1 : Int32))) σ) ∧ (¬ (b < (1 : Int32)) → (((60 : Int32) < b) → K (some (.inl (-1 : Int32))) σ) ∧ (¬ ((60 : Int32) < b) → ((d < (0 : Int32)) → K (some (.inl (-1 : Int32))) σ) ∧ (¬ (d < (0 : Int32)) → (((1 : Int32) < d) → K (some (.inl (-1 : Int32))) σ) ∧ (¬ ((1 : Int32) < d) → (((σ 3 0 1) = (0 : Int32)) → K (some (.inl (-2 : Int32))) σ) ∧ (¬ ((σ 3 0 1) = (0 : Int32)) → sX0_copyFrom [.inr (.inr (3, 1)), .inr (.inr (3, 0))] σ (fun vv tt => X 45 [some (.inr (.inr (0, 0))), some (.inl a), some (.inl b), some (.inl d), none, none] (vv.toList ++ []) tt))))))) : X 0 [some (.inr (.inr (0, 0))), some (.inl a), some (.inl b), some (.inl d), none, none] [] σ := am_run_ok emX6_drift hX [45] 400 (show 3 ≤ 3 ∧ 0 ≤ 8 ∧ sX6_isWithin [.inl b, .inl (1 : Int32), .inl (60 : Int32)] σ (fun vv tt => am_run eX6_drift lX6_drift (some .int) K X [45] 396 7 [some (.inr (.inr (0, 0))), some (.inl a), some (.inl b), some (.inl d), none, none] (vv.toList ++ []) tt) from ⟨am_le rfl, am_le rfl, tX6_isWithin (⟨fun q0 => (show (((0 : Int32) = (0 : Int32)) → K (some (.inl (-1 : Int32))) σ) ∧ (¬ ((0 : Int32) = (0 : Int32)) → _) from ⟨fun _ => (h.1 q0), fun q => absurd (by decide) q⟩), fun q0 => ⟨fun q1 => (show (((0 : Int32) = (0 : Int32)) → K (some (.inl (-1 : Int32))) σ) ∧ (¬ ((0 : Int32) = (0 : Int32)) → _) from ⟨fun _ => ((h.2 q0).1 q1), fun q => absurd (by decide) q⟩), fun q1 => (show (((1 : Int32) = (0 : Int32)) → _) ∧ (¬ ((1 : Int32) = (0 : Int32)) → 3 ≤ 3 ∧ 0 ≤ 8 ∧ sX6_isWithin [.inl d, .inl (0 : Int32), .inl (1 : Int32)] σ (fun vv tt => am_run eX6_drift lX6_drift (some .int) K X [45] 391 16 [some (.inr (.inr (0, 0))), some (.inl a), some (.inl b), some (.inl d), none, none] (vv.toList ++ []) tt)) from ⟨fun q => absurd q (by decide), fun _ => ⟨am_le rfl, am_le rfl, tX6_isWithin (⟨fun q2 => (show (((0 : Int32) = (0 : Int32)) → K (some (.inl (-1 : Int32))) σ) ∧ (¬ ((0 : Int32) = (0 : Int32)) → _) from ⟨fun _ => (((h.2 q0).2 q1).1 q2), fun q => absurd (by decide) q⟩), fun q2 => ⟨fun q3 => (show (((0 : Int32) = (0 : Int32)) → K (some (.inl (-1 : Int32))) σ) ∧ (¬ ((0 : Int32) = (0 : Int32)) → _) from ⟨fun _ => ((((h.2 q0).2 q1).2 q2).1 q3), fun q => absurd (by decide) q⟩), fun q3 => (show (((1 : Int32) = (0 : Int32)) → _) ∧ (¬ ((1 : Int32) = (0 : Int32)) → (((σ 3 0 1) = (0 : Int32)) → K (some (.inl (-2 : Int32))) σ) ∧ (¬ ((σ 3 0 1) = (0 : Int32)) → 2 ≤ 2 ∧ 0 ≤ 8 ∧ True ∧ sX0_copyFrom [.inr (.inr (3, 1)), .inr (.inr (3, 0))] σ (fun vv tt => X 45 [some (.inr (.inr (0, 0))), some (.inl a), some (.inl b), some (.inl d), none, none] (vv.toList ++ []) tt))) from ⟨fun q => absurd q (by decide), fun _ => ⟨fun q4 => (((((h.2 q0).2 q1).2 q2).2 q3).1 q4), fun q4 => ⟨am_le rfl, am_le rfl, trivial, (((((h.2 q0).2 q1).2 q2).2 q3).2 q4)⟩⟩⟩)⟩⟩)⟩⟩)⟩⟩)⟩)
set_option maxRecDepth 100000 in
set_option maxHeartbeats 400000 in
theorem b_xd45 {K : Option am_V → am_M → Prop} {X : Nat → am_L → List am_V → am_M → Prop} (hX : am_cl eX6_drift lX6_drift (some .int) K X) {σ : am_M} (a b d : Int32) (h : X 51 [some (.inr (.inr (0, 0))), some (.inl a), some (.inl b), some (.inl d), some (.inl a), some (.inl (0 : Int32))] [] σ) : X 45 [some (.inr (.inr (0, 0))), some (.inl a), some (.inl b), some (.inl d), none, none] [] σ := am_run_ok emX6_drift hX [51] 400 (show X 51 [some (.inr (.inr (0, 0))), some (.inl a), some (.inl b), some (.inl d), some (.inl a), some (.inl (0 : Int32))] [] σ from h)
set_option maxRecDepth 100000 in
set_option maxHeartbeats 400000 in
theorem b_xd51 {K : Option am_V → am_M → Prop} {X : Nat → am_L → List am_V → am_M → Prop} (hX : am_cl eX6_drift lX6_drift (some .int) K X) {σ : am_M} (a b d x t : Int32) (h : ((b ≤ t) → X 99 [some (.inr (.inr (0, 0))), some (.inl a), some (.inl b), some (.inl d), some (.inl x), some (.inl t)] [] σ) ∧ (¬ (b ≤ t) → (¬ (σ 3 0 1) = 0) ∧ (sX0_takeAboard [.inr (.inr (3, 1)), .inl ((((((x * (1103515245 : Int32)) + (12345 : Int32))).toUInt32 >>> (((16 : Int32)).toUInt32 &&& Int32.toUInt32 31)).toInt32 &&& (32767 : Int32)) - (((((x * (1103515245 : Int32)) + (12345 : Int32))).toUInt32 >>> (((16 : Int32)).toUInt32 &&& Int32.toUInt32 31)).toInt32 &&& (32767 : Int32)) / (σ 3 0 1) * (σ 3 0 1))] σ (fun vv tt => X 92 [some (.inr (.inr (0, 0))), some (.inl a), some (.inl b), some (.inl d), some (.inl ((x * (1103515245 : Int32)) + (12345 : Int32))), some (.inl t)] (vv.toList ++ []) tt)))) : X 51 [some (.inr (.inr (0, 0))), some (.inl a), some (.inl b), some (.inl d), some (.inl x), some (.inl t)] [] σ := am_run_ok emX6_drift hX [92, 99] 400 (show ((b ≤ t) → X 99 [some (.inr (.inr (0, 0))), some (.inl a), some (.inl b), some (.inl d), some (.inl x), some (.inl t)] [] σ) ∧ (¬ (b ≤ t) → (¬ (σ 3 0 1) = 0) ∧ (2 ≤ 2 ∧ 0 ≤ 8 ∧ True ∧ sX0_takeAboard [.inr (.inr (3, 1)), .inl ((((((x * (1103515245 : Int32)) + (12345 : Int32))).toUInt32 >>> (((16 : Int32)).toUInt32 &&& Int32.toUInt32 31)).toInt32 &&& (32767 : Int32)) - (((((x * (1103515245 : Int32)) + (12345 : Int32))).toUInt32 >>> (((16 : Int32)).toUInt32 &&& Int32.toUInt32 31)).toInt32 &&& (32767 : Int32)) / (σ 3 0 1) * (σ 3 0 1))] σ (fun vv tt => X 92 [some (.inr (.inr (0, 0))), some (.inl a), some (.inl b), some (.inl d), some (.inl ((x * (1103515245 : Int32)) + (12345 : Int32))), some (.inl t)] (vv.toList ++ []) tt))) from ⟨fun q0 => (h.1 q0), fun q0 => ⟨(h.2 q0).1, ⟨am_le rfl, am_le rfl, trivial, (h.2 q0).2⟩⟩⟩)
set_option maxRecDepth 100000 in
set_option maxHeartbeats 400000 in
theorem b_xd92 {K : Option am_V → am_M → Prop} {X : Nat → am_L → List am_V → am_M → Prop} (hX : am_cl eX6_drift lX6_drift (some .int) K X) {σ : am_M} (a b d x t v : Int32) (h : X 51 [some (.inr (.inr (0, 0))), some (.inl a), some (.inl b), some (.inl d), some (.inl x), some (.inl (t + (1 : Int32)))] [] σ) : X 92 [some (.inr (.inr (0, 0))), some (.inl a), some (.inl b), some (.inl d), some (.inl x), some (.inl t)] [.inl v] σ := am_run_ok emX6_drift hX [51] 400 (show X 51 [some (.inr (.inr (0, 0))), some (.inl a), some (.inl b), some (.inl d), some (.inl x), some (.inl (t + (1 : Int32)))] [] σ from h)
set_option maxRecDepth 100000 in
set_option maxHeartbeats 400000 in
theorem b_xd99 {K : Option am_V → am_M → Prop} {X : Nat → am_L → List am_V → am_M → Prop} (hX : am_cl eX6_drift lX6_drift (some .int) K X) {σ : am_M} (a b d x t : Int32) (h : ((d = (0 : Int32)) → K (some (.inl ((σ 3 1 6) - (σ 3 0 6)))) σ) ∧ (¬ (d = (0 : Int32)) → (c_ok σ 1) ∧ (K (some (.inl (nI (c_who σ 1 (2 : Int32))))) σ))) : X 99 [some (.inr (.inr (0, 0))), some (.inl a), some (.inl b), some (.inl d), some (.inl x), some (.inl t)] [] σ := am_run_ok emX6_drift hX [] 400 (show ((d = (0 : Int32)) → K (some (.inl ((σ 3 1 6) - (σ 3 0 6)))) σ) ∧ (¬ (d = (0 : Int32)) → 2 ≤ 2 ∧ 0 ≤ 8 ∧ True ∧ sX0_those [.inr (.inr (3, 1)), .inl (2 : Int32)] σ (fun vv tt => am_run eX6_drift lX6_drift (some .int) K X [] 394 129 [some (.inr (.inr (0, 0))), some (.inl a), some (.inl b), some (.inl d), some (.inl x), some (.inl t)] (vv.toList ++ []) tt)) from ⟨fun q0 => (h.1 q0), fun q0 => ⟨am_le rfl, am_le rfl, trivial, tX0_those (⟨(h.2 q0).1, (show K (some (.inl (nI (c_who σ 1 (2 : Int32))))) σ from (h.2 q0).2)⟩)⟩⟩)
set_option maxRecDepth 100000 in
set_option maxHeartbeats 400000 in
theorem b_ye0 {K : Option am_V → am_M → Prop} {X : Nat → am_L → List am_V → am_M → Prop} (hX : am_cl eX7_drift lX7_drift (some .int) K X) {σ : am_M} (a b d : Int32) (h : ((b < (1 : Int32)) → K (some (.inl (-1 : Int32))) σ) ∧ (¬ (b < (1 : Int32)) → (((60 : Int32) < b) → K (some (.inl (-1 : Int32))) σ) ∧ (¬ ((60 : Int32) < b) → ((d < (0 : Int32)) → K (some (.inl (-1 : Int32))) σ) ∧ (¬ (d < (0 : Int32)) → (((1 : Int32) < d) → K (some (.inl (-1 : Int32))) σ) ∧ (¬ ((1 : Int32) < d) → (((σ 20 0 1) = (0 : Int32)) → K (some (.inl (-2 : Int32))) σ) ∧ (¬ ((σ 20 0 1) = (0 : Int32)) → sX7_copies [.inr (.inr (20, 0)), .inl (0 : Int32), .inl (272 : Int32)] σ (fun vv tt => X 42 [some (.inr (.inr (20, 0))), some (.inl a), some (.inl b), some (.inl d), none, none] (vv.toList ++ []) tt))))))) : X 0 [some (.inr (.inr (20, 0))), some (.inl a), some (.inl b), some (.inl d), none, none] [] σ := am_run_ok emX7_drift hX [42] 400 (show 3 ≤ 3 ∧ 0 ≤ 8 ∧ sX7_in [.inr (.inl (b).toInt64), .inr (.inl (1 : Int64)), .inr (.inl (60 : Int64))] σ (fun vv tt => am_run eX7_drift lX7_drift (some .int) K X [42] 395 9 [some (.inr (.inr (20, 0))), some (.inl a), some (.inl b), some (.inl d), none, none] (vv.toList ++ []) tt) from ⟨am_le rfl, am_le rfl, uX7_in (v := b) (a := (1 : Int32)) (b := (60 : Int32)) (⟨fun q0 => (show (((0 : Int32) = (0 : Int32)) → K (some (.inl (-1 : Int32))) σ) ∧ (¬ ((0 : Int32) = (0 : Int32)) → _) from ⟨fun _ => (h.1 q0), fun q => absurd (by decide) q⟩), fun q0 => ⟨fun q1 => (show (((0 : Int32) = (0 : Int32)) → K (some (.inl (-1 : Int32))) σ) ∧ (¬ ((0 : Int32) = (0 : Int32)) → _) from ⟨fun _ => ((h.2 q0).1 q1), fun q => absurd (by decide) q⟩), fun q1 => (show (((1 : Int32) = (0 : Int32)) → _) ∧ (¬ ((1 : Int32) = (0 : Int32)) → 3 ≤ 3 ∧ 0 ≤ 8 ∧ sX7_in [.inr (.inl (d).toInt64), .inr (.inl (0 : Int64)), .inr (.inl (1 : Int64))] σ (fun vv tt => am_run eX7_drift lX7_drift (some .int) K X [42] 389 19 [some (.inr (.inr (20, 0))), some (.inl a), some (.inl b), some (.inl d), none, none] (vv.toList ++ []) tt)) from ⟨fun q => absurd q (by decide), fun _ => ⟨am_le rfl, am_le rfl, uX7_in (v := d) (a := (0 : Int32)) (b := (1 : Int32)) (⟨fun q2 => (show (((0 : Int32) = (0 : Int32)) → K (some (.inl (-1 : Int32))) σ) ∧ (¬ ((0 : Int32) = (0 : Int32)) → _) from ⟨fun _ => (((h.2 q0).2 q1).1 q2), fun q => absurd (by decide) q⟩), fun q2 => ⟨fun q3 => (show (((0 : Int32) = (0 : Int32)) → K (some (.inl (-1 : Int32))) σ) ∧ (¬ ((0 : Int32) = (0 : Int32)) → _) from ⟨fun _ => ((((h.2 q0).2 q1).2 q2).1 q3), fun q => absurd (by decide) q⟩), fun q3 => (show (((1 : Int32) = (0 : Int32)) → _) ∧ (¬ ((1 : Int32) = (0 : Int32)) → (((σ 20 0 1) = (0 : Int32)) → K (some (.inl (-2 : Int32))) σ) ∧ (¬ ((σ 20 0 1) = (0 : Int32)) → 3 ≤ 3 ∧ 0 ≤ 8 ∧ True ∧ sX7_copies [.inr (.inr (20, 0)), .inl (0 : Int32), .inl (272 : Int32)] σ (fun vv tt => X 42 [some (.inr (.inr (20, 0))), some (.inl a), some (.inl b), some (.inl d), none, none] (vv.toList ++ []) tt))) from ⟨fun q => absurd q (by decide), fun _ => ⟨fun q4 => (((((h.2 q0).2 q1).2 q2).2 q3).1 q4), fun q4 => ⟨am_le rfl, am_le rfl, trivial, (((((h.2 q0).2 q1).2 q2).2 q3).2 q4)⟩⟩⟩)⟩⟩)⟩⟩)⟩⟩)⟩)
set_option maxRecDepth 100000 in
set_option maxHeartbeats 400000 in
theorem b_ye42 {K : Option am_V → am_M → Prop} {X : Nat → am_L → List am_V → am_M → Prop} (hX : am_cl eX7_drift lX7_drift (some .int) K X) {σ : am_M} (a b d : Int32) (h : X 48 [some (.inr (.inr (20, 0))), some (.inl a), some (.inl b), some (.inl d), some (.inl a), some (.inl (0 : Int32))] [] σ) : X 42 [some (.inr (.inr (20, 0))), some (.inl a), some (.inl b), some (.inl d), none, none] [] σ := am_run_ok emX7_drift hX [48] 400 (show X 48 [some (.inr (.inr (20, 0))), some (.inl a), some (.inl b), some (.inl d), some (.inl a), some (.inl (0 : Int32))] [] σ from h)
set_option maxRecDepth 100000 in
set_option maxHeartbeats 400000 in
theorem b_ye48 {K : Option am_V → am_M → Prop} {X : Nat → am_L → List am_V → am_M → Prop} (hX : am_cl eX7_drift lX7_drift (some .int) K X) {σ : am_M} (a b d x t : Int32) (h : ((b ≤ t) → X 93 [some (.inr (.inr (20, 0))), some (.inl a), some (.inl b), some (.inl d), some (.inl x), some (.inl t)] [] σ) ∧ (¬ (b ≤ t) → (¬ (σ 20 0 1) = 0) ∧ (sX7_boards [.inr (.inr (20, 0)), .inl (272 : Int32), .inl (((((x * (1103515245 : Int32)) + (12345 : Int32)) >>> ((16 : Int32) &&& 31)) &&& (32767 : Int32)) - ((((x * (1103515245 : Int32)) + (12345 : Int32)) >>> ((16 : Int32) &&& 31)) &&& (32767 : Int32)) / (σ 20 0 1) * (σ 20 0 1))] σ (fun vv tt => X 86 [some (.inr (.inr (20, 0))), some (.inl a), some (.inl b), some (.inl d), some (.inl ((x * (1103515245 : Int32)) + (12345 : Int32))), some (.inl t)] (vv.toList ++ []) tt)))) : X 48 [some (.inr (.inr (20, 0))), some (.inl a), some (.inl b), some (.inl d), some (.inl x), some (.inl t)] [] σ := am_run_ok emX7_drift hX [86, 93] 400 (show ((b ≤ t) → X 93 [some (.inr (.inr (20, 0))), some (.inl a), some (.inl b), some (.inl d), some (.inl x), some (.inl t)] [] σ) ∧ (¬ (b ≤ t) → (¬ (σ 20 0 1) = 0) ∧ (3 ≤ 3 ∧ 0 ≤ 8 ∧ True ∧ sX7_boards [.inr (.inr (20, 0)), .inl (272 : Int32), .inl (((((x * (1103515245 : Int32)) + (12345 : Int32)) >>> ((16 : Int32) &&& 31)) &&& (32767 : Int32)) - ((((x * (1103515245 : Int32)) + (12345 : Int32)) >>> ((16 : Int32) &&& 31)) &&& (32767 : Int32)) / (σ 20 0 1) * (σ 20 0 1))] σ (fun vv tt => X 86 [some (.inr (.inr (20, 0))), some (.inl a), some (.inl b), some (.inl d), some (.inl ((x * (1103515245 : Int32)) + (12345 : Int32))), some (.inl t)] (vv.toList ++ []) tt))) from ⟨fun q0 => (h.1 q0), fun q0 => ⟨(h.2 q0).1, ⟨am_le rfl, am_le rfl, trivial, (h.2 q0).2⟩⟩⟩)
set_option maxRecDepth 100000 in
set_option maxHeartbeats 400000 in
theorem b_ye86 {K : Option am_V → am_M → Prop} {X : Nat → am_L → List am_V → am_M → Prop} (hX : am_cl eX7_drift lX7_drift (some .int) K X) {σ : am_M} (a b d x t v : Int32) (h : X 48 [some (.inr (.inr (20, 0))), some (.inl a), some (.inl b), some (.inl d), some (.inl x), some (.inl (t + (1 : Int32)))] [] σ) : X 86 [some (.inr (.inr (20, 0))), some (.inl a), some (.inl b), some (.inl d), some (.inl x), some (.inl t)] [.inl v] σ := am_run_ok emX7_drift hX [48] 400 (show X 48 [some (.inr (.inr (20, 0))), some (.inl a), some (.inl b), some (.inl d), some (.inl x), some (.inl (t + (1 : Int32)))] [] σ from h)
set_option maxRecDepth 100000 in
set_option maxHeartbeats 400000 in
theorem b_ye93 {K : Option am_V → am_M → Prop} {X : Nat → am_L → List am_V → am_M → Prop} (hX : am_cl eX7_drift lX7_drift (some .int) K X) {σ : am_M} (a b d x t : Int32) (h : ((d = (0 : Int32)) → K (some (.inl ((σ 21 0 339) - (σ 21 0 67)))) σ) ∧ (¬ (d = (0 : Int32)) → (m_ok σ) ∧ (K (some (.inl (nI (p_who (m_r σ 272) (m_n σ) (2 : Int32))))) σ))) : X 93 [some (.inr (.inr (20, 0))), some (.inl a), some (.inl b), some (.inl d), some (.inl x), some (.inl t)] [] σ := am_run_ok emX7_drift hX [] 400 (show ((d = (0 : Int32)) → (vp_in (339 : Int32) 340) ∧ ((vp_in (67 : Int32) 340) ∧ (K (some (.inl ((σ 21 0 339) - (σ 21 0 67)))) σ))) ∧ (¬ (d = (0 : Int32)) → 3 ≤ 3 ∧ 0 ≤ 8 ∧ True ∧ sX7_whoOn [.inr (.inr (20, 0)), .inl (272 : Int32), .inl (2 : Int32)] σ (fun vv tt => am_run eX7_drift lX7_drift (some .int) K X [] 394 124 [some (.inr (.inr (20, 0))), some (.inl a), some (.inl b), some (.inl d), some (.inl x), some (.inl t)] (vv.toList ++ []) tt)) from ⟨fun q0 => ⟨am_ci (by decide), ⟨am_ci (by decide), (h.1 q0)⟩⟩, fun q0 => ⟨am_le rfl, am_le rfl, trivial, wX7_whoOn (g := 272) (⟨(by decide), ⟨(h.2 q0).1, (show K (some (.inl (nI (p_who (m_r σ 272) (m_n σ) (2 : Int32))))) σ from (h.2 q0).2)⟩⟩)⟩⟩)
set_option maxRecDepth 100000 in
set_option maxHeartbeats 400000 in
theorem b_rn0 {K : Option am_V → am_M → Prop} {X : Nat → am_L → List am_V → am_M → Prop} (hX : am_cl eX4_renew lX4_renew none K X) {σ : am_M} (k : Nat) (a b : Int32) (h : X 2 [some (.inr (.inr (17, k))), some (.inl a), some (.inl b), some (.inl (0 : Int32))] [] σ) : X 0 [some (.inr (.inr (17, k))), some (.inl a), some (.inl b), none] [] σ := am_run_ok emX4_renew hX [2] 400 (show X 2 [some (.inr (.inr (17, k))), some (.inl a), some (.inl b), some (.inl (0 : Int32))] [] σ from h)
set_option maxRecDepth 100000 in
set_option maxHeartbeats 400000 in
theorem b_rn2 {K : Option am_V → am_M → Prop} {X : Nat → am_L → List am_V → am_M → Prop} (hX : am_cl eX4_renew lX4_renew none K X) {σ : am_M} (k : Nat) (a b t : Int32) (h : (((40 : Int32) ≤ t) → K none (am_u (am_u (am_u σ 17 k 1 (1 : Int32)) 17 k 2 a) 17 k 3 b)) ∧ (¬ ((40 : Int32) ≤ t) → (vp_in t 40) ∧ (X 2 [some (.inr (.inr (17, k))), some (.inl a), some (.inl b), some (.inl (t + (1 : Int32)))] [] (am_u σ 18 k t.toNatClampNeg (0 : Int32))))) : X 2 [some (.inr (.inr (17, k))), some (.inl a), some (.inl b), some (.inl t)] [] σ := am_run_ok emX4_renew hX [2] 400 (show (((40 : Int32) ≤ t) → (((1 : Int32) = 0 ∨ (1 : Int32) = 1)) ∧ (K none (am_u (am_u (am_u σ 17 k 1 (1 : Int32)) 17 k 2 a) 17 k 3 b))) ∧ (¬ ((40 : Int32) ≤ t) → (vp_in t 40) ∧ (X 2 [some (.inr (.inr (17, k))), some (.inl a), some (.inl b), some (.inl (t + (1 : Int32)))] [] (am_u σ 18 k t.toNatClampNeg (0 : Int32)))) from ⟨fun q0 => ⟨(by decide), (h.1 q0)⟩, fun q0 => ⟨(h.2 q0).1, (h.2 q0).2⟩⟩)
set_option maxRecDepth 100000 in
set_option maxHeartbeats 400000 in
theorem b_xs0 {K : Option am_V → am_M → Prop} {X : Nat → am_L → List am_V → am_M → Prop} (hX : am_cl eX6_sheet lX6_sheet (some .int) K X) {σ : am_M} (a b d : Int32) (h : ((a < (0 : Int32)) → K (some (.inl (-1 : Int32))) σ) ∧ (¬ (a < (0 : Int32)) → (((3 : Int32) < a) → K (some (.inl (-1 : Int32))) σ) ∧ (¬ ((3 : Int32) < a) → ((b < (0 : Int32)) → K (some (.inl (-1 : Int32))) σ) ∧ (¬ (b < (0 : Int32)) → (((2 : Int32) < b) → K (some (.inl (-1 : Int32))) σ) ∧ (¬ ((2 : Int32) < b) → ((d ≤ (40 : Int32)) → (((0 : Int32) ≤ d) → (vp_in a 4) ∧ (sX4_renew [.inr (.inr (17, a.toNatClampNeg)), .inl b, .inl d] σ (fun vv tt => X 40 [some (.inr (.inr (0, 0))), some (.inl a), some (.inl b), some (.inl d)] (vv.toList ++ []) tt))) ∧ (¬ ((0 : Int32) ≤ d) → K (some (.inl (-14 : Int32))) σ)) ∧ (¬ (d ≤ (40 : Int32)) → K (some (.inl (-1 : Int32))) σ)))))) : X 0 [some (.inr (.inr (0, 0))), some (.inl a), some (.inl b), some (.inl d)] [] σ := am_run_ok emX6_sheet hX [40] 400 (show 1 ≤ 1 ∧ 0 ≤ 8 ∧ sX6_isSheet [.inl a] σ (fun vv tt => am_run eX6_sheet lX6_sheet (some .int) K X [40] 398 4 [some (.inr (.inr (0, 0))), some (.inl a), some (.inl b), some (.inl d)] (vv.toList ++ []) tt) from ⟨am_le rfl, am_le rfl, tX6_isSheet (⟨fun q0 => (show (((0 : Int32) = (0 : Int32)) → K (some (.inl (-1 : Int32))) σ) ∧ (¬ ((0 : Int32) = (0 : Int32)) → _) from ⟨fun _ => (h.1 q0), fun q => absurd (by decide) q⟩), fun q0 => ⟨fun q1 => (show (((0 : Int32) = (0 : Int32)) → K (some (.inl (-1 : Int32))) σ) ∧ (¬ ((0 : Int32) = (0 : Int32)) → _) from ⟨fun _ => ((h.2 q0).1 q1), fun q => absurd (by decide) q⟩), fun q1 => (show (((1 : Int32) = (0 : Int32)) → _) ∧ (¬ ((1 : Int32) = (0 : Int32)) → 1 ≤ 1 ∧ 0 ≤ 8 ∧ sX6_isLane [.inl b] σ (fun vv tt => am_run eX6_sheet lX6_sheet (some .int) K X [40] 395 11 [some (.inr (.inr (0, 0))), some (.inl a), some (.inl b), some (.inl d)] (vv.toList ++ []) tt)) from ⟨fun q => absurd q (by decide), fun _ => ⟨am_le rfl, am_le rfl, tX6_isLane (⟨fun q2 => (show (((0 : Int32) = (0 : Int32)) → K (some (.inl (-1 : Int32))) σ) ∧ (¬ ((0 : Int32) = (0 : Int32)) → _) from ⟨fun _ => (((h.2 q0).2 q1).1 q2), fun q => absurd (by decide) q⟩), fun q2 => ⟨fun q3 => (show (((0 : Int32) = (0 : Int32)) → K (some (.inl (-1 : Int32))) σ) ∧ (¬ ((0 : Int32) = (0 : Int32)) → _) from ⟨fun _ => ((((h.2 q0).2 q1).2 q2).1 q3), fun q => absurd (by decide) q⟩), fun q3 => (show (((1 : Int32) = (0 : Int32)) → _) ∧ (¬ ((1 : Int32) = (0 : Int32)) → ((d ≤ (40 : Int32)) → (((0 : Int32) ≤ d) → (vp_in a 4) ∧ (3 ≤ 3 ∧ 0 ≤ 8 ∧ True ∧ sX4_renew [.inr (.inr (17, a.toNatClampNeg)), .inl b, .inl d] σ (fun vv tt => X 40 [some (.inr (.inr (0, 0))), some (.inl a), some (.inl b), some (.inl d)] (vv.toList ++ []) tt))) ∧ (¬ ((0 : Int32) ≤ d) → K (some (.inl (-14 : Int32))) σ)) ∧ (¬ (d ≤ (40 : Int32)) → K (some (.inl (-1 : Int32))) σ)) from ⟨fun q => absurd q (by decide), fun _ => ⟨fun q4 => ⟨fun q5 => ⟨((((((h.2 q0).2 q1).2 q2).2 q3).1 q4).1 q5).1, ⟨am_le rfl, am_le rfl, trivial, ((((((h.2 q0).2 q1).2 q2).2 q3).1 q4).1 q5).2⟩⟩, fun q5 => ((((((h.2 q0).2 q1).2 q2).2 q3).1 q4).2 q5)⟩, fun q4 => (((((h.2 q0).2 q1).2 q2).2 q3).2 q4)⟩⟩)⟩⟩)⟩⟩)⟩⟩)⟩)
set_option maxRecDepth 100000 in
set_option maxHeartbeats 400000 in
theorem b_xs40 {K : Option am_V → am_M → Prop} {X : Nat → am_L → List am_V → am_M → Prop} (hX : am_cl eX6_sheet lX6_sheet (some .int) K X) {σ : am_M} (a b d : Int32) (h : K (some (.inl (1 : Int32))) σ) : X 40 [some (.inr (.inr (0, 0))), some (.inl a), some (.inl b), some (.inl d)] [] σ := am_run_ok emX6_sheet hX [] 400 (show K (some (.inl (1 : Int32))) σ from h)
set_option maxRecDepth 100000 in
set_option maxHeartbeats 400000 in
theorem b_ys0 {K : Option am_V → am_M → Prop} {X : Nat → am_L → List am_V → am_M → Prop} (hX : am_cl eX7_sheet lX7_sheet (some .int) K X) {σ : am_M} (a b d : Int32) (h : ((a < (0 : Int32)) → K (some (.inl (-1 : Int32))) σ) ∧ (¬ (a < (0 : Int32)) → (((3 : Int32) < a) → K (some (.inl (-1 : Int32))) σ) ∧ (¬ ((3 : Int32) < a) → ((b < (0 : Int32)) → K (some (.inl (-1 : Int32))) σ) ∧ (¬ (b < (0 : Int32)) → (((2 : Int32) < b) → K (some (.inl (-1 : Int32))) σ) ∧ (¬ ((2 : Int32) < b) → ((d ≤ (40 : Int32)) → (((0 : Int32) ≤ d) → (vp_in a 4) ∧ ((vp_in a 4) ∧ (X 56 [some (.inr (.inr (20, 0))), some (.inl a), some (.inl b), some (.inl d), some (.inl (0 : Int32))] [] (am_u (am_u σ 29 0 a.toNatClampNeg b) 30 0 a.toNatClampNeg d)))) ∧ (¬ ((0 : Int32) ≤ d) → K (some (.inl (-14 : Int32))) σ)) ∧ (¬ (d ≤ (40 : Int32)) → K (some (.inl (-1 : Int32))) σ)))))) : X 0 [some (.inr (.inr (20, 0))), some (.inl a), some (.inl b), some (.inl d), none] [] σ := am_run_ok emX7_sheet hX [56] 400 (show 3 ≤ 3 ∧ 0 ≤ 8 ∧ sX7_in [.inr (.inl (a).toInt64), .inr (.inl (0 : Int64)), .inr (.inl (3 : Int64))] σ (fun vv tt => am_run eX7_sheet lX7_sheet (some .int) K X [56] 395 9 [some (.inr (.inr (20, 0))), some (.inl a), some (.inl b), some (.inl d), none] (vv.toList ++ []) tt) from ⟨am_le rfl, am_le rfl, uX7_in (v := a) (a := (0 : Int32)) (b := (3 : Int32)) (⟨fun q0 => (show (((0 : Int32) = (0 : Int32)) → K (some (.inl (-1 : Int32))) σ) ∧ (¬ ((0 : Int32) = (0 : Int32)) → _) from ⟨fun _ => (h.1 q0), fun q => absurd (by decide) q⟩), fun q0 => ⟨fun q1 => (show (((0 : Int32) = (0 : Int32)) → K (some (.inl (-1 : Int32))) σ) ∧ (¬ ((0 : Int32) = (0 : Int32)) → _) from ⟨fun _ => ((h.2 q0).1 q1), fun q => absurd (by decide) q⟩), fun q1 => (show (((1 : Int32) = (0 : Int32)) → _) ∧ (¬ ((1 : Int32) = (0 : Int32)) → 3 ≤ 3 ∧ 0 ≤ 8 ∧ sX7_in [.inr (.inl (b).toInt64), .inr (.inl (0 : Int64)), .inr (.inl (2 : Int64))] σ (fun vv tt => am_run eX7_sheet lX7_sheet (some .int) K X [56] 389 21 [some (.inr (.inr (20, 0))), some (.inl a), some (.inl b), some (.inl d), none] (vv.toList ++ []) tt)) from ⟨fun q => absurd q (by decide), fun _ => ⟨am_le rfl, am_le rfl, uX7_in (v := b) (a := (0 : Int32)) (b := (2 : Int32)) (⟨fun q2 => (show (((0 : Int32) = (0 : Int32)) → K (some (.inl (-1 : Int32))) σ) ∧ (¬ ((0 : Int32) = (0 : Int32)) → _) from ⟨fun _ => (((h.2 q0).2 q1).1 q2), fun q => absurd (by decide) q⟩), fun q2 => ⟨fun q3 => (show (((0 : Int32) = (0 : Int32)) → K (some (.inl (-1 : Int32))) σ) ∧ (¬ ((0 : Int32) = (0 : Int32)) → _) from ⟨fun _ => ((((h.2 q0).2 q1).2 q2).1 q3), fun q => absurd (by decide) q⟩), fun q3 => (show (((1 : Int32) = (0 : Int32)) → _) ∧ (¬ ((1 : Int32) = (0 : Int32)) → ((d ≤ (40 : Int32)) → (((0 : Int32) ≤ d) → (vp_in a 4) ∧ ((vp_in a 4) ∧ (X 56 [some (.inr (.inr (20, 0))), some (.inl a), some (.inl b), some (.inl d), some (.inl (0 : Int32))] [] (am_u (am_u σ 29 0 a.toNatClampNeg b) 30 0 a.toNatClampNeg d)))) ∧ (¬ ((0 : Int32) ≤ d) → K (some (.inl (-14 : Int32))) σ)) ∧ (¬ (d ≤ (40 : Int32)) → K (some (.inl (-1 : Int32))) σ)) from ⟨fun q => absurd q (by decide), fun _ => ⟨fun q4 => ⟨fun q5 => ⟨((((((h.2 q0).2 q1).2 q2).2 q3).1 q4).1 q5).1, ⟨((((((h.2 q0).2 q1).2 q2).2 q3).1 q4).1 q5).2.1, ((((((h.2 q0).2 q1).2 q2).2 q3).1 q4).1 q5).2.2⟩⟩, fun q5 => ((((((h.2 q0).2 q1).2 q2).2 q3).1 q4).2 q5)⟩, fun q4 => (((((h.2 q0).2 q1).2 q2).2 q3).2 q4)⟩⟩)⟩⟩)⟩⟩)⟩⟩)⟩)
set_option maxRecDepth 100000 in
set_option maxHeartbeats 400000 in
theorem b_ys56 {K : Option am_V → am_M → Prop} {X : Nat → am_L → List am_V → am_M → Prop} (hX : am_cl eX7_sheet lX7_sheet (some .int) K X) {σ : am_M} (a b d t : Int32) (h : (((40 : Int32) ≤ t) → K (some (.inl (1 : Int32))) σ) ∧ (¬ ((40 : Int32) ≤ t) → (vp_in (((40 : Int32) * a) + t) 160) ∧ (X 56 [some (.inr (.inr (20, 0))), some (.inl a), some (.inl b), some (.inl d), some (.inl (t + (1 : Int32)))] [] (am_u σ 31 0 (((40 : Int32) * a) + t).toNatClampNeg (0 : Int32))))) : X 56 [some (.inr (.inr (20, 0))), some (.inl a), some (.inl b), some (.inl d), some (.inl t)] [] σ := am_run_ok emX7_sheet hX [56] 400 (show (((40 : Int32) ≤ t) → K (some (.inl (1 : Int32))) σ) ∧ (¬ ((40 : Int32) ≤ t) → (vp_in (((40 : Int32) * a) + t) 160) ∧ (X 56 [some (.inr (.inr (20, 0))), some (.inl a), some (.inl b), some (.inl d), some (.inl (t + (1 : Int32)))] [] (am_u σ 31 0 (((40 : Int32) * a) + t).toNatClampNeg (0 : Int32)))) from ⟨fun q0 => (h.1 q0), fun q0 => ⟨(h.2 q0).1, (h.2 q0).2⟩⟩)
/-- the bits that are drawn -/
theorem q_1516 (x : Int32) : (x.toUInt32 >>> ((16 : Int32).toUInt32 &&& Int32.toUInt32 31)).toInt32 &&& (32767 : Int32) = (x >>> ((16 : Int32) &&& 31)) &&& (32767 : Int32) := by
  apply Int32.toBitVec_inj.1
  rw [Int32.toBitVec_and, Int32.toBitVec_and]
  have e1 : ((x.toUInt32 >>> ((16 : Int32).toUInt32 &&& Int32.toUInt32 31)).toInt32).toBitVec = x.toBitVec >>> 16 := rfl
  have e2 : (x >>> ((16 : Int32) &&& 31)).toBitVec = x.toBitVec.sshiftRight 16 := rfl
  have e3 : (32767 : Int32).toBitVec = 32767#32 := rfl
  have e4 : ∀ i, i < 32 → (32767#32).getLsbD i = decide (i < 15) := by decide
  rw [e1, e2, e3]
  apply BitVec.eq_of_getLsbD_eq
  intro i hi
  rw [BitVec.getLsbD_and, BitVec.getLsbD_and, e4 i hi]
  by_cases c : i < 15
  · rw [BitVec.getLsbD_ushiftRight, BitVec.getLsbD_sshiftRight]
    simp [show ¬ 32 ≤ i by omega, show 16 + i < 32 by omega]
  · simp [c]
def d_nx (x : Int32) : Int32 := x * (1103515245 : Int32) + (12345 : Int32)
def d_ix (n : Nat) (x : Int32) : Nat := ((x >>> ((16 : Int32) &&& 31)) &&& (32767 : Int32)).toNatClampNeg % n
theorem d_ix_m {n : Nat} {x : Int32} (h0 : 0 < n) (h9 : n ≤ 9) : ((x >>> ((16 : Int32) &&& 31)) &&& (32767 : Int32)) - ((x >>> ((16 : Int32) &&& 31)) &&& (32767 : Int32)) / nI n * nI n = nI (d_ix n x) := by
  obtain ⟨j, hj, e⟩ := pk_andE (x >>> ((16 : Int32) &&& 31)) (m := (32767 : Int32)) 15 (by decide)
  unfold d_ix
  have hj' : j < 32768 := hj
  rw [e, nI_clamp (by omega), pk_rem (by omega) h0 (by omega)]
def d_sx (s : Int32) : Nat → Int32
  | 0 => s
  | t + 1 => d_nx (d_sx s t)
def d_dr (n pl : Nat) (r : Rw) (bt s : Int32) : Nat → Rw × Int32
  | 0 => (r, bt)
  | t + 1 => p_brd n pl (d_dr n pl r bt s t).1 (d_dr n pl r bt s t).2 (d_ix n (d_sx s (t + 1)))
theorem d_ix_lt {n : Nat} {x : Int32} (h : 0 < n) : d_ix n x < n := Nat.mod_lt _ h
theorem d_dr_inv {n pl : Nat} {r : Rw} {bt s : Int32} (h0 : 0 < n) (h9 : n ≤ 9) (h : p_inv r n pl) : ∀ t, p_inv (d_dr n pl r bt s t).1 n pl
  | 0 => h
  | t + 1 => p_inv_brd h9 (d_ix_lt h0) (d_dr_inv h0 h9 h t)
theorem d_dr_at {n pl : Nat} {r : Rw} {bt s : Int32} {q j : Nat} (h : j ≠ 6) : ∀ t, (d_dr n pl r bt s t).1 q j = r q j
  | 0 => rfl
  | t + 1 => (p_brd_at h).trans (d_dr_at h t)
def d_ans (n pl : Nat) (r : Rw) (bt s d : Int32) (m : Nat) : Int32 := if d = 0 then (d_dr n pl r bt s m).2 - bt else nI (p_who (d_dr n pl r bt s m).1 n 2)
theorem tX6_drift {σ : am_M} {n pl m : Nat} {s d : Int32} {X : Nat → am_L → List am_V → am_M → Prop} {K : am_K} (hX : am_cl eX6_drift lX6_drift (some .int) K X) (hv : iv σ n pl) (h0 : 0 < n) (hm : m ≤ 60) (h : ∀ τ, ivz σ τ → τ 20 = σ 20 → τ 21 = σ 21 → K (some (.inl (d_ans n pl (c_r (c_cp σ 1 0 n) 1) (σ 3 0 6) s d m))) τ) : X 45 [some (am_r 0 0), some (.inl s), some (.inl (nI m)), some (.inl d), none, none] [] (c_cp σ 1 0 n) := by
  obtain ⟨h9, a1, a2, -⟩ := id hv
  obtain ⟨b1, b2, b3, b4, b5, b6, b7, b8, b9, b10, b11⟩ := id a2
  obtain ⟨t1, t2, t3, t4, t5, t6, t7⟩ := iv_tri hv
  obtain ⟨cn1, ck1⟩ := c_n_of t1 h9
  refine b_xd45 hX _ _ _ ?_
  have e0 : c_cp σ 1 0 n = c_set (c_cp σ 1 0 n) 1 n (d_dr n pl (c_r (c_cp σ 1 0 n) 1) (σ 3 0 6) s 0).1 (σ 3 0 5) (d_dr n pl (c_r (c_cp σ 1 0 n) 1) (σ 3 0 6) s 0).2 := by
    show _ = c_set (c_cp σ 1 0 n) 1 n (c_r (c_cp σ 1 0 n) 1) (σ 3 0 5) (σ 3 0 6)
    rw [← t3, ← t4]
    exact c_set_id.symm
  generalize hr1 : c_r (c_cp σ 1 0 n) 1 = r at t5 t6 t7 e0 h ⊢
  have nn : ∀ r' hr' bt', c_set (c_cp σ 1 0 n) 1 n r' hr' bt' 3 0 = σ 3 0 := fun r' hr' bt' => by rw [c_set_o (by decide), c_cp_o (by decide)]
  have loop := q_dn (W := fun i => X 51 [some (am_r 0 0), some (.inl s), some (.inl (nI m)), some (.inl d), some (.inl (d_sx s i)), some (.inl (nI i))] [] (c_set (c_cp σ 1 0 n) 1 n (d_dr n pl r (σ 3 0 6) s i).1 (σ 3 0 5) (d_dr n pl r (σ 3 0 6) s i).2)) (n := m) (fun i hi IH => ?_) ?_ 0 (Nat.zero_le _)
  · rw [e0]
    exact loop
  · refine b_xd51 hX _ _ _ _ _ ?_
    rw [nI_leI (by omega) (by omega), nn, b1]
    refine ⟨fun q => absurd q (by omega), fun _ => ⟨nI_ne0 h0 (by omega), ?_⟩⟩
    rw [q_1516]
    rw [show (d_sx s i * (1103515245 : Int32) + (12345 : Int32)) = d_sx s (i + 1) from rfl, d_ix_m h0 h9]
    have ps := tX0_takeAboard (σ := c_cp σ 1 0 n) (c := 1) (pl := pl) (i := d_ix n (d_sx s (i + 1))) (r := (d_dr n pl r (σ 3 0 6) s i).1) (hr := σ 3 0 5) (bt := (d_dr n pl r (σ 3 0 6) s i).2) (K := fun vv tt => X 92 [some (am_r 0 0), some (.inl s), some (.inl (nI m)), some (.inl d), some (.inl (d_sx s (i + 1))), some (.inl (nI i))] (vv.toList ++ []) tt) ck1 t2 b5.2 (by rw [cn1]; exact d_ix_lt h0) (by rw [cn1]; exact d_dr_inv h0 h9 t6 i) (by
      rw [cn1]
      refine b_xd92 hX _ _ _ _ _ _ ?_
      rw [show nI i + (1 : Int32) = nI (i + 1) from nI_add i 1]
      exact IH)
    rw [cn1] at ps
    exact ps
  · refine b_xd51 hX _ _ _ _ _ ⟨fun _ => b_xd99 hX _ _ _ _ _ ?_, fun q => absurd (nI_le (Nat.le_refl _) (by omega)) q⟩
    have hK := h (c_set (c_cp σ 1 0 n) 1 n (d_dr n pl r (σ 3 0 6) s m).1 (σ 3 0 5) (d_dr n pl r (σ 3 0 6) s m).2) (ivz_trans (ivz_ccp h9) (ivz_cset h9)) (by rw [c_set_k (by decide) (by decide), c_cp_k (by decide) (by decide)]) (by rw [c_set_k (by decide) (by decide), c_cp_k (by decide) (by decide)])
    unfold d_ans at hK
    rw [nn, c_set_b]
    refine ⟨fun q => ?_, fun q => ⟨c_ok_set ck1, ?_⟩⟩
    · rw [if_pos q] at hK
      exact hK
    · rw [if_neg q] at hK
      have := c_who_set (σ := c_cp σ 1 0 n) (c := 1) (r := (d_dr n pl r (σ 3 0 6) s m).1) (hr := σ 3 0 5) (bt := (d_dr n pl r (σ 3 0 6) s m).2) (s := 2)
      rw [cn1] at this
      rw [this]
      exact hK
theorem tX7_drift {σ τ : am_M} {n pl m : Nat} {r : Rw} {s d : Int32} {X : Nat → am_L → List am_V → am_M → Prop} {K : am_K} (hX : am_cl eX7_drift lX7_drift (some .int) K X) (hv : iv σ n pl) (e20 : τ 20 = σ 20) (e21 : τ 21 = σ 21) (hr : ∀ p j, p < n → j < 7 → r p j = c_r σ 0 p j) (h0 : 0 < n) (hm : m ≤ 60) (h : ∀ τ', ivz τ τ' → K (some (.inl (d_ans n pl r (σ 3 0 6) s d m))) τ') : X 42 [some (am_r 20 0), some (.inl s), some (.inl (nI m)), some (.inl d), none, none] [] (m_cp τ 0 272 68) := by
  obtain ⟨h9, a1, a2, -⟩ := id hv
  obtain ⟨b1, b2, b3, b4, b5, b6, b7, b8, b9, b10, b11⟩ := id a2
  obtain ⟨k1, k2, k3⟩ := iv_trm hv e21 hr
  have a1' : m_cp τ 0 272 68 20 0 1 = nI n := by
    rw [m_cp_k (by decide), e20]
    exact hv.2.1
  obtain ⟨hn, ho⟩ := m_n_of a1' hv.1
  refine b_ye42 hX _ _ _ ?_
  have e0 : m_cp τ 0 272 68 = m_set (m_cp τ 0 272 68) 272 n (d_dr n pl r (σ 3 0 6) s 0).1 (σ 3 0 5) (d_dr n pl r (σ 3 0 6) s 0).2 := k1.symm
  have zz : ∀ r' hr' bt', ivz τ (m_set (m_cp τ 0 272 68) 272 n r' hr' bt') := fun _ _ _ => ivz_trans (ivz_mcp (by decide)) (ivz_mset (by decide) h9)
  have nn : ∀ r' hr' bt', m_set (m_cp τ 0 272 68) 272 n r' hr' bt' 20 0 1 = nI n := fun r' hr' bt' => by rw [m_set_k (by decide)]; exact a1'
  have loop := q_dn (W := fun i => X 48 [some (am_r 20 0), some (.inl s), some (.inl (nI m)), some (.inl d), some (.inl (d_sx s i)), some (.inl (nI i))] [] (m_set (m_cp τ 0 272 68) 272 n (d_dr n pl r (σ 3 0 6) s i).1 (σ 3 0 5) (d_dr n pl r (σ 3 0 6) s i).2)) (n := m) (fun i hi IH => ?_) ?_ 0 (Nat.zero_le _)
  · rw [e0]
    exact loop
  · refine b_ye48 hX _ _ _ _ _ ?_
    rw [nI_leI (by omega) (by omega), nn]
    refine ⟨fun q => absurd q (by omega), fun _ => ⟨nI_ne0 h0 (by omega), ?_⟩⟩
    rw [show (d_sx s i * (1103515245 : Int32) + (12345 : Int32)) = d_sx s (i + 1) from rfl, d_ix_m h0 h9]
    have ps := tX7_boards (σ := m_cp τ 0 272 68) (g := 272) (pl := pl) (p := d_ix n (d_sx s (i + 1))) (r := (d_dr n pl r (σ 3 0 6) s i).1) (hr := σ 3 0 5) (bt := (d_dr n pl r (σ 3 0 6) s i).2) (K := fun vv tt => X 86 [some (am_r 20 0), some (.inl s), some (.inl (nI m)), some (.inl d), some (.inl (d_sx s (i + 1))), some (.inl (nI i))] (vv.toList ++ []) tt) (by decide) ho k3 b5.2 (by rw [hn]; exact d_ix_lt h0) (by rw [hn]; exact m_at_cg k2 (fun q j hq hj => d_dr_at (by omega) i)) (by
      rw [hn]
      refine b_ye86 hX _ _ _ _ _ _ ?_
      rw [show nI i + (1 : Int32) = nI (i + 1) from nI_add i 1]
      exact IH)
    rw [hn] at ps
    exact ps
  · refine b_ye48 hX _ _ _ _ _ ⟨fun _ => b_ye93 hX _ _ _ _ _ ?_, fun q => absurd (nI_le (Nat.le_refl _) (by omega)) q⟩
    have hK := h _ (zz (d_dr n pl r (σ 3 0 6) s m).1 (σ 3 0 5) (d_dr n pl r (σ 3 0 6) s m).2)
    unfold d_ans at hK
    have e67 : m_set (m_cp τ 0 272 68) 272 n (d_dr n pl r (σ 3 0 6) s m).1 (σ 3 0 5) (d_dr n pl r (σ 3 0 6) s m).2 21 0 67 = σ 3 0 6 := by
      rw [m_set_o (by omega) (by decide) (by decide), m_cp_i, if_neg (by decide), e21, b9]
    rw [e67, show m_set (m_cp τ 0 272 68) 272 n (d_dr n pl r (σ 3 0 6) s m).1 (σ 3 0 5) (d_dr n pl r (σ 3 0 6) s m).2 21 0 339 = _ from m_set_b (g := 272) h9]
    refine ⟨fun q => ?_, fun q => ⟨m_ok_set ho, ?_⟩⟩
    · rw [if_pos q] at hK
      exact hK
    · rw [if_neg q] at hK
      rw [m_n_set, hn, m_who_set]
      exact hK
theorem pr_drift {σ : am_M} {a b d : Int32} (hI : Inv σ) : pairI sX6_drift sX7_drift [.inl a, .inl b, .inl d] σ := by
  obtain ⟨n, pl, hv⟩ := id hI
  obtain ⟨h9, a1, a2, -⟩ := id hv
  obtain ⟨t1, t2, t3, t4, t5, t6, t7⟩ := iv_tri hv
  have hz : nI n = (0 : Int32) ↔ n = 0 := nI_eq (b := 0) (by omega) (by decide)
  refine ⟨am_le rfl, fun X hX => b_xd0 hX a b d ⟨fun c1 => ⟨_, rfl, am_le rfl, fun Y hY => b_ye0 hY _ _ _ ⟨fun _ => ⟨rfl, hI⟩, fun q => absurd c1 q⟩⟩, fun c1 => ⟨fun c2 => ⟨_, rfl, am_le rfl, fun Y hY => b_ye0 hY _ _ _ ⟨fun q => absurd q c1, fun _ => ⟨fun _ => ⟨rfl, hI⟩, fun q => absurd c2 q⟩⟩⟩, fun c2 => ⟨fun c3 => ⟨_, rfl, am_le rfl, fun Y hY => b_ye0 hY _ _ _ ⟨fun q => absurd q c1, fun _ => ⟨fun q => absurd q c2, fun _ => ⟨fun _ => ⟨rfl, hI⟩, fun q => absurd c3 q⟩⟩⟩⟩, fun c3 => ⟨fun c4 => ⟨_, rfl, am_le rfl, fun Y hY => b_ye0 hY _ _ _ ⟨fun q => absurd q c1, fun _ => ⟨fun q => absurd q c2, fun _ => ⟨fun q => absurd q c3, fun _ => ⟨fun _ => ⟨rfl, hI⟩, fun q => absurd c4 q⟩⟩⟩⟩⟩, fun c4 => ?_⟩⟩⟩⟩⟩
  rw [a2.1, hz]
  refine ⟨fun c5 => ⟨_, rfl, am_le rfl, fun Y hY => b_ye0 hY _ _ _ ⟨fun q => absurd q c1, fun _ => ⟨fun q => absurd q c2, fun _ => ⟨fun q => absurd q c3, fun _ => ⟨fun q => absurd q c4, fun _ => ?_⟩⟩⟩⟩⟩, fun c5 => ?_⟩
  · rw [a1, hz]
    exact ⟨fun _ => ⟨rfl, hI⟩, fun q => absurd c5 q⟩
  · obtain ⟨m, m1, m60, rfl⟩ := q_rng (a := 1) (b := 60) rfl rfl (by decide) c1 c2 (by decide)
    refine uX0_copyFrom (by decide) a2.1 h9 (tX6_drift hX hv (by omega) m60 fun τ z1 e20 e21 => ⟨_, rfl, am_le rfl, fun Y hY => b_ye0 hY _ _ _ ⟨fun q => absurd q c1, fun _ => ⟨fun q => absurd q c2, fun _ => ⟨fun q => absurd q c3, fun _ => ⟨fun q => absurd q c4, fun _ => ?_⟩⟩⟩⟩⟩)
    rw [e20, a1, hz]
    exact ⟨fun q => absurd q c5, fun _ => tX7_copies (f := 0) (t := 272) (by decide) (by decide) (by decide) (tX7_drift hY hv e20 e21 t5 (by omega) m60 fun τ' z2 => ⟨rfl, n, pl, iv_z z2 (iv_z z1 hv)⟩)⟩
theorem iv_sh {σ τ : am_M} {n pl : Nat} (h : iv σ n pl) (f : ∀ k, k ≠ 17 → k ≠ 18 → k ≠ 29 → k ≠ 30 → k ≠ 31 → τ k = σ k) (hs : iv_sheet τ) : iv τ n pl := by
  obtain ⟨h9, a1, a2, a3, a4, a5, a6, a7, a8⟩ := h
  have f3 := f 3 (by decide) (by decide) (by decide) (by decide) (by decide)
  have f5 := f 5 (by decide) (by decide) (by decide) (by decide) (by decide)
  have f20 := f 20 (by decide) (by decide) (by decide) (by decide) (by decide)
  have f21 := f 21 (by decide) (by decide) (by decide) (by decide) (by decide)
  exact ⟨h9, by rw [f20]; exact a1, cm_cg (by rw [f3]) (fun _ _ => by rw [f5]) (fun _ _ _ => by rw [f21]) h9 a2, iv_img_cg h9 (f 15 (by decide) (by decide) (by decide) (by decide) (by decide)) (f 28 (by decide) (by decide) (by decide) (by decide) (by decide)) (fun _ _ => by rw [f3]) (fun _ _ => by rw [f5]) (fun _ _ _ => by rw [f21]) a3, iv_seen_cg (f 11 (by decide) (by decide) (by decide) (by decide) (by decide)) (f 12 (by decide) (by decide) (by decide) (by decide) (by decide)) (f 13 (by decide) (by decide) (by decide) (by decide) (by decide)) (f 27 (by decide) (by decide) (by decide) (by decide) (by decide)) (by rw [f20]) a4, iv_tape_cg (f 1 (by decide) (by decide) (by decide) (by decide) (by decide)) (f 2 (by decide) (by decide) (by decide) (by decide) (by decide)) (f 23 (by decide) (by decide) (by decide) (by decide) (by decide)) (by rw [f20]) a5, hs, iv_word_cg (f 24 (by decide) (by decide) (by decide) (by decide) (by decide)) (f 25 (by decide) (by decide) (by decide) (by decide) (by decide)) a7, iv_flt_cg (f 0 (by decide) (by decide) (by decide) (by decide) (by decide)) (by rw [f20]) (by rw [f20]) a8⟩
/-- a row of cells is cleared -/
def z_c (σ : am_M) (kd i0 j0 : Nat) (n : Nat) : am_M := fun k i j => if k = kd then (if i = i0 then (if j0 ≤ j ∧ j < j0 + n then 0 else σ k i j) else σ k i j) else σ k i j
theorem z_c_0 {σ : am_M} {kd i0 j0 : Nat} : z_c σ kd i0 j0 0 = σ := by
  funext k i j
  unfold z_c
  split
  · split
    · rw [if_neg (by omega)]
    · rfl
  · rfl
theorem z_c_s {σ : am_M} {kd i0 j0 n : Nat} : am_u (z_c σ kd i0 j0 n) kd i0 (j0 + n) 0 = z_c σ kd i0 j0 (n + 1) := by
  funext k i j
  unfold am_u z_c
  by_cases c : k = kd
  · rw [if_pos c, if_pos c, if_pos c]
    by_cases d : i = i0
    · rw [if_pos d, if_pos d, if_pos d]
      by_cases e : j = j0 + n
      · rw [if_pos e, if_pos (by omega)]
      · rw [if_neg e]
        by_cases g : j0 ≤ j ∧ j < j0 + n
        · rw [if_pos g, if_pos (by omega)]
        · rw [if_neg g, if_neg (by omega)]
    · rw [if_neg d, if_neg d, if_neg d]
      split <;> rfl
  · rw [if_neg c, if_neg c, if_neg c]
theorem z_c_k {σ : am_M} {kd i0 j0 n k : Nat} (h : k ≠ kd) : z_c σ kd i0 j0 n k = σ k := by
  funext i j
  unfold z_c
  rw [if_neg h]
theorem tX4_renew {σ : am_M} {k : Nat} {a b : Int32} {K : am_K} (h : K none (am_u (am_u (am_u (z_c σ 18 k 0 40) 17 k 1 1) 17 k 2 a) 17 k 3 b)) : sX4_renew [am_r 17 k, .inl a, .inl b] σ K := by
  refine ⟨am_le rfl, fun X hX => b_rn0 hX _ _ _ ?_⟩
  have loop := q_dn (W := fun i => X 2 [some (am_r 17 k), some (.inl a), some (.inl b), some (.inl (nI i))] [] (z_c σ 18 k 0 i)) (n := 40) (fun i hi IH => ?_) ?_ 0 (Nat.zero_le _)
  · rw [z_c_0] at loop
    exact loop
  · refine b_rn2 hX _ _ _ _ ?_
    rw [show ((40 : Int32) ≤ nI i ↔ 40 ≤ i) from nI_leI (a := 40) (by decide) (by omega), nI_clamp (by omega), show nI i + (1 : Int32) = nI (i + 1) from nI_add i 1]
    refine ⟨fun q => absurd q (by omega), fun _ => ⟨q_in hi (by decide), ?_⟩⟩
    have e := z_c_s (σ := σ) (kd := 18) (i0 := k) (j0 := 0) (n := i)
    rw [Nat.zero_add] at e
    rw [e]
    exact IH
  · exact b_rn2 hX _ _ _ _ ⟨fun _ => h, fun q => absurd (nI_le (a := 40) (b := 40) (by decide) (by decide)) q⟩
theorem pr_sheet {σ : am_M} {a b d : Int32} (hI : Inv σ) : pairI sX6_sheet sX7_sheet [.inl a, .inl b, .inl d] σ := by
  obtain ⟨n, pl, hv⟩ := id hI
  obtain ⟨h9, a1, a2, a3, a4, a5, a6, a7, a8⟩ := id hv
  refine ⟨am_le rfl, fun X hX => b_xs0 hX a b d ⟨fun c1 => ⟨_, rfl, am_le rfl, fun Y hY => b_ys0 hY _ _ _ ⟨fun _ => ⟨rfl, hI⟩, fun q => absurd c1 q⟩⟩, fun c1 => ⟨fun c2 => ⟨_, rfl, am_le rfl, fun Y hY => b_ys0 hY _ _ _ ⟨fun q => absurd q c1, fun _ => ⟨fun _ => ⟨rfl, hI⟩, fun q => absurd c2 q⟩⟩⟩, fun c2 => ⟨fun c3 => ⟨_, rfl, am_le rfl, fun Y hY => b_ys0 hY _ _ _ ⟨fun q => absurd q c1, fun _ => ⟨fun q => absurd q c2, fun _ => ⟨fun _ => ⟨rfl, hI⟩, fun q => absurd c3 q⟩⟩⟩⟩, fun c3 => ⟨fun c4 => ⟨_, rfl, am_le rfl, fun Y hY => b_ys0 hY _ _ _ ⟨fun q => absurd q c1, fun _ => ⟨fun q => absurd q c2, fun _ => ⟨fun q => absurd q c3, fun _ => ⟨fun _ => ⟨rfl, hI⟩, fun q => absurd c4 q⟩⟩⟩⟩⟩, fun c4 => ⟨fun c5 => ⟨fun c6 => ?_, fun c6 => ⟨_, rfl, am_le rfl, fun Y hY => b_ys0 hY _ _ _ ⟨fun q => absurd q c1, fun _ => ⟨fun q => absurd q c2, fun _ => ⟨fun q => absurd q c3, fun _ => ⟨fun q => absurd q c4, fun _ => ⟨fun _ => ⟨fun q => absurd q c6, fun _ => ⟨rfl, hI⟩⟩, fun q => absurd c5 q⟩⟩⟩⟩⟩⟩⟩, fun c5 => ⟨_, rfl, am_le rfl, fun Y hY => b_ys0 hY _ _ _ ⟨fun q => absurd q c1, fun _ => ⟨fun q => absurd q c2, fun _ => ⟨fun q => absurd q c3, fun _ => ⟨fun q => absurd q c4, fun _ => ⟨fun q => absurd q c5, fun _ => ⟨rfl, hI⟩⟩⟩⟩⟩⟩⟩⟩⟩⟩⟩⟩⟩
  obtain ⟨k, k3, rfl⟩ := q_0b (b := 3) rfl (by decide) c1 c2
  obtain ⟨l, l2, rfl⟩ := q_0b (b := 2) rfl (by decide) c3 c4
  obtain ⟨z, z40, rfl⟩ := nI_of2 (n := 40) (M := 40) (by decide) (Int32.not_lt.mpr c6) c5
  have vk : vp_in (nI k) 4 := q_in (by omega) (by decide)
  rw [nI_clamp (by omega)]
  refine ⟨vk, tX4_renew (b_xs40 hX _ _ _ ⟨_, rfl, am_le rfl, fun Y hY => b_ys0 hY _ _ _ ⟨fun q => absurd q c1, fun _ => ⟨fun q => absurd q c2, fun _ => ⟨fun q => absurd q c3, fun _ => ⟨fun q => absurd q c4, fun _ => ⟨fun _ => ⟨fun _ => ?_, fun q => absurd c6 q⟩, fun q => absurd c5 q⟩⟩⟩⟩⟩⟩)⟩
  rw [nI_clamp (by omega)]
  refine ⟨vk, vk, ?_⟩
  generalize hτ : am_u (am_u (am_u (am_u (am_u (z_c σ 18 k 0 40) 17 k 1 1) 17 k 2 (nI l)) 17 k 3 (nI z)) 29 0 k (nI l)) 30 0 k (nI z) = τ
  have loop := q_dn (W := fun i => Y 56 [some (am_r 20 0), some (.inl (nI k)), some (.inl (nI l)), some (.inl (nI z)), some (.inl (nI i))] [] (z_c τ 31 0 (40 * k) i)) (n := 40) (fun i hi IH => ?_) ?_ 0 (Nat.zero_le _)
  · rw [z_c_0] at loop
    exact loop
  · refine b_ys56 hY _ _ _ _ ?_
    rw [show ((40 : Int32) ≤ nI i ↔ 40 ≤ i) from nI_leI (a := 40) (by decide) (by omega), show (40 : Int32) * nI k = nI (40 * k) from pk_mul 40 k, nI_add, nI_clamp (by omega), show nI i + (1 : Int32) = nI (i + 1) from nI_add i 1, z_c_s]
    exact ⟨fun q => absurd q (by omega), fun _ => ⟨q_in (by omega) (by decide), IH⟩⟩
  · refine b_ys56 hY _ _ _ _ ⟨fun _ => ⟨rfl, n, pl, iv_sh hv (fun q d1 d2 d3 d4 d5 => ?_) (fun q hq => ?_)⟩, fun q => absurd (nI_le (a := 40) (b := 40) (by decide) (by decide)) q⟩
    · rw [z_c_k d5, ← hτ, am_u_k d4, am_u_k d3, am_u_k d1, am_u_k d1, am_u_k d1, z_c_k d2]
    · have e17 : ∀ j, z_c τ 31 0 (40 * k) 40 17 q j = if q = k then (if j = 3 then nI z else if j = 2 then nI l else if j = 1 then 1 else σ 17 q j) else σ 17 q j := fun j => by
        rw [z_c_k (by decide), ← hτ, am_u_k (by decide), am_u_k (by decide)]
        unfold am_u
        rw [z_c_k (by decide)]
        by_cases c : q = k
        · simp [c]
        · simp [c]
      have e29 : z_c τ 31 0 (40 * k) 40 29 0 q = if q = k then nI l else σ 29 0 q := by
        rw [z_c_k (by decide), ← hτ, am_u_k (by decide)]
        by_cases c : q = k
        · rw [if_pos c, c, am_u_s]
        · rw [if_neg c, am_u_j c]
          rfl
      have e30 : z_c τ 31 0 (40 * k) 40 30 0 q = if q = k then nI z else σ 30 0 q := by
        rw [z_c_k (by decide), ← hτ]
        by_cases c : q = k
        · rw [if_pos c, c, am_u_s]
        · rw [if_neg c, am_u_j c]
          rfl
      have e18 : ∀ j, j < 40 → z_c τ 31 0 (40 * k) 40 18 q j = if q = k then 0 else σ 18 q j := fun j hj => by
        rw [z_c_k (by decide), ← hτ, am_u_k (by decide), am_u_k (by decide), am_u_k (by decide), am_u_k (by decide), am_u_k (by decide)]
        unfold z_c
        rw [if_pos rfl]
        by_cases c : q = k
        · rw [if_pos c, if_pos c, if_pos (by omega)]
        · rw [if_neg c, if_neg c]
      have e31 : ∀ j, j < 40 → z_c τ 31 0 (40 * k) 40 31 0 (40 * q + j) = if q = k then 0 else σ 31 0 (40 * q + j) := fun j hj => by
        unfold z_c
        rw [if_pos rfl, if_pos rfl]
        by_cases c : q = k
        · rw [if_pos c, if_pos (by omega)]
        · rw [if_neg c, if_neg (by omega), ← hτ, am_u_k (by decide), am_u_k (by decide), am_u_k (by decide), am_u_k (by decide), am_u_k (by decide), z_c_k (by decide)]
      rw [e17, e17, e17, e29, e30]
      by_cases c : q = k
      · subst c
        simp only [if_true, if_pos]
        refine Or.inr ⟨by simp, by simp, by simp; exact q_lim_n l2 (by decide), z, z40, by simp, by simp, fun i hi => ?_⟩
        rw [e18 i hi, e31 i hi, if_pos rfl, if_pos rfl]
      · simp only [if_neg c]
        rcases a6 q hq with w | ⟨w1, w2, w3, z', w4, w5, w6, w7⟩
        · exact Or.inl w
        · refine Or.inr ⟨w1, w2, w3, z', w4, w5, w6, fun i hi => ?_⟩
          rw [e18 i hi, e31 i hi, if_neg c, if_neg c]
          exact w7 i hi
theorem q_i2b (x : Int32) : x.toInt8.toInt32 = (x <<< ((24 : Int32) &&& 31)) >>> ((24 : Int32) &&& 31) := by
  apply Int32.toBitVec_inj.1
  have e1 : x.toInt8.toInt32.toBitVec = (x.toBitVec.signExtend 8).signExtend 32 := rfl
  have e2 : ((x <<< ((24 : Int32) &&& 31)) >>> ((24 : Int32) &&& 31)).toBitVec = (x.toBitVec <<< 24).sshiftRight 24 := rfl
  rw [e1, e2]
  apply BitVec.eq_of_getLsbD_eq
  intro i hi
  rw [BitVec.getLsbD_signExtend, BitVec.getLsbD_sshiftRight, BitVec.msb_eq_getLsbD_last, BitVec.msb_eq_getLsbD_last]
  by_cases c : i < 8
  · simp [c, hi, BitVec.getLsbD_signExtend, BitVec.getElem_signExtend, show ¬ 24 + i < 24 by omega, show ¬ 16 + i < 16 by omega, show ¬ 32 ≤ i by omega, show 24 + i < 32 by omega, show i < 32 by omega]
  · simp [c, hi, BitVec.getLsbD_signExtend, BitVec.getElem_signExtend, show ¬ 24 + i < 24 by omega, show ¬ 16 + i < 16 by omega, show ¬ 32 ≤ i by omega, show ¬ 24 + i < 32 by omega]
theorem q_i2s (x : Int32) : x.toInt16.toInt32 = (x <<< ((16 : Int32) &&& 31)) >>> ((16 : Int32) &&& 31) := by
  apply Int32.toBitVec_inj.1
  have e1 : x.toInt16.toInt32.toBitVec = (x.toBitVec.signExtend 16).signExtend 32 := rfl
  have e2 : ((x <<< ((16 : Int32) &&& 31)) >>> ((16 : Int32) &&& 31)).toBitVec = (x.toBitVec <<< 16).sshiftRight 16 := rfl
  rw [e1, e2]
  apply BitVec.eq_of_getLsbD_eq
  intro i hi
  rw [BitVec.getLsbD_signExtend, BitVec.getLsbD_sshiftRight, BitVec.msb_eq_getLsbD_last, BitVec.msb_eq_getLsbD_last]
  by_cases c : i < 16
  · simp [c, hi, BitVec.getLsbD_signExtend, BitVec.getElem_signExtend, show ¬ 24 + i < 24 by omega, show ¬ 16 + i < 16 by omega, show ¬ 32 ≤ i by omega, show 16 + i < 32 by omega, show i < 32 by omega]
  · simp [c, hi, BitVec.getLsbD_signExtend, BitVec.getElem_signExtend, show ¬ 24 + i < 24 by omega, show ¬ 16 + i < 16 by omega, show ¬ 32 ≤ i by omega, show ¬ 16 + i < 32 by omega]
theorem pr_lay {σ : am_M} {a b d : Int32} (hI : Inv σ) : pairI sX6_lay sX7_lay [.inl a, .inl b, .inl d] σ := by
  obtain ⟨n, pl, hv⟩ := id hI
  obtain ⟨h9, a1, a2, a3, a4, a5, a6, a7, a8⟩ := id hv
  refine tX6_lay ⟨fun c1 => ⟨_, rfl, tX7_lay ⟨fun _ => ⟨rfl, hI⟩, fun q => absurd c1 q⟩⟩, fun c1 => ⟨fun c2 => ⟨_, rfl, tX7_lay ⟨fun q => absurd q c1, fun _ => ⟨fun _ => ⟨rfl, hI⟩, fun q => absurd c2 q⟩⟩⟩, fun c2 => ?_⟩⟩
  obtain ⟨k, k3, rfl⟩ := q_0b (b := 3) rfl (by decide) c1 c2
  have vk : vp_in (nI k) 4 := q_in (by omega) (by decide)
  rw [nI_clamp (by omega)]
  refine ⟨vk, fun c3 => ⟨_, rfl, tX7_lay ⟨fun q => absurd q c1, fun _ => ⟨fun q => absurd q c2, fun _ => ?_⟩⟩⟩, fun c3 => ?_⟩
  · rw [nI_clamp (by omega)]
    rcases a6 k (by omega) with w | ⟨w1, -⟩
    · exact ⟨vk, fun _ => ⟨rfl, hI⟩, fun q => absurd w.2 q⟩
    · rw [w1] at c3
      exact absurd c3 (by decide)
  rcases a6 k (by omega) with w | ⟨w1, w2, w3, z, w4, w5, w6, w7⟩
  · exact absurd w.1 c3
  have ne4 : ¬ σ 29 0 k = -4 := fun q => by
    rw [← w2] at q
    obtain ⟨e, l⟩ := w3
    rw [q] at e
    exact absurd e (by decide)
  have badn : (b < 0 ∨ nI z ≤ b) → sX7_lay [am_r 20 0, .inl (nI k), .inl b, .inl d] σ (fun w τ2 => w = some (.inl (-12 : Int32)) ∧ Inv τ2) := fun q => by
    refine tX7_lay ⟨fun q => absurd q c1, fun _ => ⟨fun q => absurd q c2, fun _ => ?_⟩⟩
    rw [nI_clamp (by omega), w6, q_m1 (by omega)]
    exact ⟨vk, fun q => absurd q ne4, fun _ => ⟨vk, fun _ => ⟨rfl, hI⟩, fun d1 => ⟨fun _ => ⟨rfl, hI⟩, fun d2 => (q.elim d1 d2).elim⟩⟩⟩
  rw [w5]
  refine ⟨fun c4 => ⟨_, rfl, badn (Or.inl c4)⟩, fun c4 => ⟨fun c5 => ⟨_, rfl, badn (Or.inr c5)⟩, fun c5 => ⟨vk, ?_⟩⟩⟩
  rcases pk_ix b (n := z) (by omega) with q | q | ⟨i, hi, rfl⟩
  · exact absurd q c4
  · exact absurd q c5
  have vi : vp_in (nI i) 40 := q_in (by omega) (by decide)
  rw [nI_clamp (by omega)]
  have t0 : (σ 17 k 2).toInt = 0 ↔ σ 29 0 k = 0 := by
    rw [← w2]
    exact q_ti (by decide)
  have t1 : (σ 17 k 2).toInt = 1 ↔ σ 29 0 k = 1 := by
    rw [← w2]
    exact q_ti (by decide)
  rw [t0, t1]
  have fin : ∀ v, Inv (am_u (am_u σ 18 k i v) 31 0 (40 * k + i) v) := fun v => ⟨n, pl, iv_sh hv (fun q d1 d2 d3 d4 d5 => by rw [am_u_k d5, am_u_k d2]) (fun q hq => by
    rcases a6 q hq with u | ⟨u1, u2, u3, z', u4, u5, u6, u7⟩
    · exact Or.inl u
    · refine Or.inr ⟨u1, u2, u3, z', u4, u5, u6, fun j hj => ?_⟩
      rw [am_u_k (by decide)]
      by_cases c : q = k
      · subst c
        by_cases g : j = i
        · subst g
          rw [am_u_s, am_u_s]
        · rw [am_u_j g, am_u_j (by omega), am_u_k (by decide)]
          exact u7 j hj
      · rw [am_u_i c, am_u_j (by omega), am_u_k (by decide)]
        exact u7 j hj)⟩
  have go : ∀ v, (σ 29 0 k = 0 → v = d.toInt8.toInt32) → (σ 29 0 k = 1 → v = d.toInt16.toInt32) → (¬ σ 29 0 k = 0 → ¬ σ 29 0 k = 1 → v = d) → sX7_lay [am_r 20 0, .inl (nI k), .inl (nI i), .inl d] (am_u σ 18 k i v) (fun w τ2 => w = some (.inl (1 : Int32)) ∧ Inv τ2) := by
    intro v v0 v1 v2
    refine tX7_lay ⟨fun q => absurd q c1, fun _ => ⟨fun q => absurd q c2, fun _ => ?_⟩⟩
    have f29 : am_u σ 18 k i v 29 = σ 29 := rfl
    have f30 : am_u σ 18 k i v 30 = σ 30 := rfl
    have v160 : vp_in (nI (40 * k + i)) 160 := q_in (by omega) (by decide)
    rw [nI_clamp (by omega), f29, f30, w6, q_m1 (by omega), show (40 : Int32) * nI k = nI (40 * k) from pk_mul 40 k, nI_add, nI_clamp (by omega), ← q_i2b, ← q_i2s]
    refine ⟨vk, fun q => absurd q ne4, fun _ => ⟨vk, fun q => absurd q c4, fun _ => ⟨fun q => absurd q c5, fun _ => ⟨vk, fun q => ⟨v160, rfl, ?_⟩, fun q => ⟨vk, fun q' => ⟨v160, rfl, ?_⟩, fun q' => ⟨v160, rfl, ?_⟩⟩⟩⟩⟩⟩
    · rw [← v0 q]
      exact fin v
    · rw [← v1 q']
      exact fin v
    · rw [← v2 q q']
      exact fin v
  refine ⟨fun q => ⟨vi, _, rfl, go _ (fun _ => rfl) (fun w => ?_) (fun w => absurd q w)⟩, fun q => ⟨fun q' => ⟨vi, _, rfl, go _ (fun w => absurd w q) (fun _ => rfl) (fun _ w => absurd q' w)⟩, fun q' => ⟨vi, _, rfl, go _ (fun w => absurd w q) (fun w => absurd w q') (fun _ _ => rfl)⟩⟩⟩
  rw [q] at w
  exact absurd w (by decide)
