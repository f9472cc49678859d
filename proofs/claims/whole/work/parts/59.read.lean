/-! pairs: read -/
set_option maxRecDepth 100000 in
set_option maxHeartbeats 400000 in
theorem b_xr0 {K : Option am_V → am_M → Prop} {X : Nat → am_L → List am_V → am_M → Prop} (hX : am_cl eX6_read lX6_read (some .int) K X) {σ : am_M} (a b f z : Int32) (h : ((a < (0 : Int32)) → K (some (.inl (-1 : Int32))) σ) ∧ (¬ (a < (0 : Int32)) → (((3 : Int32) < a) → K (some (.inl (-1 : Int32))) σ) ∧ (¬ ((3 : Int32) < a) → ((b < (0 : Int32)) → K (some (.inl (-1 : Int32))) σ) ∧ (¬ (b < (0 : Int32)) → (((2 : Int32) < b) → K (some (.inl (-1 : Int32))) σ) ∧ (¬ ((2 : Int32) < b) → ((z < (0 : Int32)) → K (some (.inl (-1 : Int32))) σ) ∧ (¬ (z < (0 : Int32)) → (((20 : Int32) < z) → K (some (.inl (-1 : Int32))) σ) ∧ (¬ ((20 : Int32) < z) → (vp_in a 4) ∧ (sX0_copyFrom [.inr (.inr (3, 1)), .inr (.inr (3, 0))] σ (fun vv tt => X 46 [some (.inr (.inr (0, 0))), some (.inl a), some (.inl b), some (.inl f), some (.inl z), some (.inr (.inr (17, a.toNatClampNeg))), none, none, none] (vv.toList ++ []) tt))))))))) : X 0 [some (.inr (.inr (0, 0))), some (.inl a), some (.inl b), some (.inl f), some (.inl z), none, none, none, none] [] σ := am_run_ok emX6_read hX [46] 400 (show 1 ≤ 1 ∧ 0 ≤ 8 ∧ sX6_isSheet [.inl a] σ (fun vv tt => am_run eX6_read lX6_read (some .int) K X [46] 398 4 [some (.inr (.inr (0, 0))), some (.inl a), some (.inl b), some (.inl f), some (.inl z), none, none, none, none] (vv.toList ++ []) tt) from ⟨am_le rfl, am_le rfl, tX6_isSheet (⟨fun q0 => (show (((0 : Int32) = (0 : Int32)) → K (some (.inl (-1 : Int32))) σ) ∧ (¬ ((0 : Int32) = (0 : Int32)) → _) from ⟨fun _ => (h.1 q0), fun q => absurd (by decide) q⟩), fun q0 => ⟨fun q1 => (show (((0 : Int32) = (0 : Int32)) → K (some (.inl (-1 : Int32))) σ) ∧ (¬ ((0 : Int32) = (0 : Int32)) → _) from ⟨fun _ => ((h.2 q0).1 q1), fun q => absurd (by decide) q⟩), fun q1 => (show (((1 : Int32) = (0 : Int32)) → _) ∧ (¬ ((1 : Int32) = (0 : Int32)) → 1 ≤ 1 ∧ 0 ≤ 8 ∧ sX6_isLane [.inl b] σ (fun vv tt => am_run eX6_read lX6_read (some .int) K X [46] 395 11 [some (.inr (.inr (0, 0))), some (.inl a), some (.inl b), some (.inl f), some (.inl z), none, none, none, none] (vv.toList ++ []) tt)) from ⟨fun q => absurd q (by decide), fun _ => ⟨am_le rfl, am_le rfl, tX6_isLane (⟨fun q2 => (show (((0 : Int32) = (0 : Int32)) → K (some (.inl (-1 : Int32))) σ) ∧ (¬ ((0 : Int32) = (0 : Int32)) → _) from ⟨fun _ => (((h.2 q0).2 q1).1 q2), fun q => absurd (by decide) q⟩), fun q2 => ⟨fun q3 => (show (((0 : Int32) = (0 : Int32)) → K (some (.inl (-1 : Int32))) σ) ∧ (¬ ((0 : Int32) = (0 : Int32)) → _) from ⟨fun _ => ((((h.2 q0).2 q1).2 q2).1 q3), fun q => absurd (by decide) q⟩), fun q3 => (show (((1 : Int32) = (0 : Int32)) → _) ∧ (¬ ((1 : Int32) = (0 : Int32)) → 3 ≤ 3 ∧ 0 ≤ 8 ∧ sX6_isWithin [.inl z, .inl (0 : Int32), .inl (20 : Int32)] σ (fun vv tt => am_run eX6_read lX6_read (some .int) K X [46] 390 22 [some (.inr (.inr (0, 0))), some (.inl a), some (.inl b), some (.inl f), some (.inl z), none, none, none, none] (vv.toList ++ []) tt)) from ⟨fun q => absurd q (by decide), fun _ => ⟨am_le rfl, am_le rfl, tX6_isWithin (⟨fun q4 => (show (((0 : Int32) = (0 : Int32)) → K (some (.inl (-1 : Int32))) σ) ∧ (¬ ((0 : Int32) = (0 : Int32)) → _) from ⟨fun _ => (((((h.2 q0).2 q1).2 q2).2 q3).1 q4), fun q => absurd (by decide) q⟩), fun q4 => ⟨fun q5 => (show (((0 : Int32) = (0 : Int32)) → K (some (.inl (-1 : Int32))) σ) ∧ (¬ ((0 : Int32) = (0 : Int32)) → _) from ⟨fun _ => ((((((h.2 q0).2 q1).2 q2).2 q3).2 q4).1 q5), fun q => absurd (by decide) q⟩), fun q5 => (show (((1 : Int32) = (0 : Int32)) → _) ∧ (¬ ((1 : Int32) = (0 : Int32)) → (vp_in a 4) ∧ (2 ≤ 2 ∧ 0 ≤ 8 ∧ True ∧ sX0_copyFrom [.inr (.inr (3, 1)), .inr (.inr (3, 0))] σ (fun vv tt => X 46 [some (.inr (.inr (0, 0))), some (.inl a), some (.inl b), some (.inl f), some (.inl z), some (.inr (.inr (17, a.toNatClampNeg))), none, none, none] (vv.toList ++ []) tt))) from ⟨fun q => absurd q (by decide), fun _ => ⟨((((((h.2 q0).2 q1).2 q2).2 q3).2 q4).2 q5).1, ⟨am_le rfl, am_le rfl, trivial, ((((((h.2 q0).2 q1).2 q2).2 q3).2 q4).2 q5).2⟩⟩⟩)⟩⟩)⟩⟩)⟩⟩)⟩⟩)⟩⟩)⟩)
set_option maxRecDepth 100000 in
set_option maxHeartbeats 400000 in
theorem b_xr46 {K : Option am_V → am_M → Prop} {X : Nat → am_L → List am_V → am_M → Prop} (hX : am_cl eX6_read lX6_read (some .int) K X) {σ : am_M} (k : Nat) (b f z : Int32) (h : X 55 [some (.inr (.inr (0, 0))), some (.inl (nI k)), some (.inl b), some (.inl f), some (.inl z), some (.inr (.inr (17, k))), some (.inl (0 : Int32)), some (.inl (0 : Int32)), some (.inl (0 : Int32))] [] σ) : X 46 [some (.inr (.inr (0, 0))), some (.inl (nI k)), some (.inl b), some (.inl f), some (.inl z), some (.inr (.inr (17, k))), none, none, none] [] σ := am_run_ok emX6_read hX [55] 400 (show X 55 [some (.inr (.inr (0, 0))), some (.inl (nI k)), some (.inl b), some (.inl f), some (.inl z), some (.inr (.inr (17, k))), some (.inl (0 : Int32)), some (.inl (0 : Int32)), some (.inl (0 : Int32))] [] σ from h)
set_option maxRecDepth 100000 in
set_option maxHeartbeats 400000 in
theorem b_xr55 {K : Option am_V → am_M → Prop} {X : Nat → am_L → List am_V → am_M → Prop} (hX : am_cl eX6_read lX6_read (some .int) K X) {σ : am_M} (k : Nat) (b f z e c t : Int32) (h : ((z ≤ t) → X 119 [some (.inr (.inr (0, 0))), some (.inl (nI k)), some (.inl b), some (.inl f), some (.inl z), some (.inr (.inr (17, k))), some (.inl e), some (.inl c), some (.inl t)] [] σ) ∧ (¬ (z ≤ t) → ((e = (0 : Int32)) → (((σ 17 k 1) = (0 : Int32)) → (((σ 17 k 1) = (0 : Int32)) → X 113 [some (.inr (.inr (0, 0))), some (.inl (nI k)), some (.inl b), some (.inl f), some (.inl z), some (.inr (.inr (17, k))), some (.inl (1 : Int32)), some (.inl c), some (.inl t)] [] σ) ∧ (¬ ((σ 17 k 1) = (0 : Int32)) → (((f + t) < (0 : Int32)) → X 113 [some (.inr (.inr (0, 0))), some (.inl (nI k)), some (.inl b), some (.inl f), some (.inl z), some (.inr (.inr (17, k))), some (.inl (2 : Int32)), some (.inl c), some (.inl t)] [] σ) ∧ (¬ ((f + t) < (0 : Int32)) → (((σ 17 k 3) ≤ (f + t)) → X 113 [some (.inr (.inr (0, 0))), some (.inl (nI k)), some (.inl b), some (.inl f), some (.inl z), some (.inr (.inr (17, k))), some (.inl (2 : Int32)), some (.inl c), some (.inl t)] [] σ) ∧ (¬ ((σ 17 k 3) ≤ (f + t)) → (vp_in (f + t) 40) ∧ (sX0_takeAboard [.inr (.inr (3, 1)), .inl (σ 18 k (f + t).toNatClampNeg)] σ (fun vv tt => X 101 [some (.inr (.inr (0, 0))), some (.inl (nI k)), some (.inl b), some (.inl f), some (.inl z), some (.inr (.inr (17, k))), some (.inl (0 : Int32)), some (.inl c), some (.inl t)] (vv.toList ++ []) tt)))))) ∧ (¬ ((σ 17 k 1) = (0 : Int32)) → (((σ 17 k 2) = b) → (((σ 17 k 1) = (0 : Int32)) → X 113 [some (.inr (.inr (0, 0))), some (.inl (nI k)), some (.inl b), some (.inl f), some (.inl z), some (.inr (.inr (17, k))), some (.inl (1 : Int32)), some (.inl c), some (.inl t)] [] σ) ∧ (¬ ((σ 17 k 1) = (0 : Int32)) → (((f + t) < (0 : Int32)) → X 113 [some (.inr (.inr (0, 0))), some (.inl (nI k)), some (.inl b), some (.inl f), some (.inl z), some (.inr (.inr (17, k))), some (.inl (2 : Int32)), some (.inl c), some (.inl t)] [] σ) ∧ (¬ ((f + t) < (0 : Int32)) → (((σ 17 k 3) ≤ (f + t)) → X 113 [some (.inr (.inr (0, 0))), some (.inl (nI k)), some (.inl b), some (.inl f), some (.inl z), some (.inr (.inr (17, k))), some (.inl (2 : Int32)), some (.inl c), some (.inl t)] [] σ) ∧ (¬ ((σ 17 k 3) ≤ (f + t)) → (vp_in (f + t) 40) ∧ (sX0_takeAboard [.inr (.inr (3, 1)), .inl (σ 18 k (f + t).toNatClampNeg)] σ (fun vv tt => X 101 [some (.inr (.inr (0, 0))), some (.inl (nI k)), some (.inl b), some (.inl f), some (.inl z), some (.inr (.inr (17, k))), some (.inl (0 : Int32)), some (.inl c), some (.inl t)] (vv.toList ++ []) tt)))))) ∧ (¬ ((σ 17 k 2) = b) → X 113 [some (.inr (.inr (0, 0))), some (.inl (nI k)), some (.inl b), some (.inl f), some (.inl z), some (.inr (.inr (17, k))), some (.inl (3 : Int32)), some (.inl c), some (.inl t)] [] σ))) ∧ (¬ (e = (0 : Int32)) → X 119 [some (.inr (.inr (0, 0))), some (.inl (nI k)), some (.inl b), some (.inl f), some (.inl z), some (.inr (.inr (17, k))), some (.inl e), some (.inl c), some (.inl t)] [] σ))) : X 55 [some (.inr (.inr (0, 0))), some (.inl (nI k)), some (.inl b), some (.inl f), some (.inl z), some (.inr (.inr (17, k))), some (.inl e), some (.inl c), some (.inl t)] [] σ := am_run_ok emX6_read hX [101, 113, 119] 400 (show ((z ≤ t) → X 119 [some (.inr (.inr (0, 0))), some (.inl (nI k)), some (.inl b), some (.inl f), some (.inl z), some (.inr (.inr (17, k))), some (.inl e), some (.inl c), some (.inl t)] [] σ) ∧ (¬ (z ≤ t) → ((e = (0 : Int32)) → 3 ≤ 3 ∧ 0 ≤ 8 ∧ True ∧ sX4_faultAs [.inr (.inr (17, k)), .inl b, .inl (f + t)] σ (fun vv tt => am_run eX6_read lX6_read (some .int) K X [101, 113, 119] 389 77 [some (.inr (.inr (0, 0))), some (.inl (nI k)), some (.inl b), some (.inl f), some (.inl z), some (.inr (.inr (17, k))), some (.inl e), some (.inl c), some (.inl t)] (vv.toList ++ []) tt)) ∧ (¬ (e = (0 : Int32)) → X 119 [some (.inr (.inr (0, 0))), some (.inl (nI k)), some (.inl b), some (.inl f), some (.inl z), some (.inr (.inr (17, k))), some (.inl e), some (.inl c), some (.inl t)] [] σ)) from ⟨fun q0 => (h.1 q0), fun q0 => ⟨fun q1 => ⟨am_le rfl, am_le rfl, trivial, tX4_faultAs (⟨fun q2 => ⟨fun q3 => (show (((1 : Int32) = (0 : Int32)) → _) ∧ (¬ ((1 : Int32) = (0 : Int32)) → X 113 [some (.inr (.inr (0, 0))), some (.inl (nI k)), some (.inl b), some (.inl f), some (.inl z), some (.inr (.inr (17, k))), some (.inl (1 : Int32)), some (.inl c), some (.inl t)] [] σ) from ⟨fun q => absurd q (by decide), fun _ => ((((h.2 q0).1 q1).1 q2).1 q3)⟩), fun q3 => ⟨fun q4 => (show (((2 : Int32) = (0 : Int32)) → _) ∧ (¬ ((2 : Int32) = (0 : Int32)) → X 113 [some (.inr (.inr (0, 0))), some (.inl (nI k)), some (.inl b), some (.inl f), some (.inl z), some (.inr (.inr (17, k))), some (.inl (2 : Int32)), some (.inl c), some (.inl t)] [] σ) from ⟨fun q => absurd q (by decide), fun _ => (((((h.2 q0).1 q1).1 q2).2 q3).1 q4)⟩), fun q4 => ⟨fun q5 => (show (((2 : Int32) = (0 : Int32)) → _) ∧ (¬ ((2 : Int32) = (0 : Int32)) → X 113 [some (.inr (.inr (0, 0))), some (.inl (nI k)), some (.inl b), some (.inl f), some (.inl z), some (.inr (.inr (17, k))), some (.inl (2 : Int32)), some (.inl c), some (.inl t)] [] σ) from ⟨fun q => absurd q (by decide), fun _ => ((((((h.2 q0).1 q1).1 q2).2 q3).2 q4).1 q5)⟩), fun q5 => (show (((0 : Int32) = (0 : Int32)) → (vp_in (f + t) 40) ∧ (2 ≤ 2 ∧ 0 ≤ 8 ∧ True ∧ sX0_takeAboard [.inr (.inr (3, 1)), .inl (σ 18 k (f + t).toNatClampNeg)] σ (fun vv tt => X 101 [some (.inr (.inr (0, 0))), some (.inl (nI k)), some (.inl b), some (.inl f), some (.inl z), some (.inr (.inr (17, k))), some (.inl (0 : Int32)), some (.inl c), some (.inl t)] (vv.toList ++ []) tt))) ∧ (¬ ((0 : Int32) = (0 : Int32)) → _) from ⟨fun _ => ⟨((((((h.2 q0).1 q1).1 q2).2 q3).2 q4).2 q5).1, ⟨am_le rfl, am_le rfl, trivial, ((((((h.2 q0).1 q1).1 q2).2 q3).2 q4).2 q5).2⟩⟩, fun q => absurd (by decide) q⟩)⟩⟩⟩, fun q2 => ⟨fun q3 => ⟨fun q4 => (show (((1 : Int32) = (0 : Int32)) → _) ∧ (¬ ((1 : Int32) = (0 : Int32)) → X 113 [some (.inr (.inr (0, 0))), some (.inl (nI k)), some (.inl b), some (.inl f), some (.inl z), some (.inr (.inr (17, k))), some (.inl (1 : Int32)), some (.inl c), some (.inl t)] [] σ) from ⟨fun q => absurd q (by decide), fun _ => (((((h.2 q0).1 q1).2 q2).1 q3).1 q4)⟩), fun q4 => ⟨fun q5 => (show (((2 : Int32) = (0 : Int32)) → _) ∧ (¬ ((2 : Int32) = (0 : Int32)) → X 113 [some (.inr (.inr (0, 0))), some (.inl (nI k)), some (.inl b), some (.inl f), some (.inl z), some (.inr (.inr (17, k))), some (.inl (2 : Int32)), some (.inl c), some (.inl t)] [] σ) from ⟨fun q => absurd q (by decide), fun _ => ((((((h.2 q0).1 q1).2 q2).1 q3).2 q4).1 q5)⟩), fun q5 => ⟨fun q6 => (show (((2 : Int32) = (0 : Int32)) → _) ∧ (¬ ((2 : Int32) = (0 : Int32)) → X 113 [some (.inr (.inr (0, 0))), some (.inl (nI k)), some (.inl b), some (.inl f), some (.inl z), some (.inr (.inr (17, k))), some (.inl (2 : Int32)), some (.inl c), some (.inl t)] [] σ) from ⟨fun q => absurd q (by decide), fun _ => (((((((h.2 q0).1 q1).2 q2).1 q3).2 q4).2 q5).1 q6)⟩), fun q6 => (show (((0 : Int32) = (0 : Int32)) → (vp_in (f + t) 40) ∧ (2 ≤ 2 ∧ 0 ≤ 8 ∧ True ∧ sX0_takeAboard [.inr (.inr (3, 1)), .inl (σ 18 k (f + t).toNatClampNeg)] σ (fun vv tt => X 101 [some (.inr (.inr (0, 0))), some (.inl (nI k)), some (.inl b), some (.inl f), some (.inl z), some (.inr (.inr (17, k))), some (.inl (0 : Int32)), some (.inl c), some (.inl t)] (vv.toList ++ []) tt))) ∧ (¬ ((0 : Int32) = (0 : Int32)) → _) from ⟨fun _ => ⟨(((((((h.2 q0).1 q1).2 q2).1 q3).2 q4).2 q5).2 q6).1, ⟨am_le rfl, am_le rfl, trivial, (((((((h.2 q0).1 q1).2 q2).1 q3).2 q4).2 q5).2 q6).2⟩⟩, fun q => absurd (by decide) q⟩)⟩⟩⟩, fun q3 => (show (((3 : Int32) = (0 : Int32)) → _) ∧ (¬ ((3 : Int32) = (0 : Int32)) → X 113 [some (.inr (.inr (0, 0))), some (.inl (nI k)), some (.inl b), some (.inl f), some (.inl z), some (.inr (.inr (17, k))), some (.inl (3 : Int32)), some (.inl c), some (.inl t)] [] σ) from ⟨fun q => absurd q (by decide), fun _ => ((((h.2 q0).1 q1).2 q2).2 q3)⟩)⟩⟩)⟩, fun q1 => ((h.2 q0).2 q1)⟩⟩)
set_option maxRecDepth 100000 in
set_option maxHeartbeats 400000 in
theorem b_xr101 {K : Option am_V → am_M → Prop} {X : Nat → am_L → List am_V → am_M → Prop} (hX : am_cl eX6_read lX6_read (some .int) K X) {σ : am_M} (k : Nat) (b f z e c t v : Int32) (h : (((0 : Int32) ≤ v) → X 113 [some (.inr (.inr (0, 0))), some (.inl (nI k)), some (.inl b), some (.inl f), some (.inl z), some (.inr (.inr (17, k))), some (.inl e), some (.inl (c + (1 : Int32))), some (.inl t)] [] σ) ∧ (¬ ((0 : Int32) ≤ v) → K (some (.inl ((-20 : Int32) - t))) σ)) : X 101 [some (.inr (.inr (0, 0))), some (.inl (nI k)), some (.inl b), some (.inl f), some (.inl z), some (.inr (.inr (17, k))), some (.inl e), some (.inl c), some (.inl t)] [.inl v] σ := am_run_ok emX6_read hX [113] 400 (show (((0 : Int32) ≤ v) → X 113 [some (.inr (.inr (0, 0))), some (.inl (nI k)), some (.inl b), some (.inl f), some (.inl z), some (.inr (.inr (17, k))), some (.inl e), some (.inl (c + (1 : Int32))), some (.inl t)] [] σ) ∧ (¬ ((0 : Int32) ≤ v) → K (some (.inl ((-20 : Int32) - t))) σ) from ⟨fun q0 => (h.1 q0), fun q0 => (h.2 q0)⟩)
set_option maxRecDepth 100000 in
set_option maxHeartbeats 400000 in
theorem b_xr113 {K : Option am_V → am_M → Prop} {X : Nat → am_L → List am_V → am_M → Prop} (hX : am_cl eX6_read lX6_read (some .int) K X) {σ : am_M} (k : Nat) (b f z e c t : Int32) (h : X 55 [some (.inr (.inr (0, 0))), some (.inl (nI k)), some (.inl b), some (.inl f), some (.inl z), some (.inr (.inr (17, k))), some (.inl e), some (.inl c), some (.inl (t + (1 : Int32)))] [] σ) : X 113 [some (.inr (.inr (0, 0))), some (.inl (nI k)), some (.inl b), some (.inl f), some (.inl z), some (.inr (.inr (17, k))), some (.inl e), some (.inl c), some (.inl t)] [] σ := am_run_ok emX6_read hX [55] 400 (show X 55 [some (.inr (.inr (0, 0))), some (.inl (nI k)), some (.inl b), some (.inl f), some (.inl z), some (.inr (.inr (17, k))), some (.inl e), some (.inl c), some (.inl (t + (1 : Int32)))] [] σ from h)
set_option maxRecDepth 100000 in
set_option maxHeartbeats 400000 in
theorem b_xr119 {K : Option am_V → am_M → Prop} {X : Nat → am_L → List am_V → am_M → Prop} (hX : am_cl eX6_read lX6_read (some .int) K X) {σ : am_M} (k : Nat) (b f z e c t : Int32) (h : sX0_copyFrom [.inr (.inr (3, 0)), .inr (.inr (3, 1))] σ (fun vv tt => X 130 [some (.inr (.inr (0, 0))), some (.inl (nI k)), some (.inl b), some (.inl f), some (.inl z), some (.inr (.inr (17, k))), some (.inl e), some (.inl c), some (.inl t)] (vv.toList ++ []) tt)) : X 119 [some (.inr (.inr (0, 0))), some (.inl (nI k)), some (.inl b), some (.inl f), some (.inl z), some (.inr (.inr (17, k))), some (.inl e), some (.inl c), some (.inl t)] [] σ := am_run_ok emX6_read hX [130] 400 (show 2 ≤ 2 ∧ 0 ≤ 8 ∧ True ∧ sX0_copyFrom [.inr (.inr (3, 0)), .inr (.inr (3, 1))] σ (fun vv tt => X 130 [some (.inr (.inr (0, 0))), some (.inl (nI k)), some (.inl b), some (.inl f), some (.inl z), some (.inr (.inr (17, k))), some (.inl e), some (.inl c), some (.inl t)] (vv.toList ++ []) tt) from ⟨am_le rfl, am_le rfl, trivial, h⟩)
set_option maxRecDepth 100000 in
set_option maxHeartbeats 400000 in
theorem b_xr130 {K : Option am_V → am_M → Prop} {X : Nat → am_L → List am_V → am_M → Prop} (hX : am_cl eX6_read lX6_read (some .int) K X) {σ : am_M} (k : Nat) (b f z e c t : Int32) (h : K (some (.inl c)) (am_u σ 0 0 11 e)) : X 130 [some (.inr (.inr (0, 0))), some (.inl (nI k)), some (.inl b), some (.inl f), some (.inl z), some (.inr (.inr (17, k))), some (.inl e), some (.inl c), some (.inl t)] [] σ := am_run_ok emX6_read hX [] 400 (show K (some (.inl c)) (am_u σ 0 0 11 e) from h)
set_option maxRecDepth 100000 in
set_option maxHeartbeats 400000 in
theorem b_yr0 {K : Option am_V → am_M → Prop} {X : Nat → am_L → List am_V → am_M → Prop} (hX : am_cl eX7_read lX7_read (some .int) K X) {σ : am_M} (a b f z : Int32) (h : ((a < (0 : Int32)) → K (some (.inl (-1 : Int32))) σ) ∧ (¬ (a < (0 : Int32)) → (((3 : Int32) < a) → K (some (.inl (-1 : Int32))) σ) ∧ (¬ ((3 : Int32) < a) → ((b < (0 : Int32)) → K (some (.inl (-1 : Int32))) σ) ∧ (¬ (b < (0 : Int32)) → (((2 : Int32) < b) → K (some (.inl (-1 : Int32))) σ) ∧ (¬ ((2 : Int32) < b) → ((z < (0 : Int32)) → K (some (.inl (-1 : Int32))) σ) ∧ (¬ (z < (0 : Int32)) → (((20 : Int32) < z) → K (some (.inl (-1 : Int32))) σ) ∧ (¬ ((20 : Int32) < z) → sX7_copies [.inr (.inr (20, 0)), .inl (0 : Int32), .inl (204 : Int32)] σ (fun vv tt => X 47 [some (.inr (.inr (20, 0))), some (.inl a), some (.inl b), some (.inl f), some (.inl z), none, none] (vv.toList ++ []) tt)))))))) : X 0 [some (.inr (.inr (20, 0))), some (.inl a), some (.inl b), some (.inl f), some (.inl z), none, none] [] σ := am_run_ok emX7_read hX [47] 400 (show 3 ≤ 3 ∧ 0 ≤ 8 ∧ sX7_in [.inr (.inl (a).toInt64), .inr (.inl (0 : Int64)), .inr (.inl (3 : Int64))] σ (fun vv tt => am_run eX7_read lX7_read (some .int) K X [47] 395 9 [some (.inr (.inr (20, 0))), some (.inl a), some (.inl b), some (.inl f), some (.inl z), none, none] (vv.toList ++ []) tt) from ⟨am_le rfl, am_le rfl, uX7_in (v := a) (a := (0 : Int32)) (b := (3 : Int32)) (⟨fun q0 => (show (((0 : Int32) = (0 : Int32)) → K (some (.inl (-1 : Int32))) σ) ∧ (¬ ((0 : Int32) = (0 : Int32)) → _) from ⟨fun _ => (h.1 q0), fun q => absurd (by decide) q⟩), fun q0 => ⟨fun q1 => (show (((0 : Int32) = (0 : Int32)) → K (some (.inl (-1 : Int32))) σ) ∧ (¬ ((0 : Int32) = (0 : Int32)) → _) from ⟨fun _ => ((h.2 q0).1 q1), fun q => absurd (by decide) q⟩), fun q1 => (show (((1 : Int32) = (0 : Int32)) → _) ∧ (¬ ((1 : Int32) = (0 : Int32)) → 3 ≤ 3 ∧ 0 ≤ 8 ∧ sX7_in [.inr (.inl (b).toInt64), .inr (.inl (0 : Int64)), .inr (.inl (2 : Int64))] σ (fun vv tt => am_run eX7_read lX7_read (some .int) K X [47] 389 21 [some (.inr (.inr (20, 0))), some (.inl a), some (.inl b), some (.inl f), some (.inl z), none, none] (vv.toList ++ []) tt)) from ⟨fun q => absurd q (by decide), fun _ => ⟨am_le rfl, am_le rfl, uX7_in (v := b) (a := (0 : Int32)) (b := (2 : Int32)) (⟨fun q2 => (show (((0 : Int32) = (0 : Int32)) → K (some (.inl (-1 : Int32))) σ) ∧ (¬ ((0 : Int32) = (0 : Int32)) → _) from ⟨fun _ => (((h.2 q0).2 q1).1 q2), fun q => absurd (by decide) q⟩), fun q2 => ⟨fun q3 => (show (((0 : Int32) = (0 : Int32)) → K (some (.inl (-1 : Int32))) σ) ∧ (¬ ((0 : Int32) = (0 : Int32)) → _) from ⟨fun _ => ((((h.2 q0).2 q1).2 q2).1 q3), fun q => absurd (by decide) q⟩), fun q3 => (show (((1 : Int32) = (0 : Int32)) → _) ∧ (¬ ((1 : Int32) = (0 : Int32)) → 3 ≤ 3 ∧ 0 ≤ 8 ∧ sX7_in [.inr (.inl (z).toInt64), .inr (.inl (0 : Int64)), .inr (.inl (20 : Int64))] σ (fun vv tt => am_run eX7_read lX7_read (some .int) K X [47] 383 34 [some (.inr (.inr (20, 0))), some (.inl a), some (.inl b), some (.inl f), some (.inl z), none, none] (vv.toList ++ []) tt)) from ⟨fun q => absurd q (by decide), fun _ => ⟨am_le rfl, am_le rfl, uX7_in (v := z) (a := (0 : Int32)) (b := (20 : Int32)) (⟨fun q4 => (show (((0 : Int32) = (0 : Int32)) → K (some (.inl (-1 : Int32))) σ) ∧ (¬ ((0 : Int32) = (0 : Int32)) → _) from ⟨fun _ => (((((h.2 q0).2 q1).2 q2).2 q3).1 q4), fun q => absurd (by decide) q⟩), fun q4 => ⟨fun q5 => (show (((0 : Int32) = (0 : Int32)) → K (some (.inl (-1 : Int32))) σ) ∧ (¬ ((0 : Int32) = (0 : Int32)) → _) from ⟨fun _ => ((((((h.2 q0).2 q1).2 q2).2 q3).2 q4).1 q5), fun q => absurd (by decide) q⟩), fun q5 => (show (((1 : Int32) = (0 : Int32)) → _) ∧ (¬ ((1 : Int32) = (0 : Int32)) → 3 ≤ 3 ∧ 0 ≤ 8 ∧ True ∧ sX7_copies [.inr (.inr (20, 0)), .inl (0 : Int32), .inl (204 : Int32)] σ (fun vv tt => X 47 [some (.inr (.inr (20, 0))), some (.inl a), some (.inl b), some (.inl f), some (.inl z), none, none] (vv.toList ++ []) tt)) from ⟨fun q => absurd q (by decide), fun _ => ⟨am_le rfl, am_le rfl, trivial, ((((((h.2 q0).2 q1).2 q2).2 q3).2 q4).2 q5)⟩⟩)⟩⟩)⟩⟩)⟩⟩)⟩⟩)⟩⟩)⟩)
set_option maxRecDepth 100000 in
set_option maxHeartbeats 400000 in
theorem b_yr47 {K : Option am_V → am_M → Prop} {X : Nat → am_L → List am_V → am_M → Prop} (hX : am_cl eX7_read lX7_read (some .int) K X) {σ : am_M} (a b f z : Int32) (h : X 53 [some (.inr (.inr (20, 0))), some (.inl a), some (.inl b), some (.inl f), some (.inl z), some (.inl (0 : Int32)), some (.inl (0 : Int32))] [] σ) : X 47 [some (.inr (.inr (20, 0))), some (.inl a), some (.inl b), some (.inl f), some (.inl z), none, none] [] σ := am_run_ok emX7_read hX [53] 400 (show X 53 [some (.inr (.inr (20, 0))), some (.inl a), some (.inl b), some (.inl f), some (.inl z), some (.inl (0 : Int32)), some (.inl (0 : Int32))] [] σ from h)
set_option maxRecDepth 100000 in
set_option maxHeartbeats 400000 in
theorem b_yr53 {K : Option am_V → am_M → Prop} {X : Nat → am_L → List am_V → am_M → Prop} (hX : am_cl eX7_read lX7_read (some .int) K X) {σ : am_M} (a b f z e c : Int32) (h : ((z ≤ c) → X 169 [some (.inr (.inr (20, 0))), some (.inl a), some (.inl b), some (.inl f), some (.inl z), some (.inl e), some (.inl c)] [] σ) ∧ (¬ (z ≤ c) → ((e = (0 : Int32)) → (vp_in a 4) ∧ ((((σ 29 0 a.toNatClampNeg) = (-4 : Int32)) → X 121 [some (.inr (.inr (20, 0))), some (.inl a), some (.inl b), some (.inl f), some (.inl z), some (.inl e), some (.inl c)] [.inl (1 : Int32)] σ) ∧ (¬ ((σ 29 0 a.toNatClampNeg) = (-4 : Int32)) → (vp_in a 4) ∧ ((((σ 29 0 a.toNatClampNeg) = b) → (vp_in a 4) ∧ (sX7_in [.inr (.inl ((f).toInt64 + (c).toInt64)), .inr (.inl (0 : Int64)), .inr (.inl (((σ 30 0 a.toNatClampNeg) - (1 : Int32))).toInt64)] σ (fun vv tt => X 113 [some (.inr (.inr (20, 0))), some (.inl a), some (.inl b), some (.inl f), some (.inl z), some (.inl e), some (.inl c)] (vv.toList ++ []) tt))) ∧ (¬ ((σ 29 0 a.toNatClampNeg) = b) → X 121 [some (.inr (.inr (20, 0))), some (.inl a), some (.inl b), some (.inl f), some (.inl z), some (.inl e), some (.inl c)] [.inl (3 : Int32)] σ))))) ∧ (¬ (e = (0 : Int32)) → X 169 [some (.inr (.inr (20, 0))), some (.inl a), some (.inl b), some (.inl f), some (.inl z), some (.inl e), some (.inl c)] [] σ))) : X 53 [some (.inr (.inr (20, 0))), some (.inl a), some (.inl b), some (.inl f), some (.inl z), some (.inl e), some (.inl c)] [] σ := am_run_ok emX7_read hX [113, 121, 169] 400 (show ((z ≤ c) → X 169 [some (.inr (.inr (20, 0))), some (.inl a), some (.inl b), some (.inl f), some (.inl z), some (.inl e), some (.inl c)] [] σ) ∧ (¬ (z ≤ c) → ((e = (0 : Int32)) → (vp_in a 4) ∧ ((((σ 29 0 a.toNatClampNeg) = (-4 : Int32)) → X 121 [some (.inr (.inr (20, 0))), some (.inl a), some (.inl b), some (.inl f), some (.inl z), some (.inl e), some (.inl c)] [.inl (1 : Int32)] σ) ∧ (¬ ((σ 29 0 a.toNatClampNeg) = (-4 : Int32)) → (vp_in a 4) ∧ ((((σ 29 0 a.toNatClampNeg) = b) → (vp_in a 4) ∧ (3 ≤ 3 ∧ 0 ≤ 8 ∧ sX7_in [.inr (.inl ((f).toInt64 + (c).toInt64)), .inr (.inl (0 : Int64)), .inr (.inl (((σ 30 0 a.toNatClampNeg) - (1 : Int32))).toInt64)] σ (fun vv tt => X 113 [some (.inr (.inr (20, 0))), some (.inl a), some (.inl b), some (.inl f), some (.inl z), some (.inl e), some (.inl c)] (vv.toList ++ []) tt))) ∧ (¬ ((σ 29 0 a.toNatClampNeg) = b) → X 121 [some (.inr (.inr (20, 0))), some (.inl a), some (.inl b), some (.inl f), some (.inl z), some (.inl e), some (.inl c)] [.inl (3 : Int32)] σ))))) ∧ (¬ (e = (0 : Int32)) → X 169 [some (.inr (.inr (20, 0))), some (.inl a), some (.inl b), some (.inl f), some (.inl z), some (.inl e), some (.inl c)] [] σ)) from ⟨fun q0 => (h.1 q0), fun q0 => ⟨fun q1 => ⟨((h.2 q0).1 q1).1, ⟨fun q2 => (((h.2 q0).1 q1).2.1 q2), fun q2 => ⟨(((h.2 q0).1 q1).2.2 q2).1, ⟨fun q3 => ⟨((((h.2 q0).1 q1).2.2 q2).2.1 q3).1, ⟨am_le rfl, am_le rfl, ((((h.2 q0).1 q1).2.2 q2).2.1 q3).2⟩⟩, fun q3 => ((((h.2 q0).1 q1).2.2 q2).2.2 q3)⟩⟩⟩⟩, fun q1 => ((h.2 q0).2 q1)⟩⟩)
set_option maxRecDepth 100000 in
set_option maxHeartbeats 400000 in
theorem b_yr113 {K : Option am_V → am_M → Prop} {X : Nat → am_L → List am_V → am_M → Prop} (hX : am_cl eX7_read lX7_read (some .int) K X) {σ : am_M} (a b f z e c v : Int32) (h : ((v = (0 : Int32)) → X 121 [some (.inr (.inr (20, 0))), some (.inl a), some (.inl b), some (.inl f), some (.inl z), some (.inl e), some (.inl c)] [.inl (2 : Int32)] σ) ∧ (¬ (v = (0 : Int32)) → X 121 [some (.inr (.inr (20, 0))), some (.inl a), some (.inl b), some (.inl f), some (.inl z), some (.inl e), some (.inl c)] [.inl (0 : Int32)] σ)) : X 113 [some (.inr (.inr (20, 0))), some (.inl a), some (.inl b), some (.inl f), some (.inl z), some (.inl e), some (.inl c)] [.inl v] σ := am_run_ok emX7_read hX [121] 400 (show ((v = (0 : Int32)) → X 121 [some (.inr (.inr (20, 0))), some (.inl a), some (.inl b), some (.inl f), some (.inl z), some (.inl e), some (.inl c)] [.inl (2 : Int32)] σ) ∧ (¬ (v = (0 : Int32)) → X 121 [some (.inr (.inr (20, 0))), some (.inl a), some (.inl b), some (.inl f), some (.inl z), some (.inl e), some (.inl c)] [.inl (0 : Int32)] σ) from ⟨fun q0 => (h.1 q0), fun q0 => (h.2 q0)⟩)
set_option maxRecDepth 100000 in
set_option maxHeartbeats 400000 in
theorem b_yr121 {K : Option am_V → am_M → Prop} {X : Nat → am_L → List am_V → am_M → Prop} (hX : am_cl eX7_read lX7_read (some .int) K X) {σ : am_M} (a b f z e c v : Int32) (h : ((v = (0 : Int32)) → (vp_in ((((40 : Int32) * a) + f) + c) 160) ∧ (sX7_boarded [.inr (.inr (20, 0)), .inl (σ 31 0 ((((40 : Int32) * a) + f) + c).toNatClampNeg)] σ (fun vv tt => X 146 [some (.inr (.inr (20, 0))), some (.inl a), some (.inl b), some (.inl f), some (.inl z), some (.inl v), some (.inl c)] (vv.toList ++ []) tt))) ∧ (¬ (v = (0 : Int32)) → X 53 [some (.inr (.inr (20, 0))), some (.inl a), some (.inl b), some (.inl f), some (.inl z), some (.inl v), some (.inl c)] [] σ)) : X 121 [some (.inr (.inr (20, 0))), some (.inl a), some (.inl b), some (.inl f), some (.inl z), some (.inl e), some (.inl c)] [.inl v] σ := am_run_ok emX7_read hX [53, 146] 400 (show ((v = (0 : Int32)) → (vp_in ((((40 : Int32) * a) + f) + c) 160) ∧ (2 ≤ 2 ∧ 0 ≤ 8 ∧ True ∧ sX7_boarded [.inr (.inr (20, 0)), .inl (σ 31 0 ((((40 : Int32) * a) + f) + c).toNatClampNeg)] σ (fun vv tt => X 146 [some (.inr (.inr (20, 0))), some (.inl a), some (.inl b), some (.inl f), some (.inl z), some (.inl v), some (.inl c)] (vv.toList ++ []) tt))) ∧ (¬ (v = (0 : Int32)) → X 53 [some (.inr (.inr (20, 0))), some (.inl a), some (.inl b), some (.inl f), some (.inl z), some (.inl v), some (.inl c)] [] σ) from ⟨fun q0 => ⟨(h.1 q0).1, ⟨am_le rfl, am_le rfl, trivial, (h.1 q0).2⟩⟩, fun q0 => (h.2 q0)⟩)
set_option maxRecDepth 100000 in
set_option maxHeartbeats 400000 in
theorem b_yr146 {K : Option am_V → am_M → Prop} {X : Nat → am_L → List am_V → am_M → Prop} (hX : am_cl eX7_read lX7_read (some .int) K X) {σ : am_M} (a b f z e c v : Int32) (h : (((0 : Int32) ≤ v) → X 53 [some (.inr (.inr (20, 0))), some (.inl a), some (.inl b), some (.inl f), some (.inl z), some (.inl e), some (.inl (c + (1 : Int32)))] [] σ) ∧ (¬ ((0 : Int32) ≤ v) → sX7_copies [.inr (.inr (20, 0)), .inl (204 : Int32), .inl (0 : Int32)] σ (fun vv tt => X 157 [some (.inr (.inr (20, 0))), some (.inl a), some (.inl b), some (.inl f), some (.inl z), some (.inl e), some (.inl c)] (vv.toList ++ []) tt))) : X 146 [some (.inr (.inr (20, 0))), some (.inl a), some (.inl b), some (.inl f), some (.inl z), some (.inl e), some (.inl c)] [.inl v] σ := am_run_ok emX7_read hX [53, 157] 400 (show (((0 : Int32) ≤ v) → X 53 [some (.inr (.inr (20, 0))), some (.inl a), some (.inl b), some (.inl f), some (.inl z), some (.inl e), some (.inl (c + (1 : Int32)))] [] σ) ∧ (¬ ((0 : Int32) ≤ v) → 3 ≤ 3 ∧ 0 ≤ 8 ∧ True ∧ sX7_copies [.inr (.inr (20, 0)), .inl (204 : Int32), .inl (0 : Int32)] σ (fun vv tt => X 157 [some (.inr (.inr (20, 0))), some (.inl a), some (.inl b), some (.inl f), some (.inl z), some (.inl e), some (.inl c)] (vv.toList ++ []) tt)) from ⟨fun q0 => (h.1 q0), fun q0 => ⟨am_le rfl, am_le rfl, trivial, (h.2 q0)⟩⟩)
set_option maxRecDepth 100000 in
set_option maxHeartbeats 400000 in
theorem b_yr157 {K : Option am_V → am_M → Prop} {X : Nat → am_L → List am_V → am_M → Prop} (hX : am_cl eX7_read lX7_read (some .int) K X) {σ : am_M} (a b f z e c : Int32) (h : K (some (.inl ((-20 : Int32) - c))) σ) : X 157 [some (.inr (.inr (20, 0))), some (.inl a), some (.inl b), some (.inl f), some (.inl z), some (.inl e), some (.inl c)] [] σ := am_run_ok emX7_read hX [] 400 (show K (some (.inl ((-20 : Int32) - c))) σ from h)
set_option maxRecDepth 100000 in
set_option maxHeartbeats 400000 in
theorem b_yr169 {K : Option am_V → am_M → Prop} {X : Nat → am_L → List am_V → am_M → Prop} (hX : am_cl eX7_read lX7_read (some .int) K X) {σ : am_M} (a b f z e c : Int32) (h : K (some (.inl c)) (am_u σ 20 0 28 e)) : X 169 [some (.inr (.inr (20, 0))), some (.inl a), some (.inl b), some (.inl f), some (.inl z), some (.inl e), some (.inl c)] [] σ := am_run_ok emX7_read hX [] 400 (show K (some (.inl c)) (am_u σ 20 0 28 e) from h)
theorem iv_nowf {σ τ : am_M} {n pl pl' : Nat} (hk : ∀ k, k ≠ 0 → k ≠ 3 → k ≠ 5 → k ≠ 20 → k ≠ 21 → τ k = σ k) (h20 : ∀ j, j = 1 ∨ j = 7 ∨ j = 23 → τ 20 0 j = σ 20 0 j) (h3 : ∀ c, 2 ≤ c → τ 3 c = σ 3 c) (h5 : ∀ i, 18 ≤ i → τ 5 i = σ 5 i) (h21 : ∀ j, 68 ≤ j → j < 204 → τ 21 0 j = σ 21 0 j) (hc : cm τ 0 0 n pl') (hf : iv_flt τ) (h : iv σ n pl) : iv τ n pl' := by
  obtain ⟨h9, a1, a2, a3, a4, a5, a6, a7, a8⟩ := h
  have f : ∀ k, k ≠ 0 ∧ k ≠ 3 ∧ k ≠ 5 ∧ k ≠ 20 ∧ k ≠ 21 → τ k = σ k := fun k c => hk k c.1 c.2.1 c.2.2.1 c.2.2.2.1 c.2.2.2.2
  exact ⟨h9, by rw [h20 1 (by omega)]; exact a1, hc, iv_img_cg h9 (f 15 (by decide)) (f 28 (by decide)) h3 h5 h21 a3, iv_seen_cg (f 11 (by decide)) (f 12 (by decide)) (f 13 (by decide)) (f 27 (by decide)) (h20 23 (by omega)) a4, iv_tape_cg (f 1 (by decide)) (f 2 (by decide)) (f 23 (by decide)) (h20 7 (by omega)) a5, iv_sheet_cg (f 17 (by decide)) (f 18 (by decide)) (f 29 (by decide)) (f 30 (by decide)) (f 31 (by decide)) a6, iv_word_cg (f 24 (by decide)) (f 25 (by decide)) a7, hf⟩
theorem q_lin {f : Int32} {i z : Nat} (hi : i < 20) (hz : z ≤ 40) : (f.toInt64 + (nI i).toInt64 < 0 ∨ (nI z - (1 : Int32)).toInt64 < f.toInt64 + (nI i).toInt64) ↔ (f + nI i < 0 ∨ nI z ≤ f + nI i) := by
  have f1 := Int32.le_toInt f
  have f2 := Int32.toInt_lt f
  have e1 : (f.toInt64 + (nI i).toInt64).toInt = f.toInt + i := by
    rw [Int64.toInt_add, Int32.toInt_toInt64, Int32.toInt_toInt64, nI_toInt (by omega)]
    unfold Int.bmod
    simp only []
    omega
  have e2 : (nI z - (1 : Int32)).toInt64.toInt = (z : Int) - 1 := by
    rw [Int32.toInt_toInt64, show nI z - (1 : Int32) = nI z - nI 1 from rfl, pk_sub_toInt (by omega) (by decide)]
    rfl
  have e3 : (f + nI i).toInt = if f.toInt + i < 2 ^ 31 then f.toInt + i else f.toInt + i - 2 ^ 32 := by
    rw [Int32.toInt_add, nI_toInt (by omega)]
    unfold Int.bmod
    simp only []
    split <;> split <;> omega
  have z0 : (0 : Int64).toInt = 0 := rfl
  have y0 : (0 : Int32).toInt = 0 := rfl
  rw [Int64.lt_iff_toInt_lt, Int64.lt_iff_toInt_lt, Int32.lt_iff_toInt_lt, Int32.le_iff_toInt_le, e1, e2, e3, z0, y0, nI_toInt (by omega)]
  split <;> omega
def rf (s1 s2 s3 b f : Int32) (i : Nat) : Int32 := if s1 = 0 then 1 else if s2 = b then (if f + nI i < 0 then 2 else if s3 ≤ f + nI i then 2 else 0) else 3
def rok (n : Nat) (r : Rw) (v : Int32) : Bool := decide (¬ v < 0) && (decide (¬ nI n ≤ v) && p_ok r n v.toNatClampNeg)
def rr (n pl : Nat) (r : Rw) (bt : Int32) (cl : Nat → Int32) : Nat → Rw × Int32
  | 0 => (r, bt)
  | i + 1 => p_brd n pl (rr n pl r bt cl i).1 (rr n pl r bt cl i).2 (cl i).toNatClampNeg
def ro (n pl : Nat) (r : Rw) (bt : Int32) (cl fl : Nat → Int32) : Nat → Nat → Bool × Int32 × Nat
  | 0, i => (true, 0, i)
  | u + 1, i => if fl i = 0 then (if rok n (rr n pl r bt cl i).1 (cl i) = true then ro n pl r bt cl fl u (i + 1) else (false, 0, i)) else (true, fl i, i)
theorem rr_ok {n pl : Nat} {r : Rw} {bt : Int32} {cl : Nat → Int32} (h : r_ok r n) : ∀ i, r_ok (rr n pl r bt cl i).1 n
  | 0 => h
  | i + 1 => rok_brd (rr_ok h i)
theorem rr_at {n pl : Nat} {r : Rw} {bt : Int32} {cl : Nat → Int32} {q j : Nat} (h : j ≠ 6) : ∀ i, (rr n pl r bt cl i).1 q j = r q j
  | 0 => rfl
  | i + 1 => (p_brd_at h).trans (rr_at h i)
theorem t_res_lt {r : Rw} {n pl p : Nat} (hpl : pl ≤ 5) (hi : p_inv r n pl) : (0 : Int32) ≤ t_res r n pl p ↔ p_ok r n p = true := by
  unfold t_res p_inv at *
  by_cases c : r p 6 = 1
  · rw [if_pos c]
    by_cases ok : p_ok r n p = true
    · rw [if_pos ok]
      split
      · exact ⟨fun _ => ok, fun _ => by decide⟩
      · exact ⟨fun _ => ok, fun _ => nI_pos' (by omega)⟩
    · rw [if_neg ok]
      exact ⟨fun q => absurd q (by decide), fun q => absurd q ok⟩
  · rw [if_neg c]
    refine ⟨fun q => absurd q (by decide), fun q => ?_⟩
    unfold p_ok at q
    simp at q
    exact absurd q.1 c
theorem t_res_lt2 {r : Rw} {n pl p : Nat} : (0 : Int32) ≤ t_res r n pl p ↔ p_ok r n p = true := by
  have h9 := q_pop_le (p_who r n 2) 9
  unfold t_res
  by_cases c : r p 6 = 1
  · rw [if_pos c]
    by_cases ok : p_ok r n p = true
    · rw [if_pos ok]
      split
      · exact ⟨fun _ => ok, fun _ => by decide⟩
      · exact ⟨fun _ => ok, fun _ => nI_pos' (by omega)⟩
    · rw [if_neg ok]
      exact ⟨fun q => absurd q (by decide), fun q => absurd q ok⟩
  · rw [if_neg c]
    refine ⟨fun q => absurd q (by decide), fun q => ?_⟩
    unfold p_ok at q
    simp at q
    exact absurd q.1 c
theorem tX6_readL {σ : am_M} {n pl k m : Nat} {b f : Int32} {X : Nat → am_L → List am_V → am_M → Prop} {K : am_K} (hX : am_cl eX6_read lX6_read (some .int) K X) (hv : iv σ n pl) (hk : k < 4) (hm : m ≤ 20) (r : Rw) (hrr : r = c_r (c_cp σ 1 0 n) 1) (cl fl : Nat → Int32) (hcl : cl = fun i => σ 18 k (f + nI i).toNatClampNeg) (hfl : fl = rf (σ 17 k 1) (σ 17 k 2) (σ 17 k 3) b f) (hE : ∀ t e, ro n pl r (σ 3 0 6) cl fl m 0 = (true, e, t) → p_inv (rr n pl r (σ 3 0 6) cl t).1 n pl → K (some (.inl (nI t))) (am_u (c_cp (c_set (c_cp σ 1 0 n) 1 n (rr n pl r (σ 3 0 6) cl t).1 (σ 3 0 5) (rr n pl r (σ 3 0 6) cl t).2) 0 1 n) 0 0 11 e)) (hF : ∀ t, ro n pl r (σ 3 0 6) cl fl m 0 = (false, 0, t) → K (some (.inl ((-20 : Int32) - nI t))) (c_set (c_cp σ 1 0 n) 1 n (rr n pl r (σ 3 0 6) cl t).1 (σ 3 0 5) (rr n pl r (σ 3 0 6) cl t).2)) : X 46 [some (am_r 0 0), some (.inl (nI k)), some (.inl b), some (.inl f), some (.inl (nI m)), some (am_r 17 k), none, none, none] [] (c_cp σ 1 0 n) := by
  obtain ⟨h9, a1, a2, a3, a4, a5, a6, a7, a8⟩ := id hv
  obtain ⟨b1, b2, b3, b4, b5, b6, b7, b8, b9, b10, b11⟩ := id a2
  obtain ⟨t1, t2, t3, t4, t5, t6, t7⟩ := iv_tri hv
  obtain ⟨cn1, ck1⟩ := c_n_of t1 h9
  refine b_xr46 hX _ _ _ _ ?_
  have e0 : c_cp σ 1 0 n = c_set (c_cp σ 1 0 n) 1 n (rr n pl r (σ 3 0 6) cl 0).1 (σ 3 0 5) (rr n pl r (σ 3 0 6) cl 0).2 := by
    show _ = c_set (c_cp σ 1 0 n) 1 n r (σ 3 0 5) (σ 3 0 6)
    rw [hrr, ← t3, ← t4]
    exact c_set_id.symm
  rw [← hrr] at t5 t6 t7
  have k17 : ∀ i, c_set (c_cp σ 1 0 n) 1 n (rr n pl r (σ 3 0 6) cl i).1 (σ 3 0 5) (rr n pl r (σ 3 0 6) cl i).2 17 = σ 17 := fun i => by rw [c_set_k (by decide) (by decide), c_cp_k (by decide) (by decide)]
  have k18 : ∀ i, c_set (c_cp σ 1 0 n) 1 n (rr n pl r (σ 3 0 6) cl i).1 (σ 3 0 5) (rr n pl r (σ 3 0 6) cl i).2 18 = σ 18 := fun i => by rw [c_set_k (by decide) (by decide), c_cp_k (by decide) (by decide)]
  have k31 : ∀ i, c_set (c_cp σ 1 0 n) 1 n (rr n pl r (σ 3 0 6) cl i).1 (σ 3 0 5) (rr n pl r (σ 3 0 6) cl i).2 3 1 1 = nI n := fun i => by rw [c_set_j (by decide) (by decide)]; exact t1
  have exit : ∀ i (e t : Int32), (K (some (.inl (nI i))) (am_u (c_cp (c_set (c_cp σ 1 0 n) 1 n (rr n pl r (σ 3 0 6) cl i).1 (σ 3 0 5) (rr n pl r (σ 3 0 6) cl i).2) 0 1 n) 0 0 11 e)) → X 119 [some (am_r 0 0), some (.inl (nI k)), some (.inl b), some (.inl f), some (.inl (nI m)), some (am_r 17 k), some (.inl e), some (.inl (nI i)), some (.inl t)] [] (c_set (c_cp σ 1 0 n) 1 n (rr n pl r (σ 3 0 6) cl i).1 (σ 3 0 5) (rr n pl r (σ 3 0 6) cl i).2) := fun i e t h => b_xr119 hX _ _ _ _ _ _ _ (uX0_copyFrom (by decide) (k31 i) h9 (b_xr130 hX _ _ _ _ _ _ _ h))
  have loop := q_dn (W := fun i => p_inv (rr n pl r (σ 3 0 6) cl i).1 n pl → (∀ t e, ro n pl r (σ 3 0 6) cl fl (m - i) i = (true, e, t) → p_inv (rr n pl r (σ 3 0 6) cl t).1 n pl → K (some (.inl (nI t))) (am_u (c_cp (c_set (c_cp σ 1 0 n) 1 n (rr n pl r (σ 3 0 6) cl t).1 (σ 3 0 5) (rr n pl r (σ 3 0 6) cl t).2) 0 1 n) 0 0 11 e)) → (∀ t, ro n pl r (σ 3 0 6) cl fl (m - i) i = (false, 0, t) → K (some (.inl ((-20 : Int32) - nI t))) (c_set (c_cp σ 1 0 n) 1 n (rr n pl r (σ 3 0 6) cl t).1 (σ 3 0 5) (rr n pl r (σ 3 0 6) cl t).2)) → X 55 [some (am_r 0 0), some (.inl (nI k)), some (.inl b), some (.inl f), some (.inl (nI m)), some (am_r 17 k), some (.inl (0 : Int32)), some (.inl (nI i)), some (.inl (nI i))] [] (c_set (c_cp σ 1 0 n) 1 n (rr n pl r (σ 3 0 6) cl i).1 (σ 3 0 5) (rr n pl r (σ 3 0 6) cl i).2)) (n := m) (fun i hi IH hp hE hF => ?_) (fun hp hE hF => ?_) 0 (Nat.zero_le _) t6 hE hF
  · rw [e0]
    exact loop
  · have hu : m - i = (m - (i + 1)) + 1 := by omega
    have bad : ∀ e : Int32, fl i = e → ¬ e = 0 → X 113 [some (am_r 0 0), some (.inl (nI k)), some (.inl b), some (.inl f), some (.inl (nI m)), some (am_r 17 k), some (.inl e), some (.inl (nI i)), some (.inl (nI i))] [] (c_set (c_cp σ 1 0 n) 1 n (rr n pl r (σ 3 0 6) cl i).1 (σ 3 0 5) (rr n pl r (σ 3 0 6) cl i).2) := by
      intro e he hne
      have hx := exit i e (nI i + 1) (hE i e (by
        rw [hu]
        show (if fl i = 0 then _ else (true, fl i, i)) = _
        rw [he, if_neg hne]) hp)
      exact b_xr113 hX _ _ _ _ _ _ _ (b_xr55 hX _ _ _ _ _ _ _ ⟨fun _ => hx, fun _ => ⟨fun q => absurd q hne, fun _ => hx⟩⟩)
    refine b_xr55 hX _ _ _ _ _ _ _ ?_
    rw [k17, k18, nI_leI (by omega) (by omega)]
    refine ⟨fun q => absurd q (by omega), fun _ => ⟨fun _ => ⟨fun c => ⟨fun _ => bad _ (by rw [hfl]; unfold rf; rw [if_pos c]) (by decide), fun q => absurd c q⟩, fun c => ⟨fun c2 => ⟨fun q => absurd q c, fun _ => ⟨fun c3 => bad _ (by rw [hfl]; unfold rf; rw [if_neg c, if_pos c2, if_pos c3]) (by decide), fun c3 => ⟨fun c4 => bad _ (by rw [hfl]; unfold rf; rw [if_neg c, if_pos c2, if_neg c3, if_pos c4]) (by decide), fun c4 => ?_⟩⟩⟩, fun c2 => bad _ (by rw [hfl]; unfold rf; rw [if_neg c, if_neg c2]) (by decide)⟩⟩, fun q => absurd rfl q⟩⟩
    have f0 : fl i = 0 := by
      rw [hfl]
      unfold rf
      rw [if_neg c, if_pos c2, if_neg c3, if_neg c4]
    rcases a6 k hk with w | ⟨w1, w2, w3, z, w4, w5, w6, w7⟩
    · exact absurd w.1 c
    rw [w5] at c4
    rcases pk_ix (f + nI i) (n := z) (by omega) with q | q | ⟨j, hj, ej⟩
    · exact absurd q c3
    · exact absurd q c4
    refine ⟨by rw [ej]; exact q_in (by omega) (by decide), ?_⟩
    have ecl : σ 18 k (f + nI i).toNatClampNeg = cl i := by rw [hcl]
    rw [ecl]
    have ros : ro n pl r (σ 3 0 6) cl fl (m - i) i = if rok n (rr n pl r (σ 3 0 6) cl i).1 (cl i) = true then ro n pl r (σ 3 0 6) cl fl (m - (i + 1)) (i + 1) else (false, 0, i) := by
      rw [hu]
      show (if fl i = 0 then _ else (true, fl i, i)) = _
      rw [if_pos f0]
    rcases pk_ix (cl i) (n := n) (by omega) with q | q | ⟨p, hp', ep⟩
    · refine tX0_takeNone (Or.inl q) (b_xr101 hX _ _ _ _ _ _ _ _ ⟨fun q => absurd q (by decide), fun _ => hF i ?_⟩)
      rw [ros, if_neg]
      unfold rok
      simp [q]
    · refine tX0_takeNone (Or.inr (by rw [k31]; exact q)) (b_xr101 hX _ _ _ _ _ _ _ _ ⟨fun q => absurd q (by decide), fun _ => hF i ?_⟩)
      rw [ros, if_neg]
      unfold rok
      simp [q]
    · have er : rok n (rr n pl r (σ 3 0 6) cl i).1 (cl i) = p_ok (rr n pl r (σ 3 0 6) cl i).1 n p := by
        unfold rok
        rw [ep, nI_clamp (by omega), decide_eq_true (nI_pos (by omega)), decide_eq_true (nI_ge hp' (by omega))]
        rfl
      rw [er] at ros
      rw [ep]
      have ps := tX0_takeAboard (σ := c_cp σ 1 0 n) (c := 1) (pl := pl) (i := p) (r := (rr n pl r (σ 3 0 6) cl i).1) (hr := σ 3 0 5) (bt := (rr n pl r (σ 3 0 6) cl i).2) (K := fun vv tt => X 101 [some (am_r 0 0), some (.inl (nI k)), some (.inl b), some (.inl f), some (.inl (nI m)), some (am_r 17 k), some (.inl (0 : Int32)), some (.inl (nI i)), some (.inl (nI i))] (vv.toList ++ []) tt) ck1 t2 b5.2 (by rw [cn1]; exact hp') (by rw [cn1]; exact hp) (by
        rw [cn1]
        refine b_xr101 hX _ _ _ _ _ _ _ _ ?_
        rw [t_res_lt2]
        refine ⟨fun ok => b_xr113 hX _ _ _ _ _ _ _ ?_, fun ok => ?_⟩
        · rw [if_pos ok] at ros
          rw [show nI i + (1 : Int32) = nI (i + 1) from nI_add i 1]
          have es : p_brd n pl (rr n pl r (σ 3 0 6) cl i).1 (rr n pl r (σ 3 0 6) cl i).2 p = rr n pl r (σ 3 0 6) cl (i + 1) := by
            show _ = p_brd n pl (rr n pl r (σ 3 0 6) cl i).1 (rr n pl r (σ 3 0 6) cl i).2 (cl i).toNatClampNeg
            rw [ep, nI_clamp (by omega)]
          rw [es]
          refine IH ?_ (fun t e h => hE t e (ros.trans h)) (fun t h => hF t (ros.trans h))
          rw [← es]
          exact p_inv_brd h9 hp' hp
        · rw [if_neg ok] at ros
          rw [t_res_no ok]
          exact hF i ros)
      rw [cn1] at ps
      exact ps
  · refine b_xr55 hX _ _ _ _ _ _ _ ⟨fun _ => exit m 0 (nI m) (hE m 0 (by rw [Nat.sub_self]; rfl) hp), fun q => absurd (nI_le (Nat.le_refl _) (by omega)) q⟩
theorem uX7_boarded {τ : am_M} {n pl p : Nat} {r : Rw} {hr bt : Int32} {K : am_K} (a1 : τ 20 0 1 = nI n) (h9 : n ≤ 9) (hpl : τ 21 0 63 + 3 = nI pl) (h5 : pl ≤ 5) (hp : p < n) (h : K (some (.inl (t_res r n pl p))) (m_set τ 0 n (p_brd n pl r bt p).1 hr (p_brd n pl r bt p).2)) : sX7_boarded [am_r 20 0, .inl (nI p)] (m_set τ 0 n r hr bt) K := by
  obtain ⟨hn, ho⟩ := m_n_of a1 h9
  refine ⟨am_le rfl, fun Y hY => b_bb0 hY _ ?_⟩
  have e6 : m_set τ 0 n r hr bt 21 0 (7 * p + 6) = r p 6 := by
    have := m_set_r (σ := τ) (g := 0) (n := n) (r := r) (hr := hr) (bt := bt) (p := p) (j := 6) hp (by decide)
    rw [Nat.zero_add] at this
    exact this
  rw [m_set_k (by decide), a1, q_m1 (by omega), m_071, nI_clamp (by omega), e6]
  refine ⟨fun q => absurd q (nI_pos (by omega)), fun _ => ⟨fun q => absurd q (nI_ge hp (by omega)), fun _ => ⟨q_in (by omega) (by decide), fun c3 => ?_, fun c3 => ?_⟩⟩⟩
  · have ps := tX7_boards (σ := τ) (g := 0) (pl := pl) (p := p) (r := r) (hr := hr) (bt := bt) (K := fun vv tt => Y 29 [some (am_r 20 0), some (.inl (nI p))] (vv.toList ++ []) tt) (by decide) ho hpl h5 (by rw [hn]; exact hp) (Or.inl rfl) (by
      rw [hn]
      refine b_bb29 hY _ _ ⟨fun q => ?_, fun q => ⟨m_ok_set ho, p_who_lt (by rw [m_n_set, hn]; exact h9), ?_⟩⟩
      · have ok : ¬ p_ok r n p = true := fun ok => by
          rw [ok] at q
          exact absurd q (by decide)
        unfold t_res at h
        rw [if_pos c3, if_neg ok] at h
        exact h
      · have ok : p_ok r n p = true := by
          cases ok : p_ok r n p
          · rw [ok] at q
            exact absurd rfl q
          · rfl
        rw [m_n_set, hn, m_who_set, t_res_ok h9 hp ok]
        exact h)
    rw [hn] at ps
    exact ps
  · have ok : ¬ p_ok r n p = true := fun q => by
      unfold p_ok at q
      simp at q
      exact c3 q.1
    rw [t_res_no ok] at h
    unfold t_res at h
    rw [if_neg c3] at h
    exact h
theorem uX7_boardedN {τ : am_M} {n : Nat} {v : Int32} {K : am_K} (a1 : τ 20 0 1 = nI n) (h9 : n ≤ 9) (q : v < 0 ∨ nI n ≤ v) (h : K (some (.inl (-1 : Int32))) τ) : sX7_boarded [am_r 20 0, .inl v] τ K := by
  refine ⟨am_le rfl, fun Y hY => b_bb0 hY _ ?_⟩
  rw [a1, q_m1 (by omega)]
  exact ⟨fun _ => h, fun c1 => ⟨fun _ => h, fun c2 => (q.elim c1 c2).elim⟩⟩
theorem uX7_in64 {σ : am_M} {v b : Int64} {K : am_K} (h : ((v < 0 ∨ b < v) → K (some (.inl (0 : Int32))) σ) ∧ (¬ (v < 0 ∨ b < v) → K (some (.inl (1 : Int32))) σ)) : sX7_in [.inr (.inl v), .inr (.inl (0 : Int64)), .inr (.inl b)] σ K := by
  apply tX7_in
  rw [q_cmp_lt, q_cmp_gt]
  exact ⟨fun q => h.1 (Or.inl q), fun q => ⟨fun q' => h.1 (Or.inr q'), fun q' => h.2 (fun w => w.elim q q')⟩⟩
theorem tX7_readL {σ τ : am_M} {n pl k m : Nat} {b f : Int32} {X : Nat → am_L → List am_V → am_M → Prop} {K : am_K} (hX : am_cl eX7_read lX7_read (some .int) K X) (hv : iv σ n pl) (hk : k < 4) (hm : m ≤ 20) (e20 : τ 20 = σ 20) (e21 : τ 21 = σ 21) (e29 : τ 29 = σ 29) (e30 : τ 30 = σ 30) (e31 : τ 31 = σ 31) (r : Rw) (hr : ∀ p j, p < n → j < 7 → r p j = c_r σ 0 p j) (cl fl : Nat → Int32) (hcl : cl = fun i => σ 18 k (f + nI i).toNatClampNeg) (hfl : fl = rf (σ 17 k 1) (σ 17 k 2) (σ 17 k 3) b f) (hE : ∀ t e, ro n pl r (σ 3 0 6) cl fl m 0 = (true, e, t) → K (some (.inl (nI t))) (am_u (m_set (m_cp τ 0 204 68) 0 n (rr n pl r (σ 3 0 6) cl t).1 (σ 3 0 5) (rr n pl r (σ 3 0 6) cl t).2) 20 0 28 e)) (hF : ∀ t, ro n pl r (σ 3 0 6) cl fl m 0 = (false, 0, t) → K (some (.inl ((-20 : Int32) - nI t))) (m_cp (m_set (m_cp τ 0 204 68) 0 n (rr n pl r (σ 3 0 6) cl t).1 (σ 3 0 5) (rr n pl r (σ 3 0 6) cl t).2) 204 0 68)) : X 47 [some (am_r 20 0), some (.inl (nI k)), some (.inl b), some (.inl f), some (.inl (nI m)), none, none] [] (m_cp τ 0 204 68) := by
  obtain ⟨h9, a1, a2, a3, a4, a5, a6, a7, a8⟩ := id hv
  obtain ⟨b1, b2, b3, b4, b5, b6, b7, b8, b9, b10, b11⟩ := id a2
  have vk : vp_in (nI k) 4 := q_in (by omega) (by decide)
  refine b_yr47 hX _ _ _ _ ?_
  have p21 : ∀ j, j < 68 → m_cp τ 0 204 68 21 0 j = σ 21 0 j := fun j hj => by rw [m_cp_i, if_neg (by omega), e21]
  have e0 : m_cp τ 0 204 68 = m_set (m_cp τ 0 204 68) 0 n (rr n pl r (σ 3 0 6) cl 0).1 (σ 3 0 5) (rr n pl r (σ 3 0 6) cl 0).2 := by
    show _ = m_set (m_cp τ 0 204 68) 0 n r (σ 3 0 5) (σ 3 0 6)
    have em : ∀ p j, p < n → j < 7 → r p j = m_r (m_cp τ 0 204 68) 0 p j := fun p j hp hj => by
      rw [hr p j hp hj, b2 p j hp hj]
      unfold m_r
      rw [p21 _ (by omega)]
    rw [m_set_cg h9 em, b8.1, b9, ← p21 (0 + 66) (by decide), ← p21 (0 + 67) (by decide)]
    exact (m_set_id h9).symm
  have a1' : m_cp τ 0 204 68 20 0 1 = nI n := by
    rw [m_cp_k (by decide), e20]
    exact a1
  have q20 : ∀ i, m_set (m_cp τ 0 204 68) 0 n (rr n pl r (σ 3 0 6) cl i).1 (σ 3 0 5) (rr n pl r (σ 3 0 6) cl i).2 20 = σ 20 := fun i => by rw [m_set_k (by decide), m_cp_k (by decide), e20]
  have q29 : ∀ i, m_set (m_cp τ 0 204 68) 0 n (rr n pl r (σ 3 0 6) cl i).1 (σ 3 0 5) (rr n pl r (σ 3 0 6) cl i).2 29 = σ 29 := fun i => by rw [m_set_k (by decide), m_cp_k (by decide), e29]
  have q30 : ∀ i, m_set (m_cp τ 0 204 68) 0 n (rr n pl r (σ 3 0 6) cl i).1 (σ 3 0 5) (rr n pl r (σ 3 0 6) cl i).2 30 = σ 30 := fun i => by rw [m_set_k (by decide), m_cp_k (by decide), e30]
  have q31 : ∀ i, m_set (m_cp τ 0 204 68) 0 n (rr n pl r (σ 3 0 6) cl i).1 (σ 3 0 5) (rr n pl r (σ 3 0 6) cl i).2 31 = σ 31 := fun i => by rw [m_set_k (by decide), m_cp_k (by decide), e31]
  have loop := q_dn (W := fun i => (∀ t e, ro n pl r (σ 3 0 6) cl fl (m - i) i = (true, e, t) → K (some (.inl (nI t))) (am_u (m_set (m_cp τ 0 204 68) 0 n (rr n pl r (σ 3 0 6) cl t).1 (σ 3 0 5) (rr n pl r (σ 3 0 6) cl t).2) 20 0 28 e)) → (∀ t, ro n pl r (σ 3 0 6) cl fl (m - i) i = (false, 0, t) → K (some (.inl ((-20 : Int32) - nI t))) (m_cp (m_set (m_cp τ 0 204 68) 0 n (rr n pl r (σ 3 0 6) cl t).1 (σ 3 0 5) (rr n pl r (σ 3 0 6) cl t).2) 204 0 68)) → X 53 [some (am_r 20 0), some (.inl (nI k)), some (.inl b), some (.inl f), some (.inl (nI m)), some (.inl (0 : Int32)), some (.inl (nI i))] [] (m_set (m_cp τ 0 204 68) 0 n (rr n pl r (σ 3 0 6) cl i).1 (σ 3 0 5) (rr n pl r (σ 3 0 6) cl i).2)) (n := m) (fun i hi IH hE hF => ?_) (fun hE hF => ?_) 0 (Nat.zero_le _) hE hF
  · rw [e0]
    exact loop
  · have hu : m - i = (m - (i + 1)) + 1 := by omega
    have bad : ∀ e : Int32, fl i = e → ¬ e = 0 → X 121 [some (am_r 20 0), some (.inl (nI k)), some (.inl b), some (.inl f), some (.inl (nI m)), some (.inl (0 : Int32)), some (.inl (nI i))] [.inl e] (m_set (m_cp τ 0 204 68) 0 n (rr n pl r (σ 3 0 6) cl i).1 (σ 3 0 5) (rr n pl r (σ 3 0 6) cl i).2) := by
      intro e he hne
      have hx := b_yr169 hX (nI k) b f (nI m) e (nI i) (hE i e (by
        rw [hu]
        show (if fl i = 0 then _ else (true, fl i, i)) = _
        rw [he, if_neg hne]))
      exact b_yr121 hX _ _ _ _ _ _ _ ⟨fun q => absurd q hne, fun _ => b_yr53 hX _ _ _ _ _ _ ⟨fun _ => hx, fun _ => ⟨fun q => absurd q hne, fun _ => hx⟩⟩⟩
    refine b_yr53 hX _ _ _ _ _ _ ?_
    rw [nI_clamp (by omega), q29, q30, nI_leI (by omega) (by omega)]
    refine ⟨fun q => absurd q (by omega), fun _ => ⟨fun _ => ⟨vk, ?_⟩, fun q => absurd rfl q⟩⟩
    rcases a6 k hk with w | ⟨w1, w2, w3, z, w4, w5, w6, w7⟩
    · exact ⟨fun _ => bad _ (by rw [hfl]; unfold rf; rw [if_pos w.1]) (by decide), fun q => absurd w.2 q⟩
    have ne4 : ¬ σ 29 0 k = -4 := fun q => by
      rw [← w2] at q
      obtain ⟨e, l⟩ := w3
      rw [q] at e
      exact absurd e (by decide)
    have w10 : ¬ σ 17 k 1 = 0 := by
      rw [w1]
      decide
    refine ⟨fun q => absurd q ne4, fun _ => ⟨vk, ?_⟩⟩
    rw [← w2, w6]
    refine ⟨fun c2 => ⟨vk, uX7_in64 ?_⟩, fun c2 => bad _ (by rw [hfl]; unfold rf; rw [if_neg w10, if_neg c2]) (by decide)⟩
    rw [q_lin (by omega) w4]
    refine ⟨fun q => b_yr113 hX _ _ _ _ _ _ _ ⟨fun _ => bad _ ?_ (by decide), fun q => absurd rfl q⟩, fun q => b_yr113 hX _ _ _ _ _ _ _ ⟨fun q => absurd q (by decide), fun _ => b_yr121 hX _ _ _ _ _ _ _ ⟨fun _ => ?_, fun q => absurd rfl q⟩⟩⟩
    · rw [hfl]
      unfold rf
      rw [if_neg w10, if_pos c2, w5]
      by_cases c3 : f + nI i < 0
      · rw [if_pos c3]
      · rw [if_neg c3, if_pos (q.resolve_left c3)]
    have c3 : ¬ f + nI i < 0 := fun w => q (Or.inl w)
    have c4 : ¬ nI z ≤ f + nI i := fun w => q (Or.inr w)
    have f0 : fl i = 0 := by
      rw [hfl]
      unfold rf
      rw [if_neg w10, if_pos c2, if_neg c3, w5, if_neg c4]
    rcases pk_ix (f + nI i) (n := z) (by omega) with q | q | ⟨j, hj, ej⟩
    · exact absurd q c3
    · exact absurd q c4
    have ecl : σ 31 0 (40 * k + j) = cl i := by
      rw [hcl, ← w7 j (by omega)]
      show _ = σ 18 k (f + nI i).toNatClampNeg
      rw [ej, nI_clamp (by omega)]
    rw [show (40 : Int32) * nI k = nI (40 * k) from pk_mul 40 k, Int32.add_assoc, ej, nI_add, nI_clamp (by omega), q31, ecl]
    refine ⟨q_in (by omega) (by decide), ?_⟩
    have ros : ro n pl r (σ 3 0 6) cl fl (m - i) i = if rok n (rr n pl r (σ 3 0 6) cl i).1 (cl i) = true then ro n pl r (σ 3 0 6) cl fl (m - (i + 1)) (i + 1) else (false, 0, i) := by
      rw [hu]
      show (if fl i = 0 then _ else (true, fl i, i)) = _
      rw [if_pos f0]
    have fail : ∀ v : Int32, ¬ (0 : Int32) ≤ v → ¬ rok n (rr n pl r (σ 3 0 6) cl i).1 (cl i) = true → X 146 [some (am_r 20 0), some (.inl (nI k)), some (.inl b), some (.inl f), some (.inl (nI m)), some (.inl (0 : Int32)), some (.inl (nI i))] [.inl v] (m_set (m_cp τ 0 204 68) 0 n (rr n pl r (σ 3 0 6) cl i).1 (σ 3 0 5) (rr n pl r (σ 3 0 6) cl i).2) := fun v hv' hn' => b_yr146 hX _ _ _ _ _ _ _ ⟨fun q => absurd q hv', fun _ => tX7_copies (f := 204) (t := 0) (by decide) (by decide) (by decide) (b_yr157 hX _ _ _ _ _ _ (hF i (by rw [ros, if_neg hn'])))⟩
    rcases pk_ix (cl i) (n := n) (by omega) with q | q | ⟨p, hp', ep⟩
    · exact uX7_boardedN (by rw [q20]; exact a1) h9 (Or.inl q) (fail _ (by decide) (by unfold rok; simp [q]))
    · exact uX7_boardedN (by rw [q20]; exact a1) h9 (Or.inr q) (fail _ (by decide) (by unfold rok; simp [q]))
    · have er : rok n (rr n pl r (σ 3 0 6) cl i).1 (cl i) = p_ok (rr n pl r (σ 3 0 6) cl i).1 n p := by
        unfold rok
        rw [ep, nI_clamp (by omega), decide_eq_true (nI_pos (by omega)), decide_eq_true (nI_ge hp' (by omega))]
        rfl
      have epc := ep
      rw [epc]
      refine uX7_boarded a1' h9 (by rw [p21 63 (by decide)]; exact b4) b5.2 hp' ?_
      by_cases ok : p_ok (rr n pl r (σ 3 0 6) cl i).1 n p = true
      · refine b_yr146 hX _ _ _ _ _ _ _ ⟨fun _ => ?_, fun q => absurd (t_res_lt2.2 ok) q⟩
        rw [er, if_pos ok] at ros
        rw [show nI i + (1 : Int32) = nI (i + 1) from nI_add i 1]
        have es : p_brd n pl (rr n pl r (σ 3 0 6) cl i).1 (rr n pl r (σ 3 0 6) cl i).2 p = rr n pl r (σ 3 0 6) cl (i + 1) := by
          show _ = p_brd n pl (rr n pl r (σ 3 0 6) cl i).1 (rr n pl r (σ 3 0 6) cl i).2 (cl i).toNatClampNeg
          rw [ep, nI_clamp (by omega)]
        rw [es]
        exact IH (fun t e h => hE t e (ros.trans h)) (fun t h => hF t (ros.trans h))
      · rw [t_res_no ok]
        exact fail _ (fun q => ok (t_res_lt2.1 q)) (by rw [er]; exact ok)
  · refine b_yr53 hX _ _ _ _ _ _ ⟨fun _ => b_yr169 hX _ _ _ _ _ _ (hE m 0 (by rw [Nat.sub_self]; rfl)), fun q => absurd (nI_le (Nat.le_refl _) (by omega)) q⟩
theorem pr_read {σ : am_M} {a b f z : Int32} (hI : Inv σ) : pairI sX6_read sX7_read [.inl a, .inl b, .inl f, .inl z] σ := by
  obtain ⟨n, pl, hv⟩ := id hI
  obtain ⟨h9, a1, a2, a3, a4, a5, a6, a7, a8⟩ := id hv
  obtain ⟨b1, b2, b3, b4, b5, b6, b7, b8, b9, b10, b11⟩ := id a2
  obtain ⟨t1, t2, t3, t4, t5, t6, t7⟩ := iv_tri hv
  refine ⟨am_le rfl, fun X hX => b_xr0 hX a b f z ⟨fun c1 => ⟨_, rfl, am_le rfl, fun Y hY => b_yr0 hY _ _ _ _ ⟨fun _ => ⟨rfl, hI⟩, fun q => absurd c1 q⟩⟩, fun c1 => ⟨fun c2 => ⟨_, rfl, am_le rfl, fun Y hY => b_yr0 hY _ _ _ _ ⟨fun q => absurd q c1, fun _ => ⟨fun _ => ⟨rfl, hI⟩, fun q => absurd c2 q⟩⟩⟩, fun c2 => ⟨fun c3 => ⟨_, rfl, am_le rfl, fun Y hY => b_yr0 hY _ _ _ _ ⟨fun q => absurd q c1, fun _ => ⟨fun q => absurd q c2, fun _ => ⟨fun _ => ⟨rfl, hI⟩, fun q => absurd c3 q⟩⟩⟩⟩, fun c3 => ⟨fun c4 => ⟨_, rfl, am_le rfl, fun Y hY => b_yr0 hY _ _ _ _ ⟨fun q => absurd q c1, fun _ => ⟨fun q => absurd q c2, fun _ => ⟨fun q => absurd q c3, fun _ => ⟨fun _ => ⟨rfl, hI⟩, fun q => absurd c4 q⟩⟩⟩⟩⟩, fun c4 => ⟨fun c5 => ⟨_, rfl, am_le rfl, fun Y hY => b_yr0 hY _ _ _ _ ⟨fun q => absurd q c1, fun _ => ⟨fun q => absurd q c2, fun _ => ⟨fun q => absurd q c3, fun _ => ⟨fun q => absurd q c4, fun _ => ⟨fun _ => ⟨rfl, hI⟩, fun q => absurd c5 q⟩⟩⟩⟩⟩⟩, fun c5 => ⟨fun c6 => ⟨_, rfl, am_le rfl, fun Y hY => b_yr0 hY _ _ _ _ ⟨fun q => absurd q c1, fun _ => ⟨fun q => absurd q c2, fun _ => ⟨fun q => absurd q c3, fun _ => ⟨fun q => absurd q c4, fun _ => ⟨fun q => absurd q c5, fun _ => ⟨fun _ => ⟨rfl, hI⟩, fun q => absurd c6 q⟩⟩⟩⟩⟩⟩⟩, fun c6 => ?_⟩⟩⟩⟩⟩⟩⟩
  obtain ⟨k, k3, rfl⟩ := q_0b (b := 3) rfl (by decide) c1 c2
  obtain ⟨m, m20, rfl⟩ := q_0b (b := 20) rfl (by decide) c5 c6
  rw [nI_clamp (by omega)]
  refine ⟨q_in (by omega) (by decide), uX0_copyFrom (by decide) b1 h9 ?_⟩
  have ref : ∀ (τ : am_M) (v : Int32), τ 20 = σ 20 → τ 21 = σ 21 → τ 29 = σ 29 → τ 30 = σ 30 → τ 31 = σ 31 → (∀ t e, ro n pl (c_r (c_cp σ 1 0 n) 1) (σ 3 0 6) (fun i => σ 18 k (f + nI i).toNatClampNeg) (rf (σ 17 k 1) (σ 17 k 2) (σ 17 k 3) b f) m 0 = (true, e, t) → v = nI t ∧ Inv (am_u (m_set (m_cp τ 0 204 68) 0 n (rr n pl (c_r (c_cp σ 1 0 n) 1) (σ 3 0 6) (fun i => σ 18 k (f + nI i).toNatClampNeg) t).1 (σ 3 0 5) (rr n pl (c_r (c_cp σ 1 0 n) 1) (σ 3 0 6) (fun i => σ 18 k (f + nI i).toNatClampNeg) t).2) 20 0 28 e)) → (∀ t, ro n pl (c_r (c_cp σ 1 0 n) 1) (σ 3 0 6) (fun i => σ 18 k (f + nI i).toNatClampNeg) (rf (σ 17 k 1) (σ 17 k 2) (σ 17 k 3) b f) m 0 = (false, 0, t) → v = (-20 : Int32) - nI t ∧ Inv (m_cp (m_set (m_cp τ 0 204 68) 0 n (rr n pl (c_r (c_cp σ 1 0 n) 1) (σ 3 0 6) (fun i => σ 18 k (f + nI i).toNatClampNeg) t).1 (σ 3 0 5) (rr n pl (c_r (c_cp σ 1 0 n) 1) (σ 3 0 6) (fun i => σ 18 k (f + nI i).toNatClampNeg) t).2) 204 0 68)) → sX7_read [am_r 20 0, .inl (nI k), .inl b, .inl f, .inl (nI m)] τ (fun w τ2 => w = some (.inl v) ∧ Inv τ2) := by
    intro τ v e20 e21 e29 e30 e31 hE hF
    refine ⟨am_le rfl, fun Y hY => b_yr0 hY _ _ _ _ ⟨fun q => absurd q c1, fun _ => ⟨fun q => absurd q c2, fun _ => ⟨fun q => absurd q c3, fun _ => ⟨fun q => absurd q c4, fun _ => ⟨fun q => absurd q c5, fun _ => ⟨fun q => absurd q c6, fun _ => ?_⟩⟩⟩⟩⟩⟩⟩
    exact tX7_copies (f := 0) (t := 204) (by decide) (by decide) (by decide) (tX7_readL hY hv (by omega) m20 e20 e21 e29 e30 e31 _ t5 _ _ rfl rfl (fun t e h => ⟨by rw [(hE t e h).1], (hE t e h).2⟩) (fun t h => ⟨by rw [(hF t h).1], (hF t h).2⟩))
  refine tX6_readL hX hv (by omega) m20 _ rfl _ _ rfl rfl (fun t e h hp => ?_) (fun t h => ?_)
  · refine ⟨_, rfl, ref _ _ ?_ ?_ ?_ ?_ ?_ (fun t' e' h' => ?_) (fun t' h' => ?_)⟩
    · rw [am_u_k (by decide), c_cp_k (by decide) (by decide), c_set_k (by decide) (by decide), c_cp_k (by decide) (by decide)]
    · rw [am_u_k (by decide), c_cp_k (by decide) (by decide), c_set_k (by decide) (by decide), c_cp_k (by decide) (by decide)]
    · rw [am_u_k (by decide), c_cp_k (by decide) (by decide), c_set_k (by decide) (by decide), c_cp_k (by decide) (by decide)]
    · rw [am_u_k (by decide), c_cp_k (by decide) (by decide), c_set_k (by decide) (by decide), c_cp_k (by decide) (by decide)]
    · rw [am_u_k (by decide), c_cp_k (by decide) (by decide), c_set_k (by decide) (by decide), c_cp_k (by decide) (by decide)]
    · rw [h] at h'
      obtain ⟨-, rfl, rfl⟩ : True ∧ e = e' ∧ t = t' := by
        injection h' with _ h'
        injection h' with h1 h2
        exact ⟨trivial, h1, h2⟩
      refine ⟨rfl, n, pl, ?_⟩
      have hok := rr_ok (n := n) (pl := pl) (bt := σ 3 0 6) (cl := fun i => σ 18 k (f + nI i).toNatClampNeg) t7 t
      generalize hR : rr n pl (c_r (c_cp σ 1 0 n) 1) (σ 3 0 6) (fun i => σ 18 k (f + nI i).toNatClampNeg) t = R at hp hok ⊢
      generalize hτ : c_set (c_cp σ 1 0 n) 1 n R.1 (σ 3 0 5) R.2 = τ
      have u3 : ∀ c, am_u (m_set (m_cp (am_u (c_cp τ 0 1 n) 0 0 11 e) 0 204 68) 0 n R.1 (σ 3 0 5) R.2) 20 0 28 e 3 c = c_cp τ 0 1 n 3 c := fun c => by rw [am_u_k (by decide), m_set_k (by decide), m_cp_k (by decide), am_u_k (by decide)]
      have u5 : ∀ c, am_u (m_set (m_cp (am_u (c_cp τ 0 1 n) 0 0 11 e) 0 204 68) 0 n R.1 (σ 3 0 5) R.2) 20 0 28 e 5 c = c_cp τ 0 1 n 5 c := fun c => by rw [am_u_k (by decide), m_set_k (by decide), m_cp_k (by decide), am_u_k (by decide)]
      have τ21 : τ 21 = σ 21 := by rw [← hτ, c_set_k (by decide) (by decide), c_cp_k (by decide) (by decide)]
      have w21 : ∀ j, (63 ≤ j ∧ j < 66) ∨ (68 ≤ j ∧ j < 204) → am_u (m_set (m_cp (am_u (c_cp τ 0 1 n) 0 0 11 e) 0 204 68) 0 n R.1 (σ 3 0 5) R.2) 20 0 28 e 21 0 j = σ 21 0 j := fun j hj => by
        rw [am_u_k (by decide), m_set_o (by omega) (by omega) (by omega), m_cp_i, if_neg (by omega), am_u_k (by decide), c_cp_k (by decide) (by decide), τ21]
      have τ3 : ∀ j, 1 ≤ j → j ≤ 4 → τ 3 1 j = σ 3 0 j := fun j j1 j2 => by rw [← hτ, c_set_j (by omega) (by omega), c_cp_3 (by omega)]
      have y3 : ∀ j, 1 ≤ j → j ≤ 4 → am_u (m_set (m_cp (am_u (c_cp τ 0 1 n) 0 0 11 e) 0 204 68) 0 n R.1 (σ 3 0 5) R.2) 20 0 28 e 3 0 j = σ 3 0 j := fun j j1 j2 => by rw [u3, c_cp_3 (by omega), τ3 j j1 j2]
      have yr : ∀ p j, p < n → j < 7 → c_r (am_u (m_set (m_cp (am_u (c_cp τ 0 1 n) 0 0 11 e) 0 204 68) 0 n R.1 (σ 3 0 5) R.2) 20 0 28 e) 0 p j = R.1 p j := fun p j hp' hj => by
        unfold c_r
        rw [u5, c_cp_r hp' hj, ← hτ, c_set_r hp']
      have y5 : am_u (m_set (m_cp (am_u (c_cp τ 0 1 n) 0 0 11 e) 0 204 68) 0 n R.1 (σ 3 0 5) R.2) 20 0 28 e 3 0 5 = σ 3 0 5 := by rw [u3, c_cp_3 (by omega), ← hτ, c_set_h]
      have y6 : am_u (m_set (m_cp (am_u (c_cp τ 0 1 n) 0 0 11 e) 0 204 68) 0 n R.1 (σ 3 0 5) R.2) 20 0 28 e 3 0 6 = R.2 := by rw [u3, c_cp_3 (by omega), ← hτ, c_set_b]
      have y66 : am_u (m_set (m_cp (am_u (c_cp τ 0 1 n) 0 0 11 e) 0 204 68) 0 n R.1 (σ 3 0 5) R.2) 20 0 28 e 21 0 (0 + 66) = σ 3 0 5 := by rw [am_u_k (by decide), m_set_h h9]
      have y67 : am_u (m_set (m_cp (am_u (c_cp τ 0 1 n) 0 0 11 e) 0 204 68) 0 n R.1 (σ 3 0 5) R.2) 20 0 28 e 21 0 (0 + 67) = R.2 := by rw [am_u_k (by decide), m_set_b h9]
      refine iv_nowf (σ := σ) (fun q d0 d3 d5 d20 d21 => ?_) (fun j hj => ?_) (fun c hc => ?_) (fun i hi => ?_) (fun j j1 j2 => w21 j (Or.inr ⟨j1, j2⟩)) ⟨by rw [y3 1 (by omega) (by omega)]; exact b1, fun p j hp' hj => ?_, by rw [y3 2 (by omega) (by omega)]; exact b3, by rw [w21 _ (by omega)]; exact b4, b5, by rw [y3 3 (by omega) (by omega), w21 _ (by omega)]; exact b6, by rw [y3 4 (by omega) (by omega), w21 _ (by omega)]; exact b7, by rw [y5, y66]; exact ⟨rfl, b8.2⟩, by rw [y6, y67], fun p j hp' hj => by rw [yr p j hp' hj]; exact hok p j hp' hj, p_inv_cg (fun p hp' => by rw [yr p 6 hp' (by decide)]) hp⟩ ⟨?_, rfl⟩ hv
      · rw [am_u_k d20, m_set_k d21, m_cp_k d21, am_u_k d0, c_cp_k d3 d5, ← hτ, c_set_k d5 d3, c_cp_k d3 d5]
      · rw [am_u_j (by omega), m_set_k (by decide), m_cp_k (by decide), am_u_k (by decide), c_cp_k (by decide) (by decide), ← hτ, c_set_k (by decide) (by decide), c_cp_k (by decide) (by decide)]
      · rw [u3, c_cp_o (by omega), ← hτ, c_set_o (by omega), c_cp_o (by omega)]
      · rw [u5]
        funext j
        rw [c_cp_q (by omega), ← hτ, c_set_q (by omega), c_cp_q (by omega)]
      · rw [yr p j hp' hj]
        show _ = am_u (m_set (m_cp (am_u (c_cp τ 0 1 n) 0 0 11 e) 0 204 68) 0 n R.1 (σ 3 0 5) R.2) 20 0 28 e 21 0 (0 + 7 * p + j)
        rw [am_u_k (by decide), m_set_r hp' hj]
      · rw [am_u_j (by decide), am_u_k (by decide), m_set_k (by decide), m_set_k (by decide), m_cp_k (by decide), m_cp_k (by decide), am_u_j (by decide), am_u_k (by decide), c_cp_k (by decide) (by decide), c_cp_k (by decide) (by decide), ← hτ, c_set_k (by decide) (by decide), c_set_k (by decide) (by decide), c_cp_k (by decide) (by decide), c_cp_k (by decide) (by decide)]
        exact a8.1
    · rw [h] at h'
      exact absurd (congrArg Prod.fst h') Bool.noConfusion
  · generalize hR : rr n pl (c_r (c_cp σ 1 0 n) 1) (σ 3 0 6) (fun i => σ 18 k (f + nI i).toNatClampNeg) t = R at ref ⊢
    have z1 : ivz σ (c_set (c_cp σ 1 0 n) 1 n R.1 (σ 3 0 5) R.2) := ivz_trans (ivz_ccp h9) (ivz_cset h9)
    refine ⟨_, rfl, ref _ _ ?_ ?_ ?_ ?_ ?_ (fun t' e' h' => ?_) (fun t' h' => ?_)⟩
    · rw [c_set_k (by decide) (by decide), c_cp_k (by decide) (by decide)]
    · rw [c_set_k (by decide) (by decide), c_cp_k (by decide) (by decide)]
    · rw [c_set_k (by decide) (by decide), c_cp_k (by decide) (by decide)]
    · rw [c_set_k (by decide) (by decide), c_cp_k (by decide) (by decide)]
    · rw [c_set_k (by decide) (by decide), c_cp_k (by decide) (by decide)]
    · rw [h] at h'
      exact absurd (congrArg Prod.fst h') Bool.noConfusion
    · rw [h] at h'
      obtain rfl : t = t' := by
        injection h' with _ h'
        injection h' with h1 h2
      refine ⟨rfl, n, pl, iv_z ?_ (iv_z z1 hv)⟩
      generalize c_set (c_cp σ 1 0 n) 1 n R.1 (σ 3 0 5) R.2 = τ
      generalize rr n pl (c_r (c_cp σ 1 0 n) 1) (σ 3 0 6) (fun i => σ 18 k (f + nI i).toNatClampNeg) t = R'
      have g : ∀ q, q ≠ 21 → m_cp (m_set (m_cp τ 0 204 68) 0 n R'.1 (σ 3 0 5) R'.2) 204 0 68 q = τ q := fun q hq => by rw [m_cp_k hq, m_set_k hq, m_cp_k hq]
      have g21 : ∀ j, j < 204 → m_cp (m_set (m_cp τ 0 204 68) 0 n R'.1 (σ 3 0 5) R'.2) 204 0 68 21 0 j = τ 21 0 j := fun j hj => by
        rw [m_cp_i]
        by_cases c : j < 68
        · rw [if_pos (by omega), m_set_o (by omega) (by omega) (by omega), m_cp_i, if_pos (by omega), show 0 + (204 + (j - 0) - 204) = j by omega]
        · rw [if_neg (by omega), m_set_o (by omega) (by omega) (by omega), m_cp_i, if_neg (by omega)]
      exact ⟨⟨fun q _ _ _ _ _ _ _ _ _ d _ _ => g q d, fun j _ => by rw [g 20 (by decide)], fun d hd => by rw [g 3 (by decide)], fun i hi => by rw [g 5 (by decide)], fun j _ j2 => g21 j j2⟩, by rw [g 3 (by decide)], fun i _ => by rw [g 5 (by decide)], fun j hj => g21 j (by omega)⟩
