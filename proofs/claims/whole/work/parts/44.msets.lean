/-! the reference: sets, fill, fits -/
set_option maxRecDepth 100000 in
set_option maxHeartbeats 400000 in
theorem b_st0 {K : Option am_V → am_M → Prop} {X : Nat → am_L → List am_V → am_M → Prop} (hX : am_cl eX7_sets lX7_sets (some .int) K X) {σ : am_M} (w : Int32) (h : ((w < (0 : Int32)) → K (some (.inl (-1 : Int32))) σ) ∧ (¬ (w < (0 : Int32)) → (((3 : Int32) < w) → K (some (.inl (-1 : Int32))) σ) ∧ (¬ ((3 : Int32) < w) → (m_ok σ) ∧ (sX7_begins [.inr (.inr (20, 0))] σ (fun vv tt => X 23 [some (.inr (.inr (20, 0))), some (.inl w), some (.inl (nI (m_here σ))), none] (vv.toList ++ []) tt))))) : X 0 [some (.inr (.inr (20, 0))), some (.inl w), none, none] [] σ := am_run_ok emX7_sets hX [23] 400 (show 3 ≤ 3 ∧ 0 ≤ 8 ∧ sX7_in [.inr (.inl (w).toInt64), .inr (.inl (0 : Int64)), .inr (.inl (3 : Int64))] σ (fun vv tt => am_run eX7_sets lX7_sets (some .int) K X [23] 395 9 [some (.inr (.inr (20, 0))), some (.inl w), none, none] (vv.toList ++ []) tt) from ⟨am_le rfl, am_le rfl, uX7_in (v := w) (a := (0 : Int32)) (b := (3 : Int32)) (⟨fun q0 => (show (((0 : Int32) = (0 : Int32)) → K (some (.inl (-1 : Int32))) σ) ∧ (¬ ((0 : Int32) = (0 : Int32)) → _) from ⟨fun _ => (h.1 q0), fun q => absurd (by decide) q⟩), fun q0 => ⟨fun q1 => (show (((0 : Int32) = (0 : Int32)) → K (some (.inl (-1 : Int32))) σ) ∧ (¬ ((0 : Int32) = (0 : Int32)) → _) from ⟨fun _ => ((h.2 q0).1 q1), fun q => absurd (by decide) q⟩), fun q1 => (show (((1 : Int32) = (0 : Int32)) → _) ∧ (¬ ((1 : Int32) = (0 : Int32)) → 1 ≤ 1 ∧ 0 ≤ 8 ∧ True ∧ sX7_hereNow [.inr (.inr (20, 0))] σ (fun vv tt => am_run eX7_sets lX7_sets (some .int) K X [23] 392 18 [some (.inr (.inr (20, 0))), some (.inl w), none, none] (vv.toList ++ []) tt)) from ⟨fun q => absurd q (by decide), fun _ => ⟨am_le rfl, am_le rfl, trivial, uX7_hereNow (⟨((h.2 q0).2 q1).1, (show 1 ≤ 1 ∧ 0 ≤ 8 ∧ True ∧ sX7_begins [.inr (.inr (20, 0))] σ (fun vv tt => X 23 [some (.inr (.inr (20, 0))), some (.inl w), some (.inl (nI (m_here σ))), none] (vv.toList ++ []) tt) from ⟨am_le rfl, am_le rfl, trivial, ((h.2 q0).2 q1).2⟩)⟩)⟩⟩)⟩⟩)⟩)
set_option maxRecDepth 100000 in
set_option maxHeartbeats 400000 in
theorem b_st23 {K : Option am_V → am_M → Prop} {X : Nat → am_L → List am_V → am_M → Prop} (hX : am_cl eX7_sets lX7_sets (some .int) K X) {σ : am_M} (w f : Int32) (h : X 25 [some (.inr (.inr (20, 0))), some (.inl w), some (.inl f), some (.inl (0 : Int32))] [] σ) : X 23 [some (.inr (.inr (20, 0))), some (.inl w), some (.inl f), none] [] σ := am_run_ok emX7_sets hX [25] 400 (show X 25 [some (.inr (.inr (20, 0))), some (.inl w), some (.inl f), some (.inl (0 : Int32))] [] σ from h)
set_option maxRecDepth 100000 in
set_option maxHeartbeats 400000 in
theorem b_st25 {K : Option am_V → am_M → Prop} {X : Nat → am_L → List am_V → am_M → Prop} (hX : am_cl eX7_sets lX7_sets (some .int) K X) {σ : am_M} (w : Int32) (f s : Nat) (h : (((nI f) < (nI s)) → sX7_answers [.inr (.inr (20, 0)), .inl w, .inl (nI f)] σ (fun vv tt => X 63 [some (.inr (.inr (20, 0))), some (.inl w), some (.inl (nI f)), some (.inl (nI s))] (vv.toList ++ []) tt)) ∧ (¬ ((nI f) < (nI s)) → ((((nI s) &&& ((nI f) ^^^ (-1 : Int32))) = (0 : Int32)) → (m_ok σ) ∧ ((s < 512) ∧ (((m_boat σ s = true) → sX7_comesSet [.inr (.inr (20, 0)), .inl (nI s)] σ (fun vv tt => X 51 [some (.inr (.inr (20, 0))), some (.inl w), some (.inl (nI f)), some (.inl (nI s))] (vv.toList ++ []) tt)) ∧ (¬ (m_boat σ s = true) → X 51 [some (.inr (.inr (20, 0))), some (.inl w), some (.inl (nI f)), some (.inl (nI s))] [] σ)))) ∧ (¬ (((nI s) &&& ((nI f) ^^^ (-1 : Int32))) = (0 : Int32)) → X 51 [some (.inr (.inr (20, 0))), some (.inl w), some (.inl (nI f)), some (.inl (nI s))] [] σ))) : X 25 [some (.inr (.inr (20, 0))), some (.inl w), some (.inl (nI f)), some (.inl (nI s))] [] σ := am_run_ok emX7_sets hX [51, 63] 400 (show (((nI f) < (nI s)) → 3 ≤ 3 ∧ 0 ≤ 8 ∧ True ∧ sX7_answers [.inr (.inr (20, 0)), .inl w, .inl (nI f)] σ (fun vv tt => X 63 [some (.inr (.inr (20, 0))), some (.inl w), some (.inl (nI f)), some (.inl (nI s))] (vv.toList ++ []) tt)) ∧ (¬ ((nI f) < (nI s)) → ((((nI s) &&& ((nI f) ^^^ (-1 : Int32))) = (0 : Int32)) → 2 ≤ 2 ∧ 0 ≤ 8 ∧ True ∧ sX7_isBoat [.inr (.inr (20, 0)), .inl (nI s)] σ (fun vv tt => am_run eX7_sets lX7_sets (some .int) K X [51, 63] 388 43 [some (.inr (.inr (20, 0))), some (.inl w), some (.inl (nI f)), some (.inl (nI s))] (vv.toList ++ []) tt)) ∧ (¬ (((nI s) &&& ((nI f) ^^^ (-1 : Int32))) = (0 : Int32)) → X 51 [some (.inr (.inr (20, 0))), some (.inl w), some (.inl (nI f)), some (.inl (nI s))] [] σ)) from ⟨fun q0 => ⟨am_le rfl, am_le rfl, trivial, (h.1 q0)⟩, fun q0 => ⟨fun q1 => ⟨am_le rfl, am_le rfl, trivial, uX7_isBoat (S := s) (⟨((h.2 q0).1 q1).1, ⟨((h.2 q0).1 q1).2.1, ⟨fun q2 => (show (((1 : Int32) = (0 : Int32)) → _) ∧ (¬ ((1 : Int32) = (0 : Int32)) → 2 ≤ 2 ∧ 0 ≤ 8 ∧ True ∧ sX7_comesSet [.inr (.inr (20, 0)), .inl (nI s)] σ (fun vv tt => X 51 [some (.inr (.inr (20, 0))), some (.inl w), some (.inl (nI f)), some (.inl (nI s))] (vv.toList ++ []) tt)) from ⟨fun q => absurd q (by decide), fun _ => ⟨am_le rfl, am_le rfl, trivial, (((h.2 q0).1 q1).2.2.1 q2)⟩⟩), fun q2 => (show (((0 : Int32) = (0 : Int32)) → X 51 [some (.inr (.inr (20, 0))), some (.inl w), some (.inl (nI f)), some (.inl (nI s))] [] σ) ∧ (¬ ((0 : Int32) = (0 : Int32)) → _) from ⟨fun _ => (((h.2 q0).1 q1).2.2.2 q2), fun q => absurd (by decide) q⟩)⟩⟩⟩)⟩, fun q1 => ((h.2 q0).2 q1)⟩⟩)
set_option maxRecDepth 100000 in
set_option maxHeartbeats 400000 in
theorem b_st51 {K : Option am_V → am_M → Prop} {X : Nat → am_L → List am_V → am_M → Prop} (hX : am_cl eX7_sets lX7_sets (some .int) K X) {σ : am_M} (w : Int32) (f s : Nat) (h : X 25 [some (.inr (.inr (20, 0))), some (.inl w), some (.inl (nI f)), some (.inl ((nI s) + (1 : Int32)))] [] σ) : X 51 [some (.inr (.inr (20, 0))), some (.inl w), some (.inl (nI f)), some (.inl (nI s))] [] σ := am_run_ok emX7_sets hX [25] 400 (show X 25 [some (.inr (.inr (20, 0))), some (.inl w), some (.inl (nI f)), some (.inl ((nI s) + (1 : Int32)))] [] σ from h)
set_option maxRecDepth 100000 in
set_option maxHeartbeats 400000 in
theorem b_st63 {K : Option am_V → am_M → Prop} {X : Nat → am_L → List am_V → am_M → Prop} (hX : am_cl eX7_sets lX7_sets (some .int) K X) {σ : am_M} (w v : Int32) (f s : Nat) (h : K (some (.inl v)) σ) : X 63 [some (.inr (.inr (20, 0))), some (.inl w), some (.inl (nI f)), some (.inl (nI s))] [.inl v] σ := am_run_ok emX7_sets hX [] 400 (show K (some (.inl v)) σ from h)
set_option maxRecDepth 100000 in
set_option maxHeartbeats 400000 in
theorem b_fl0 {K : Option am_V → am_M → Prop} {X : Nat → am_L → List am_V → am_M → Prop} (hX : am_cl eX7_fill lX7_fill (some .int) K X) {σ : am_M} (w : Int32) (h : ((w < (0 : Int32)) → K (some (.inl (-1 : Int32))) σ) ∧ (¬ (w < (0 : Int32)) → (((1 : Int32) < w) → K (some (.inl (-1 : Int32))) σ) ∧ (¬ ((1 : Int32) < w) → (m_ok σ) ∧ (sX7_begins [.inr (.inr (20, 0))] σ (fun vv tt => X 21 [some (.inr (.inr (20, 0))), some (.inl w), some (.inl (nI (m_here σ))), none] (vv.toList ++ []) tt))))) : X 0 [some (.inr (.inr (20, 0))), some (.inl w), none, none] [] σ := am_run_ok emX7_fill hX [21] 400 (show 3 ≤ 3 ∧ 0 ≤ 8 ∧ sX7_in [.inr (.inl (w).toInt64), .inr (.inl (0 : Int64)), .inr (.inl (1 : Int64))] σ (fun vv tt => am_run eX7_fill lX7_fill (some .int) K X [21] 395 7 [some (.inr (.inr (20, 0))), some (.inl w), none, none] (vv.toList ++ []) tt) from ⟨am_le rfl, am_le rfl, uX7_in (v := w) (a := (0 : Int32)) (b := (1 : Int32)) (⟨fun q0 => (show (((0 : Int32) = (0 : Int32)) → K (some (.inl (-1 : Int32))) σ) ∧ (¬ ((0 : Int32) = (0 : Int32)) → _) from ⟨fun _ => (h.1 q0), fun q => absurd (by decide) q⟩), fun q0 => ⟨fun q1 => (show (((0 : Int32) = (0 : Int32)) → K (some (.inl (-1 : Int32))) σ) ∧ (¬ ((0 : Int32) = (0 : Int32)) → _) from ⟨fun _ => ((h.2 q0).1 q1), fun q => absurd (by decide) q⟩), fun q1 => (show (((1 : Int32) = (0 : Int32)) → _) ∧ (¬ ((1 : Int32) = (0 : Int32)) → 1 ≤ 1 ∧ 0 ≤ 8 ∧ True ∧ sX7_hereNow [.inr (.inr (20, 0))] σ (fun vv tt => am_run eX7_fill lX7_fill (some .int) K X [21] 392 16 [some (.inr (.inr (20, 0))), some (.inl w), none, none] (vv.toList ++ []) tt)) from ⟨fun q => absurd q (by decide), fun _ => ⟨am_le rfl, am_le rfl, trivial, uX7_hereNow (⟨((h.2 q0).2 q1).1, (show 1 ≤ 1 ∧ 0 ≤ 8 ∧ True ∧ sX7_begins [.inr (.inr (20, 0))] σ (fun vv tt => X 21 [some (.inr (.inr (20, 0))), some (.inl w), some (.inl (nI (m_here σ))), none] (vv.toList ++ []) tt) from ⟨am_le rfl, am_le rfl, trivial, ((h.2 q0).2 q1).2⟩)⟩)⟩⟩)⟩⟩)⟩)
set_option maxRecDepth 100000 in
set_option maxHeartbeats 400000 in
theorem b_fl21 {K : Option am_V → am_M → Prop} {X : Nat → am_L → List am_V → am_M → Prop} (hX : am_cl eX7_fill lX7_fill (some .int) K X) {σ : am_M} (w f : Int32) (h : X 23 [some (.inr (.inr (20, 0))), some (.inl w), some (.inl f), some (.inl (0 : Int32))] [] σ) : X 21 [some (.inr (.inr (20, 0))), some (.inl w), some (.inl f), none] [] σ := am_run_ok emX7_fill hX [23] 400 (show X 23 [some (.inr (.inr (20, 0))), some (.inl w), some (.inl f), some (.inl (0 : Int32))] [] σ from h)
set_option maxRecDepth 100000 in
set_option maxHeartbeats 400000 in
theorem b_fl23 {K : Option am_V → am_M → Prop} {X : Nat → am_L → List am_V → am_M → Prop} (hX : am_cl eX7_fill lX7_fill (some .int) K X) {σ : am_M} (w : Int32) (f s : Nat) (h : (((nI f) < (nI s)) → sX7_answers [.inr (.inr (20, 0)), .inl w, .inl (nI f)] σ (fun vv tt => X 54 [some (.inr (.inr (20, 0))), some (.inl w), some (.inl (nI f)), some (.inl (nI s))] (vv.toList ++ []) tt)) ∧ (¬ ((nI f) < (nI s)) → (m_ok σ) ∧ ((s < 512) ∧ ((f < 512) ∧ (((m_fil σ s f = true) → sX7_comesSet [.inr (.inr (20, 0)), .inl (nI s)] σ (fun vv tt => X 42 [some (.inr (.inr (20, 0))), some (.inl w), some (.inl (nI f)), some (.inl (nI s))] (vv.toList ++ []) tt)) ∧ (¬ (m_fil σ s f = true) → X 42 [some (.inr (.inr (20, 0))), some (.inl w), some (.inl (nI f)), some (.inl (nI s))] [] σ)))))) : X 23 [some (.inr (.inr (20, 0))), some (.inl w), some (.inl (nI f)), some (.inl (nI s))] [] σ := am_run_ok emX7_fill hX [42, 54] 400 (show (((nI f) < (nI s)) → 3 ≤ 3 ∧ 0 ≤ 8 ∧ True ∧ sX7_answers [.inr (.inr (20, 0)), .inl w, .inl (nI f)] σ (fun vv tt => X 54 [some (.inr (.inr (20, 0))), some (.inl w), some (.inl (nI f)), some (.inl (nI s))] (vv.toList ++ []) tt)) ∧ (¬ ((nI f) < (nI s)) → 3 ≤ 3 ∧ 0 ≤ 8 ∧ True ∧ sX7_isFilling [.inr (.inr (20, 0)), .inl (nI s), .inl (nI f)] σ (fun vv tt => am_run eX7_fill lX7_fill (some .int) K X [42, 54] 393 34 [some (.inr (.inr (20, 0))), some (.inl w), some (.inl (nI f)), some (.inl (nI s))] (vv.toList ++ []) tt)) from ⟨fun q0 => ⟨am_le rfl, am_le rfl, trivial, (h.1 q0)⟩, fun q0 => ⟨am_le rfl, am_le rfl, trivial, uX7_isFilling (S := s) (f := f) (⟨(h.2 q0).1, ⟨(h.2 q0).2.1, ⟨(h.2 q0).2.2.1, ⟨fun q1 => (show (((1 : Int32) = (0 : Int32)) → _) ∧ (¬ ((1 : Int32) = (0 : Int32)) → 2 ≤ 2 ∧ 0 ≤ 8 ∧ True ∧ sX7_comesSet [.inr (.inr (20, 0)), .inl (nI s)] σ (fun vv tt => X 42 [some (.inr (.inr (20, 0))), some (.inl w), some (.inl (nI f)), some (.inl (nI s))] (vv.toList ++ []) tt)) from ⟨fun q => absurd q (by decide), fun _ => ⟨am_le rfl, am_le rfl, trivial, ((h.2 q0).2.2.2.1 q1)⟩⟩), fun q1 => (show (((0 : Int32) = (0 : Int32)) → X 42 [some (.inr (.inr (20, 0))), some (.inl w), some (.inl (nI f)), some (.inl (nI s))] [] σ) ∧ (¬ ((0 : Int32) = (0 : Int32)) → _) from ⟨fun _ => ((h.2 q0).2.2.2.2 q1), fun q => absurd (by decide) q⟩)⟩⟩⟩⟩)⟩⟩)
set_option maxRecDepth 100000 in
set_option maxHeartbeats 400000 in
theorem b_fl42 {K : Option am_V → am_M → Prop} {X : Nat → am_L → List am_V → am_M → Prop} (hX : am_cl eX7_fill lX7_fill (some .int) K X) {σ : am_M} (w : Int32) (f s : Nat) (h : X 23 [some (.inr (.inr (20, 0))), some (.inl w), some (.inl (nI f)), some (.inl ((nI s) + (1 : Int32)))] [] σ) : X 42 [some (.inr (.inr (20, 0))), some (.inl w), some (.inl (nI f)), some (.inl (nI s))] [] σ := am_run_ok emX7_fill hX [23] 400 (show X 23 [some (.inr (.inr (20, 0))), some (.inl w), some (.inl (nI f)), some (.inl ((nI s) + (1 : Int32)))] [] σ from h)
set_option maxRecDepth 100000 in
set_option maxHeartbeats 400000 in
theorem b_fl54 {K : Option am_V → am_M → Prop} {X : Nat → am_L → List am_V → am_M → Prop} (hX : am_cl eX7_fill lX7_fill (some .int) K X) {σ : am_M} (w v : Int32) (f s : Nat) (h : K (some (.inl v)) σ) : X 54 [some (.inr (.inr (20, 0))), some (.inl w), some (.inl (nI f)), some (.inl (nI s))] [.inl v] σ := am_run_ok emX7_fill hX [] 400 (show K (some (.inl v)) σ from h)
/-- a list of sets of one size is none too long -/
theorem q_ls_z {P : Nat → Bool} {z n : Nat} (hz : z ≤ 9) (hn : n ≤ 512) (h : ∀ S, P S = true → q_pop S 9 = z) : (q_ls P n).length ≤ 126 := by
  rw [q_ls_len]
  exact Nat.le_trans (q_ct_mono hn) (Nat.le_trans (q_ct_le (Q := fun S => decide (q_pop S 9 = z)) (fun x hx => decide_eq_true (h x hx)) 512) (q_126 z hz))
theorem m_boat_z {σ : am_M} {pl S : Nat} (hpl : m_pl σ = nI pl) (h5 : pl ≤ 5) (h : m_boat σ S = true) : q_pop S 9 = pl := by
  unfold m_boat at h
  rw [hpl] at h
  simp at h
  have := q_pop_le S 9
  exact (nI_eq (by omega) (by omega)).mp h.1
theorem tX7_sets {σ : am_M} {w : Int32} {pl : Nat} {K : am_K} (ho : m_ok σ) (hpl : m_pl σ = nI pl) (h5 : pl ≤ 5) (hb : (w < 0 ∨ 3 < w) → K (some (.inl (-1 : Int32))) σ) (h : ¬ (w < 0 ∨ 3 < w) → ∀ τ, m_col σ τ (q_ls (fun S => decide (q_df S (m_here σ) = 0) && m_boat σ S) (m_here σ + 1)) (m_n σ) → K (some (.inl (a_tell (q_ls (fun S => decide (q_df S (m_here σ) = 0) && m_boat σ S) (m_here σ + 1)) w (m_here σ)))) τ) : sX7_sets [.inr (.inr (20, 0)), .inl w] σ K := by
  obtain ⟨hn, h9⟩ := m_ok_e ho
  have hf := m_here_lt ho
  have hf5 := m_here_512 ho
  refine ⟨am_le rfl, fun X hX => b_st0 hX w ⟨fun a => hb (Or.inl a), fun a => ⟨fun b => hb (Or.inr b), fun b => ⟨ho, ?_⟩⟩⟩⟩
  have hw : ¬ (w < 0 ∨ 3 < w) := fun q => q.elim a b
  refine m_col_0 hn h9 (fun τ0 hc0 => b_st23 hX w _ ?_)
  generalize hF : m_here σ = f at hf hf5 h ⊢
  generalize hP : (fun S => decide (q_df S f = 0) && m_boat σ S) = P at h
  have hPs : ∀ S, P S = (decide (q_df S f = 0) && m_boat σ S) := fun S => by rw [← hP]
  have hall : ∀ S, S ∈ q_ls P (f + 1) → S < 2 ^ m_n σ := fun S hS => by
    have := (q_ls_mem.mp hS).1
    omega
  have hl5 : ∀ s, s ≤ 512 → (q_ls P s).length < 512 := fun s hs => Nat.lt_of_le_of_lt (q_ls_z (z := pl) (by omega) hs (fun S hS => m_boat_z hpl h5 (by rw [hPs] at hS; simp at hS; exact hS.2))) (by decide)
  refine q_dn (W := fun s => ∀ τ, m_col σ τ (q_ls P s) (m_n σ) → X 25 [some (.inr (.inr (20, 0))), some (.inl w), some (.inl (nI f)), some (.inl (nI s))] [] τ) (n := f + 1) (fun s hs ih τ hc => ?_) (fun τ hc => ?_) 0 (Nat.zero_le _) τ0 hc0
  · have hot := m_col_ok hc ho
    have skip : ¬ P s = true → X 51 [some (.inr (.inr (20, 0))), some (.inl w), some (.inl (nI f)), some (.inl (nI s))] [] τ := by
      intro hf
      refine b_st51 hX w f s ?_
      rw [show nI s + (1 : Int32) = nI (s + 1) from nI_1 s]
      exact ih τ (by rw [q_ls_no hf]; exact hc)
    refine b_st25 hX w f s ?_
    rw [q_dfz (by omega), m_col_b hc]
    refine ⟨fun q => absurd q (nI_nlt (by omega) (by omega)), fun _ => ⟨fun a => ⟨hot, by omega, fun b => ?_, fun b => skip (by rw [hPs]; simp [b])⟩, fun a => skip (by rw [hPs]; simp [a])⟩⟩
    refine m_col_s hc (hl5 s (by omega)) (fun τ' hc' => b_st51 hX w f s ?_)
    rw [show nI s + (1 : Int32) = nI (s + 1) from nI_1 s]
    exact ih τ' (by rw [q_ls_yes (by rw [hPs]; simp [a, b])]; exact hc')
  · refine b_st25 hX w f (f + 1) ⟨fun _ => uX7_answers h9 hc (hl5 _ (by omega)) hall (b_st63 hX w _ f (f + 1) (h hw τ hc)), fun q => absurd (nI_lt (by omega) (by omega)) q⟩
theorem tX7_fill {σ : am_M} {w : Int32} {pl : Nat} {K : am_K} (ho : m_ok σ) (hpl : m_pl σ = nI pl) (h5 : pl ≤ 5) (hb : (w < 0 ∨ 1 < w) → K (some (.inl (-1 : Int32))) σ) (h : ¬ (w < 0 ∨ 1 < w) → ∀ τ, m_col σ τ (q_ls (fun S => m_fil σ S (m_here σ)) (m_here σ + 1)) (m_n σ) → K (some (.inl (a_tell (q_ls (fun S => m_fil σ S (m_here σ)) (m_here σ + 1)) w (m_here σ)))) τ) : sX7_fill [.inr (.inr (20, 0)), .inl w] σ K := by
  obtain ⟨hn, h9⟩ := m_ok_e ho
  have hf := m_here_lt ho
  have hf5 := m_here_512 ho
  refine ⟨am_le rfl, fun X hX => b_fl0 hX w ⟨fun a => hb (Or.inl a), fun a => ⟨fun b => hb (Or.inr b), fun b => ⟨ho, ?_⟩⟩⟩⟩
  have hw : ¬ (w < 0 ∨ 1 < w) := fun q => q.elim a b
  refine m_col_0 hn h9 (fun τ0 hc0 => b_fl21 hX w _ ?_)
  generalize hF : m_here σ = f at hf hf5 h ⊢
  generalize hP : (fun S => m_fil σ S f) = P at h
  have hPs : ∀ S, P S = m_fil σ S f := fun S => by rw [← hP]
  have hall : ∀ S, S ∈ q_ls P (f + 1) → S < 2 ^ m_n σ := fun S hS => by
    have := (q_ls_mem.mp hS).1
    omega
  have hl5 : ∀ s, s ≤ 512 → (q_ls P s).length < 512 := fun s hs => Nat.lt_of_le_of_lt (q_ls_z (z := pl) (by omega) hs (fun S hS => m_boat_z hpl h5 (by rw [hPs] at hS; unfold m_fil at hS; simp at hS; exact hS.2.2))) (by decide)
  refine q_dn (W := fun s => ∀ τ, m_col σ τ (q_ls P s) (m_n σ) → X 23 [some (.inr (.inr (20, 0))), some (.inl w), some (.inl (nI f)), some (.inl (nI s))] [] τ) (n := f + 1) (fun s hs ih τ hc => ?_) (fun τ hc => ?_) 0 (Nat.zero_le _) τ0 hc0
  · have hot := m_col_ok hc ho
    refine b_fl23 hX w f s ?_
    rw [m_col_f hc]
    refine ⟨fun q => absurd q (nI_nlt (by omega) (by omega)), fun _ => ⟨hot, by omega, hf5, fun a => ?_, fun a => ?_⟩⟩
    · refine m_col_s hc (hl5 s (by omega)) (fun τ' hc' => b_fl42 hX w f s ?_)
      rw [show nI s + (1 : Int32) = nI (s + 1) from nI_1 s]
      exact ih τ' (by rw [q_ls_yes (by rw [hPs]; exact a)]; exact hc')
    · refine b_fl42 hX w f s ?_
      rw [show nI s + (1 : Int32) = nI (s + 1) from nI_1 s]
      exact ih τ (by rw [q_ls_no (by rw [hPs]; exact a)]; exact hc)
  · refine b_fl23 hX w f (f + 1) ⟨fun _ => uX7_answers h9 hc (hl5 _ (by omega)) hall (b_fl54 hX w _ f (f + 1) (h hw τ hc)), fun q => absurd (nI_lt (by omega) (by omega)) q⟩
set_option maxRecDepth 100000 in
set_option maxHeartbeats 400000 in
theorem b_ft0 {K : Option am_V → am_M → Prop} {X : Nat → am_L → List am_V → am_M → Prop} (hX : am_cl eX7_fits lX7_fits (some .int) K X) {σ : am_M} (w : Int32) (h : ((w < (0 : Int32)) → K (some (.inl (-1 : Int32))) σ) ∧ (¬ (w < (0 : Int32)) → (((3 : Int32) < w) → K (some (.inl (-1 : Int32))) σ) ∧ (¬ ((3 : Int32) < w) → sX7_begins [.inr (.inr (20, 0))] σ (fun vv tt => X 27 [some (.inr (.inr (20, 0))), some (.inl w), some (.inl (((1 : Int32) <<< ((σ 20 0 1) &&& 31)) - (1 : Int32))), none, none, none] (vv.toList ++ []) tt)))) : X 0 [some (.inr (.inr (20, 0))), some (.inl w), none, none, none, none] [] σ := am_run_ok emX7_fits hX [27] 400 (show 3 ≤ 3 ∧ 0 ≤ 8 ∧ sX7_in [.inr (.inl (w).toInt64), .inr (.inl (0 : Int64)), .inr (.inl (3 : Int64))] σ (fun vv tt => am_run eX7_fits lX7_fits (some .int) K X [27] 395 9 [some (.inr (.inr (20, 0))), some (.inl w), none, none, none, none] (vv.toList ++ []) tt) from ⟨am_le rfl, am_le rfl, uX7_in (v := w) (a := (0 : Int32)) (b := (3 : Int32)) (⟨fun q0 => (show (((0 : Int32) = (0 : Int32)) → K (some (.inl (-1 : Int32))) σ) ∧ (¬ ((0 : Int32) = (0 : Int32)) → _) from ⟨fun _ => (h.1 q0), fun q => absurd (by decide) q⟩), fun q0 => ⟨fun q1 => (show (((0 : Int32) = (0 : Int32)) → K (some (.inl (-1 : Int32))) σ) ∧ (¬ ((0 : Int32) = (0 : Int32)) → _) from ⟨fun _ => ((h.2 q0).1 q1), fun q => absurd (by decide) q⟩), fun q1 => (show (((1 : Int32) = (0 : Int32)) → _) ∧ (¬ ((1 : Int32) = (0 : Int32)) → 1 ≤ 1 ∧ 0 ≤ 8 ∧ True ∧ sX7_begins [.inr (.inr (20, 0))] σ (fun vv tt => X 27 [some (.inr (.inr (20, 0))), some (.inl w), some (.inl (((1 : Int32) <<< ((σ 20 0 1) &&& 31)) - (1 : Int32))), none, none, none] (vv.toList ++ []) tt)) from ⟨fun q => absurd q (by decide), fun _ => ⟨am_le rfl, am_le rfl, trivial, ((h.2 q0).2 q1)⟩⟩)⟩⟩)⟩)
set_option maxRecDepth 100000 in
set_option maxHeartbeats 400000 in
theorem b_ft27 {K : Option am_V → am_M → Prop} {X : Nat → am_L → List am_V → am_M → Prop} (hX : am_cl eX7_fits lX7_fits (some .int) K X) {σ : am_M} (w f : Int32) (h : X 29 [some (.inr (.inr (20, 0))), some (.inl w), some (.inl f), some (.inl (0 : Int32)), none, none] [] σ) : X 27 [some (.inr (.inr (20, 0))), some (.inl w), some (.inl f), none, none, none] [] σ := am_run_ok emX7_fits hX [29] 400 (show X 29 [some (.inr (.inr (20, 0))), some (.inl w), some (.inl f), some (.inl (0 : Int32)), none, none] [] σ from h)
set_option maxRecDepth 100000 in
set_option maxHeartbeats 400000 in
theorem b_ft29 {K : Option am_V → am_M → Prop} {X : Nat → am_L → List am_V → am_M → Prop} (hX : am_cl eX7_fits lX7_fits (some .int) K X) {σ : am_M} (w : Int32) (f s : Nat) (h : (((nI f) < (nI s)) → sX7_answers [.inr (.inr (20, 0)), .inl w, .inl (nI f)] σ (fun vv tt => X 120 [some (.inr (.inr (20, 0))), some (.inl w), some (.inl (nI f)), some (.inl (nI s)), none, none] (vv.toList ++ []) tt)) ∧ (¬ ((nI f) < (nI s)) → (m_ok σ) ∧ ((s < 512) ∧ (((m_boat σ s = true) → X 44 [some (.inr (.inr (20, 0))), some (.inl w), some (.inl (nI f)), some (.inl (nI s)), some (.inl (1 : Int32)), some (.inl (0 : Int32))] [] σ) ∧ (¬ (m_boat σ s = true) → X 44 [some (.inr (.inr (20, 0))), some (.inl w), some (.inl (nI f)), some (.inl (nI s)), some (.inl (0 : Int32)), some (.inl (0 : Int32))] [] σ))))) : X 29 [some (.inr (.inr (20, 0))), some (.inl w), some (.inl (nI f)), some (.inl (nI s)), none, none] [] σ := am_run_ok emX7_fits hX [44, 120] 400 (show (((nI f) < (nI s)) → 3 ≤ 3 ∧ 0 ≤ 8 ∧ True ∧ sX7_answers [.inr (.inr (20, 0)), .inl w, .inl (nI f)] σ (fun vv tt => X 120 [some (.inr (.inr (20, 0))), some (.inl w), some (.inl (nI f)), some (.inl (nI s)), none, none] (vv.toList ++ []) tt)) ∧ (¬ ((nI f) < (nI s)) → 2 ≤ 2 ∧ 0 ≤ 8 ∧ True ∧ sX7_isBoat [.inr (.inr (20, 0)), .inl (nI s)] σ (fun vv tt => am_run eX7_fits lX7_fits (some .int) K X [44, 120] 394 39 [some (.inr (.inr (20, 0))), some (.inl w), some (.inl (nI f)), some (.inl (nI s)), none, none] (vv.toList ++ []) tt)) from ⟨fun q0 => ⟨am_le rfl, am_le rfl, trivial, (h.1 q0)⟩, fun q0 => ⟨am_le rfl, am_le rfl, trivial, uX7_isBoat (S := s) (⟨(h.2 q0).1, ⟨(h.2 q0).2.1, ⟨fun q1 => (show X 44 [some (.inr (.inr (20, 0))), some (.inl w), some (.inl (nI f)), some (.inl (nI s)), some (.inl (1 : Int32)), some (.inl (0 : Int32))] [] σ from ((h.2 q0).2.2.1 q1)), fun q1 => (show X 44 [some (.inr (.inr (20, 0))), some (.inl w), some (.inl (nI f)), some (.inl (nI s)), some (.inl (0 : Int32)), some (.inl (0 : Int32))] [] σ from ((h.2 q0).2.2.2 q1))⟩⟩⟩)⟩⟩)
set_option maxRecDepth 100000 in
set_option maxHeartbeats 400000 in
theorem b_ft44 {K : Option am_V → am_M → Prop} {X : Nat → am_L → List am_V → am_M → Prop} (hX : am_cl eX7_fits lX7_fits (some .int) K X) {σ : am_M} (w x : Int32) (f s k : Nat) (h : (((σ 20 0 23) ≤ (nI k)) → X 98 [some (.inr (.inr (20, 0))), some (.inl w), some (.inl (nI f)), some (.inl (nI s)), some (.inl x), some (.inl (nI k))] [] σ) ∧ (¬ ((σ 20 0 23) ≤ (nI k)) → ((x = (0 : Int32)) → X 44 [some (.inr (.inr (20, 0))), some (.inl w), some (.inl (nI f)), some (.inl (nI s)), some (.inl (0 : Int32)), some (.inl ((nI k) + (1 : Int32)))] [] σ) ∧ (¬ (x = (0 : Int32)) → (vp_in ((2 : Int32) * (nI k)) 12) ∧ ((vp_in (((2 : Int32) * (nI k)) + (1 : Int32)) 12) ∧ ((((((nI s) >>> ((σ 27 0 ((2 : Int32) * (nI k)).toNatClampNeg) &&& 31)) &&& (1 : Int32)) = (σ 27 0 (((2 : Int32) * (nI k)) + (1 : Int32)).toNatClampNeg)) → X 44 [some (.inr (.inr (20, 0))), some (.inl w), some (.inl (nI f)), some (.inl (nI s)), some (.inl (1 : Int32)), some (.inl ((nI k) + (1 : Int32)))] [] σ) ∧ (¬ ((((nI s) >>> ((σ 27 0 ((2 : Int32) * (nI k)).toNatClampNeg) &&& 31)) &&& (1 : Int32)) = (σ 27 0 (((2 : Int32) * (nI k)) + (1 : Int32)).toNatClampNeg)) → X 44 [some (.inr (.inr (20, 0))), some (.inl w), some (.inl (nI f)), some (.inl (nI s)), some (.inl (0 : Int32)), some (.inl ((nI k) + (1 : Int32)))] [] σ)))))) : X 44 [some (.inr (.inr (20, 0))), some (.inl w), some (.inl (nI f)), some (.inl (nI s)), some (.inl x), some (.inl (nI k))] [] σ := am_run_ok emX7_fits hX [44, 98] 400 (show (((σ 20 0 23) ≤ (nI k)) → X 98 [some (.inr (.inr (20, 0))), some (.inl w), some (.inl (nI f)), some (.inl (nI s)), some (.inl x), some (.inl (nI k))] [] σ) ∧ (¬ ((σ 20 0 23) ≤ (nI k)) → ((x = (0 : Int32)) → X 44 [some (.inr (.inr (20, 0))), some (.inl w), some (.inl (nI f)), some (.inl (nI s)), some (.inl (0 : Int32)), some (.inl ((nI k) + (1 : Int32)))] [] σ) ∧ (¬ (x = (0 : Int32)) → (vp_in ((2 : Int32) * (nI k)) 12) ∧ ((vp_in (((2 : Int32) * (nI k)) + (1 : Int32)) 12) ∧ ((((((nI s) >>> ((σ 27 0 ((2 : Int32) * (nI k)).toNatClampNeg) &&& 31)) &&& (1 : Int32)) = (σ 27 0 (((2 : Int32) * (nI k)) + (1 : Int32)).toNatClampNeg)) → X 44 [some (.inr (.inr (20, 0))), some (.inl w), some (.inl (nI f)), some (.inl (nI s)), some (.inl (1 : Int32)), some (.inl ((nI k) + (1 : Int32)))] [] σ) ∧ (¬ ((((nI s) >>> ((σ 27 0 ((2 : Int32) * (nI k)).toNatClampNeg) &&& 31)) &&& (1 : Int32)) = (σ 27 0 (((2 : Int32) * (nI k)) + (1 : Int32)).toNatClampNeg)) → X 44 [some (.inr (.inr (20, 0))), some (.inl w), some (.inl (nI f)), some (.inl (nI s)), some (.inl (0 : Int32)), some (.inl ((nI k) + (1 : Int32)))] [] σ))))) from ⟨fun q0 => (h.1 q0), fun q0 => ⟨fun q1 => ((h.2 q0).1 q1), fun q1 => ⟨((h.2 q0).2 q1).1, ⟨((h.2 q0).2 q1).2.1, ⟨fun q2 => (((h.2 q0).2 q1).2.2.1 q2), fun q2 => (((h.2 q0).2 q1).2.2.2 q2)⟩⟩⟩⟩⟩)
set_option maxRecDepth 100000 in
set_option maxHeartbeats 400000 in
theorem b_ft98 {K : Option am_V → am_M → Prop} {X : Nat → am_L → List am_V → am_M → Prop} (hX : am_cl eX7_fits lX7_fits (some .int) K X) {σ : am_M} (w x : Int32) (f s : Nat) (h : ((x = (0 : Int32)) → X 108 [some (.inr (.inr (20, 0))), some (.inl w), some (.inl (nI f)), some (.inl (nI s)), some (.inl x), none] [] σ) ∧ (¬ (x = (0 : Int32)) → sX7_comesSet [.inr (.inr (20, 0)), .inl (nI s)] σ (fun vv tt => X 108 [some (.inr (.inr (20, 0))), some (.inl w), some (.inl (nI f)), some (.inl (nI s)), some (.inl x), none] (vv.toList ++ []) tt))) : X 98 [some (.inr (.inr (20, 0))), some (.inl w), some (.inl (nI f)), some (.inl (nI s)), some (.inl x), none] [] σ := am_run_ok emX7_fits hX [108] 400 (show ((x = (0 : Int32)) → X 108 [some (.inr (.inr (20, 0))), some (.inl w), some (.inl (nI f)), some (.inl (nI s)), some (.inl x), none] [] σ) ∧ (¬ (x = (0 : Int32)) → 2 ≤ 2 ∧ 0 ≤ 8 ∧ True ∧ sX7_comesSet [.inr (.inr (20, 0)), .inl (nI s)] σ (fun vv tt => X 108 [some (.inr (.inr (20, 0))), some (.inl w), some (.inl (nI f)), some (.inl (nI s)), some (.inl x), none] (vv.toList ++ []) tt)) from ⟨fun q0 => (h.1 q0), fun q0 => ⟨am_le rfl, am_le rfl, trivial, (h.2 q0)⟩⟩)
set_option maxRecDepth 100000 in
set_option maxHeartbeats 400000 in
theorem b_ft108 {K : Option am_V → am_M → Prop} {X : Nat → am_L → List am_V → am_M → Prop} (hX : am_cl eX7_fits lX7_fits (some .int) K X) {σ : am_M} (w : Int32) (f s : Nat) (h : X 29 [some (.inr (.inr (20, 0))), some (.inl w), some (.inl (nI f)), some (.inl ((nI s) + (1 : Int32))), none, none] [] σ) : X 108 [some (.inr (.inr (20, 0))), some (.inl w), some (.inl (nI f)), some (.inl (nI s)), none, none] [] σ := am_run_ok emX7_fits hX [29] 400 (show X 29 [some (.inr (.inr (20, 0))), some (.inl w), some (.inl (nI f)), some (.inl ((nI s) + (1 : Int32))), none, none] [] σ from h)
set_option maxRecDepth 100000 in
set_option maxHeartbeats 400000 in
theorem b_ft120 {K : Option am_V → am_M → Prop} {X : Nat → am_L → List am_V → am_M → Prop} (hX : am_cl eX7_fits lX7_fits (some .int) K X) {σ : am_M} (w v : Int32) (f s : Nat) (h : K (some (.inl v)) σ) : X 120 [some (.inr (.inr (20, 0))), some (.inl w), some (.inl (nI f)), some (.inl (nI s)), none, none] [.inl v] σ := am_run_ok emX7_fits hX [] 400 (show K (some (.inl v)) σ from h)
theorem m_2k (k : Nat) : (2 : Int32) * nI k = nI (2 * k) := by
  show nI 2 * nI k = _
  rw [pk_mul]
/-- a boat that fits with what was seen, to the reference -/
def m_fit (σ : am_M) (m : Nat) (sw : Nat → Nat) (S : Nat) : Bool := m_boat σ S && (List.range m).all fun k => decide ((if S.testBit (sw k) then (1 : Int32) else 0) = σ 27 0 (2 * k + 1))
set_option maxHeartbeats 1000000 in
theorem tX7_fits {σ : am_M} {w : Int32} {pl m : Nat} {sw : Nat → Nat} {K : am_K} (ho : m_ok σ) (hpl : m_pl σ = nI pl) (h5 : pl ≤ 5) (hm : σ 20 0 23 = nI m) (h6 : m ≤ 6) (hsw : ∀ k, k < m → σ 27 0 (2 * k) = nI (sw k) ∧ sw k < 9) (hb : (w < 0 ∨ 3 < w) → K (some (.inl (-1 : Int32))) σ) (h : ¬ (w < 0 ∨ 3 < w) → ∀ τ, m_col σ τ (q_ls (m_fit σ m sw) (2 ^ m_n σ)) (m_n σ) → K (some (.inl (a_tell (q_ls (m_fit σ m sw) (2 ^ m_n σ)) w (2 ^ m_n σ - 1)))) τ) : sX7_fits [.inr (.inr (20, 0)), .inl w] σ K := by
  obtain ⟨hn, h9⟩ := m_ok_e ho
  have h2 : 2 ^ m_n σ ≤ 512 := Nat.pow_le_pow_right (n := 2) (by decide) h9
  have h1 : 1 ≤ 2 ^ m_n σ := Nat.one_le_two_pow
  have ef : nI (2 ^ m_n σ) - (1 : Int32) = nI (2 ^ m_n σ - 1) := pk_sub (b := 1) h1
  refine ⟨am_le rfl, fun X hX => b_ft0 hX w ⟨fun a => hb (Or.inl a), fun a => ⟨fun b => hb (Or.inr b), fun b => ?_⟩⟩⟩
  have hw : ¬ (w < 0 ∨ 3 < w) := fun q => q.elim a b
  refine m_col_0 hn h9 (fun τ0 hc0 => b_ft27 hX w _ ?_)
  rw [hn, q_one _ (by omega), ef]
  generalize hF : 2 ^ m_n σ - 1 = f at h ef ⊢
  have hf1 : f + 1 = 2 ^ m_n σ := by omega
  rw [← hf1] at h
  generalize hP : m_fit σ m sw = P at h
  have hPs : ∀ S, P S = m_fit σ m sw S := fun S => by rw [← hP]
  have hall : ∀ S, S ∈ q_ls P (f + 1) → S < 2 ^ m_n σ := fun S hS => by
    have := (q_ls_mem.mp hS).1
    omega
  have hl5 : ∀ s, s ≤ 512 → (q_ls P s).length < 512 := fun s hs => Nat.lt_of_le_of_lt (q_ls_z (z := pl) (by omega) hs (fun S hS => m_boat_z hpl h5 (by rw [hPs] at hS; unfold m_fit at hS; simp only [Bool.and_eq_true] at hS; exact hS.1))) (by decide)
  refine q_dn (W := fun s => ∀ τ, m_col σ τ (q_ls P s) (m_n σ) → X 29 [some (.inr (.inr (20, 0))), some (.inl w), some (.inl (nI f)), some (.inl (nI s)), none, none] [] τ) (n := f + 1) (fun s hs ih τ hc => ?_) (fun τ hc => ?_) 0 (Nat.zero_le _) τ0 hc0
  · have hot := m_col_ok hc ho
    have hmt : τ 20 0 23 = nI m := by rw [hc.2.1 23 (by omega), hm]
    have h27 : τ 27 = σ 27 := hc.1 27 (by decide)
    have next : ∀ τ' x, m_col σ τ' (q_ls P (s + 1)) (m_n σ) → X 108 [some (.inr (.inr (20, 0))), some (.inl w), some (.inl (nI f)), some (.inl (nI s)), x, none] [] τ' := by
      intro τ' x hc'
      refine am_fo hX (ls := [some (.inr (.inr (20, 0))), some (.inl w), some (.inl (nI f)), some (.inl (nI s)), none, none]) ⟨rfl, rfl, rfl, rfl, trivial⟩ (b_ft108 hX w f s ?_)
      rw [show nI s + (1 : Int32) = nI (s + 1) from nI_1 s]
      exact ih τ' hc'
    have inner : ∀ k, k ≤ m → ∀ (b : Bool), b = (m_boat σ s && (List.range k).all fun k => decide ((if s.testBit (sw k) then (1 : Int32) else 0) = σ 27 0 (2 * k + 1))) → X 44 [some (.inr (.inr (20, 0))), some (.inl w), some (.inl (nI f)), some (.inl (nI s)), some (.inl (if b then 1 else 0)), some (.inl (nI k))] [] τ := by
      refine q_dn (fun k hk ihk b hb => ?_) (fun b hb => ?_)
      · obtain ⟨e1, e2⟩ := hsw k hk
        refine b_ft44 hX w _ f s k ?_
        rw [hmt, m_2k, show nI (2 * k) + (1 : Int32) = nI (2 * k + 1) from nI_1 _, nI_clamp (by omega), nI_clamp (by omega), h27, e1, q_bitv (by omega) (by omega), q_ite0, show nI k + (1 : Int32) = nI (k + 1) from nI_1 k]
        have hs1 : (m_boat σ s && (List.range (k + 1)).all fun k => decide ((if s.testBit (sw k) then (1 : Int32) else 0) = σ 27 0 (2 * k + 1))) = (b && decide ((if s.testBit (sw k) then (1 : Int32) else 0) = σ 27 0 (2 * k + 1))) := by
          rw [q_all_succ, ← Bool.and_assoc, ← hb]
        refine ⟨fun q => absurd q (nI_ge hk (by omega)), fun _ => ⟨fun c => ?_, fun c => ⟨q_in (by omega) (by decide), q_in (by omega) (by decide), fun d => ?_, fun d => ?_⟩⟩⟩
        · exact ihk false (by rw [hs1, c]; rfl)
        · have c' : b = true := by simpa using c
          exact ihk true (by rw [hs1, c']; simp [d])
        · have c' : b = true := by simpa using c
          exact ihk false (by rw [hs1, c']; simp [d])
      · refine b_ft44 hX w _ f s m ⟨fun _ => ?_, fun q => absurd ?_ q⟩
        · refine am_fo hX (ls := [some (.inr (.inr (20, 0))), some (.inl w), some (.inl (nI f)), some (.inl (nI s)), some (.inl (if b then 1 else 0)), none]) ⟨rfl, rfl, rfl, rfl, rfl, trivial⟩ (b_ft98 hX w _ f s ?_)
          rw [q_ite0]
          refine ⟨fun c => next τ _ ?_, fun c => m_col_s hc (hl5 s (by omega)) (fun τ' hc' => next τ' _ ?_)⟩
          · rw [q_ls_no (by rw [hPs]; unfold m_fit; rw [← hb, c]; decide)]
            exact hc
          · have c' : b = true := by simpa using c
            rw [q_ls_yes (by rw [hPs]; unfold m_fit; rw [← hb, c'])]
            exact hc'
        · rw [hmt]
          exact nI_le (Nat.le_refl _) (by omega)
    refine b_ft29 hX w f s ?_
    rw [m_col_b hc]
    refine ⟨fun q => absurd q (nI_nlt (by omega) (by omega)), fun _ => ⟨hot, by omega, fun a => ?_, fun a => ?_⟩⟩
    · exact inner 0 (Nat.zero_le _) true (by simp [a])
    · exact inner 0 (Nat.zero_le _) false (by simp [a])
  · refine b_ft29 hX w f (f + 1) ⟨fun _ => uX7_answers h9 hc (hl5 _ (by omega)) hall (b_ft120 hX w _ f (f + 1) (h hw τ hc)), fun q => absurd (nI_lt (by omega) (by omega)) q⟩
