/-! pairs: price, see, rule, board, go -/
set_option maxRecDepth 100000 in
set_option maxHeartbeats 400000 in
theorem b_yd0 {K : Option am_V → am_M → Prop} {X : Nat → am_L → List am_V → am_M → Prop} (hX : am_cl eX7_board lX7_board (some .int) K X) {σ : am_M} (a : Int32) (h : sX7_boarded [.inr (.inr (20, 0)), .inl a] σ (fun vv tt => X 5 [some (.inr (.inr (20, 0))), some (.inl a)] (vv.toList ++ []) tt)) : X 0 [some (.inr (.inr (20, 0))), some (.inl a)] [] σ := am_run_ok emX7_board hX [5] 400 (show 2 ≤ 2 ∧ 0 ≤ 8 ∧ True ∧ sX7_boarded [.inr (.inr (20, 0)), .inl a] σ (fun vv tt => X 5 [some (.inr (.inr (20, 0))), some (.inl a)] (vv.toList ++ []) tt) from ⟨am_le rfl, am_le rfl, trivial, h⟩)
set_option maxRecDepth 100000 in
set_option maxHeartbeats 400000 in
theorem b_yd5 {K : Option am_V → am_M → Prop} {X : Nat → am_L → List am_V → am_M → Prop} (hX : am_cl eX7_board lX7_board (some .int) K X) {σ : am_M} (a v : Int32) (h : K (some (.inl v)) σ) : X 5 [some (.inr (.inr (20, 0))), some (.inl a)] [.inl v] σ := am_run_ok emX7_board hX [] 400 (show K (some (.inl v)) σ from h)
theorem tX7_board0 {σ : am_M} {a r : Int32} (h : sX7_boarded [am_r 20 0, .inl a] σ (fun w τ => w = some (.inl r) ∧ Inv τ)) : sX7_board [am_r 20 0, .inl a] σ (fun w τ => w = some (.inl r) ∧ Inv τ) := ⟨am_le rfl, fun X hX => b_yd0 hX a (msX7_boarded _ _ _ _ (fun w τ q => by rw [q.1]; exact b_yd5 hX _ _ ⟨rfl, q.2⟩) h)⟩
theorem iv_mset2 {σ τ : am_M} {n pl : Nat} (h : iv σ n pl) (e : τ 21 = σ 21) : m_set τ 0 n (c_r σ 0) (σ 3 0 5) (σ 3 0 6) = τ := by
  obtain ⟨h9, a1, ⟨b1, b2, b3, b4, b5, b6, b7, b8, b9, b10, b11⟩, -⟩ := h
  have em : m_r τ 0 = m_r σ 0 := by
    unfold m_r
    rw [e]
  rw [m_set_cg h9 b2, ← em, b8.1, b9, ← e]
  exact m_set_id (g := 0) h9
theorem t_res_ok {r : Rw} {n pl p : Nat} {bt : Int32} (h9 : n ≤ 9) (hp : p < n) (ok : p_ok r n p = true) : nI (q_pop (p_who (p_brd n pl r bt p).1 n 2) 9) = t_res r n pl p := by
  have h1 : r p 6 = 1 := by
    unfold p_ok at ok
    simp at ok
    exact ok.1
  unfold p_brd t_res
  rw [if_pos ok, if_pos h1, if_pos ok]
  by_cases fl : p_full r n pl = true
  · rw [if_pos fl, if_pos fl]
    have e : p_who (p_mv (r_set r p 6 2) 2 3) n 2 = 0 := by
      apply Nat.eq_of_testBit_eq
      intro i
      rw [p_who_bit, Nat.zero_testBit]
      unfold p_mv
      by_cases c : r_set r p 6 2 i 6 = 2
      · simp [c]
      · simp [c]
    show nI (q_pop (p_who (p_mv (r_set r p 6 2) 2 3) n 2) 9) = 0
    rw [e, q_pop_0]
    rfl
  · rw [if_neg fl, if_neg fl]
    have e := q_pop_ins (S := p_who r n 2) (T := p_who (r_set r p 6 2) n 2) (p := p) (by rw [p_who_bit, h1]; simp) (fun i => by
      rw [p_who_bit, p_who_bit]
      unfold r_set
      by_cases c : i = p
      · subst c
        simp [hp]
      · simp [c]) (m := 9) (by omega)
    show nI (q_pop (p_who (r_set r p 6 2) n 2) 9) = _
    rw [e]
theorem t_res_no {r : Rw} {n pl p : Nat} {bt : Int32} (ok : ¬ p_ok r n p = true) : p_brd n pl r bt p = (r, bt) := by
  unfold p_brd
  rw [if_neg ok]
/-- boardings, hours at a plain memory -/
theorem uX0_takeAboard {σ : am_M} {c n pl i : Nat} {K : am_K} (ho : σ 3 c 1 = nI n) (h9 : n ≤ 9) (hp : σ 3 c 2 = nI pl) (hpl : pl ≤ 5) (hi : i < n) (hv : p_inv (c_r σ c) n pl) (h : K (some (.inl (t_res (c_r σ c) n pl i))) (c_set σ c n (p_brd n pl (c_r σ c) (σ 3 c 6) i).1 (σ 3 c 5) (p_brd n pl (c_r σ c) (σ 3 c 6) i).2)) : sX0_takeAboard [.inr (.inr (3, c)), .inl (nI i)] σ K := by
  have hn : c_n σ c = n := by
    unfold c_n
    rw [ho, nI_clamp (by omega)]
  have := tX0_takeAboard (σ := σ) (c := c) (pl := pl) (i := i) (r := c_r σ c) (hr := σ 3 c 5) (bt := σ 3 c 6) (K := K) (q_lim_of ho h9 (by decide)) hp hpl (by rw [hn]; exact hi) (by rw [hn]; exact hv) (by rw [hn]; exact h)
  rw [c_set_id] at this
  exact this
theorem uX0_passHours {σ : am_M} {c n pl m : Nat} {K : am_K} (ho : σ 3 c 1 = nI n) (h9 : n ≤ 9) (hp : σ 3 c 2 = nI pl) (hpl : pl ≤ 5) (hm : m < 2 ^ 31) (hv : p_inv (c_r σ c) n pl) (h : K (some (.inl ((p_hrs n pl (c_r σ c) (σ 3 c 5) (σ 3 c 6) m).2 - σ 3 c 6))) (c_set σ c n (p_hrs n pl (c_r σ c) (σ 3 c 5) (σ 3 c 6) m).1 (σ 3 c 5 + nI m) (p_hrs n pl (c_r σ c) (σ 3 c 5) (σ 3 c 6) m).2)) : sX0_passHours [.inr (.inr (3, c)), .inl (nI m)] σ K := by
  have hn : c_n σ c = n := by
    unfold c_n
    rw [ho, nI_clamp (by omega)]
  have := tX0_passHours (σ := σ) (c := c) (pl := pl) (m := m) (r := c_r σ c) (hr := σ 3 c 5) (bt := σ 3 c 6) (K := K) (q_lim_of ho h9 (by decide)) hp hpl hm (by rw [hn]; exact hv) (by rw [hn]; exact h)
  rw [c_set_id] at this
  exact this
theorem uX7_boards0 {σ τ : am_M} {n pl i : Nat} {K : am_K} (hv : iv σ n pl) (e20 : τ 20 0 1 = σ 20 0 1) (e : τ 21 = σ 21) (hi : i < n) (h : K (some (.inl (if p_ok (c_r σ 0) n i then 1 else 0))) (m_set τ 0 n (p_brd n pl (c_r σ 0) (σ 3 0 6) i).1 (σ 3 0 5) (p_brd n pl (c_r σ 0) (σ 3 0 6) i).2)) : sX7_boards [.inr (.inr (20, 0)), .inl (nI 0), .inl (nI i)] τ K := by
  have h9 := hv.1
  have a1 : τ 20 0 1 = nI n := e20.trans hv.2.1
  have b4 := hv.2.2.1.2.2.2.1
  have b5 := hv.2.2.1.2.2.2.2.1
  have hn : m_n τ = n := by
    unfold m_n
    rw [a1, nI_clamp (by omega)]
  have := tX7_boards (σ := τ) (g := 0) (pl := pl) (p := i) (r := c_r σ 0) (hr := σ 3 0 5) (bt := σ 3 0 6) (K := K) (by decide) (q_lim_of a1 h9 (by decide)) (by rw [e]; exact b4) b5.2 (by rw [hn]; exact hi) (Or.inl rfl) (by rw [hn]; exact h)
  rw [hn, iv_mset2 hv e] at this
  exact this
theorem uX7_goesOn0 {σ τ : am_M} {n pl m : Nat} {K : am_K} (hv : iv σ n pl) (e20 : τ 20 0 1 = σ 20 0 1) (e : τ 21 = σ 21) (hm : m < 2 ^ 31) (h : K (some (.inl ((p_hrs n pl (c_r σ 0) (σ 3 0 5) (σ 3 0 6) m).2 - σ 3 0 6))) (m_set τ 0 n (p_hrs n pl (c_r σ 0) (σ 3 0 5) (σ 3 0 6) m).1 (σ 3 0 5 + nI m) (p_hrs n pl (c_r σ 0) (σ 3 0 5) (σ 3 0 6) m).2)) : sX7_goesOn [.inr (.inr (20, 0)), .inl (nI 0), .inl (nI m)] τ K := by
  have h9 := hv.1
  have a1 : τ 20 0 1 = nI n := e20.trans hv.2.1
  have b4 := hv.2.2.1.2.2.2.1
  have b5 := hv.2.2.1.2.2.2.2.1
  have b10 := hv.2.2.1.2.2.2.2.2.2.2.2.2.1
  have hn : m_n τ = n := by
    unfold m_n
    rw [a1, nI_clamp (by omega)]
  have := tX7_goesOn (σ := τ) (g := 0) (pl := pl) (m := m) (r := c_r σ 0) (hr := σ 3 0 5) (bt := σ 3 0 6) (K := K) (by decide) (q_lim_of a1 h9 (by decide)) (by rw [e]; exact b4) b5.2 hm (Or.inl rfl) (by rw [hn]; exact rok_pat b10) (by rw [hn]; exact h)
  rw [hn, iv_mset2 hv e] at this
  exact this
theorem pr_board {σ : am_M} {a : Int32} (hI : Inv σ) : pairI sX6_board sX7_board [.inl a] σ := by
  obtain ⟨n, pl, hv⟩ := id hI
  obtain ⟨h9, a1, a2, a3, a4, a5, a6, a7, a8⟩ := id hv
  obtain ⟨b1, b2, b3, b4, b5, b6, b7, b8, b9, b10, b11⟩ := id a2
  obtain ⟨f1, f2, f3, f4, f5⟩ := iv_f hv
  refine ⟨am_le rfl, fun X hX => b_xb0 hX a ?_⟩
  have bad : (a < 0 ∨ nI n ≤ a) → sX0_takeAboard [am_r 3 0, .inl a] σ (fun vv tt => X 8 [some (am_r 0 0), some (.inl a)] (vv.toList ++ []) tt) := by
    intro q
    refine tX0_takeNone (by rw [b1]; exact q) (b_xb8 hX _ _ ⟨_, rfl, tX7_board0 ⟨am_le rfl, fun Y hY => b_bb0 hY a ?_⟩⟩)
    rw [a1, q_m1 (by omega)]
    exact ⟨fun _ => ⟨rfl, hI⟩, fun c1 => ⟨fun _ => ⟨rfl, hI⟩, fun c2 => (q.elim c1 c2).elim⟩⟩
  by_cases c1 : a < 0
  · exact bad (Or.inl c1)
  by_cases c2 : nI n ≤ a
  · exact bad (Or.inr c2)
  clear bad
  rcases pk_ix a (n := n) (by omega) with q | q | ⟨i, hi, rfl⟩
  · exact absurd q c1
  · exact absurd q c2
  refine uX0_takeAboard b1 h9 b3 b5.2 hi b11 (b_xb8 hX _ _ ⟨_, rfl, tX7_board0 ⟨am_le rfl, fun Y hY => b_bb0 hY _ ?_⟩⟩)
  have e20 : c_set σ 0 n (p_brd n pl (c_r σ 0) (σ 3 0 6) i).1 (σ 3 0 5) (p_brd n pl (c_r σ 0) (σ 3 0 6) i).2 20 = σ 20 := c_set_k (by decide) (by decide)
  have e21 : c_set σ 0 n (p_brd n pl (c_r σ 0) (σ 3 0 6) i).1 (σ 3 0 5) (p_brd n pl (c_r σ 0) (σ 3 0 6) i).2 21 = σ 21 := c_set_k (by decide) (by decide)
  have e6 : σ 21 0 (7 * i + 6) = c_r σ 0 i 6 := by
    rw [b2 i 6 hi (by decide)]
    unfold m_r
    rw [Nat.zero_add]
  have hv2 := iv_set (r := (p_brd n pl (c_r σ 0) (σ 3 0 6) i).1) (r' := (p_brd n pl (c_r σ 0) (σ 3 0 6) i).1) (hr := σ 3 0 5) (bt := (p_brd n pl (c_r σ 0) (σ 3 0 6) i).2) hv (rok_brd b10) (p_inv_brd h9 hi b11) b8.2 (fun _ _ _ _ => rfl)
  rw [e20, e21, a1, q_m1 (by omega), m_071, nI_clamp (by omega), e6]
  have idn : ¬ p_ok (c_r σ 0) n i = true → c_set σ 0 n (p_brd n pl (c_r σ 0) (σ 3 0 6) i).1 (σ 3 0 5) (p_brd n pl (c_r σ 0) (σ 3 0 6) i).2 = σ := fun q => by
    rw [t_res_no q]
    exact c_set_id
  refine ⟨fun q => absurd q c1, fun _ => ⟨fun q => absurd q c2, fun _ => ⟨q_in (by omega) (by decide), fun c3 => ?_, fun c3 => ?_⟩⟩⟩
  · refine uX7_boards0 hv (by rw [e20]) e21 hi (b_bb29 hY _ _ ?_)
    obtain ⟨k1, k2, k3, k4, k5⟩ := iv_f hv2
    refine ⟨fun q => ?_, fun q => ⟨k3, p_who_lt (by rw [k4]; exact h9), ?_, n, pl, hv2⟩⟩
    · have ok : ¬ p_ok (c_r σ 0) n i = true := fun ok => by
        rw [ok] at q
        exact absurd q (by decide)
      refine ⟨?_, n, pl, hv2⟩
      unfold t_res
      rw [if_pos c3, if_neg ok]
    · have ok : p_ok (c_r σ 0) n i = true := by
        cases ok : p_ok (c_r σ 0) n i
        · rw [ok] at q
          exact absurd rfl q
        · rfl
      rw [k4, ← t_res_ok (bt := σ 3 0 6) h9 hi ok]
      rw [m_who_set]
  · have ok : ¬ p_ok (c_r σ 0) n i = true := fun q => by
      unfold p_ok at q
      simp at q
      exact c3 q.1
    refine ⟨?_, ?_⟩
    · unfold t_res
      rw [if_neg c3]
    · rw [idn ok]
      exact hI
theorem pr_go {σ : am_M} {a : Int32} (hI : Inv σ) : pairI sX6_go sX7_go [.inl a] σ := by
  obtain ⟨n, pl, hv⟩ := id hI
  obtain ⟨h9, a1, a2, a3, a4, a5, a6, a7, a8⟩ := id hv
  obtain ⟨b1, b2, b3, b4, b5, b6, b7, b8, b9, b10, b11⟩ := id a2
  refine ⟨am_le rfl, fun X hX => b_xg0 hX a ⟨fun c1 => ⟨_, rfl, am_le rfl, fun Y hY => b_yg0 hY _ ⟨fun _ => ⟨rfl, hI⟩, fun q => absurd c1 q⟩⟩, fun c1 => ⟨fun c2 => ⟨_, rfl, am_le rfl, fun Y hY => b_yg0 hY _ ⟨fun q => absurd q c1, fun _ => ⟨fun _ => ⟨rfl, hI⟩, fun q => absurd c2 q⟩⟩⟩, fun c2 => ?_⟩⟩⟩
  obtain ⟨m, m30, rfl⟩ := q_0b (b := 30) rfl (by decide) c1 c2
  obtain ⟨hh, hl⟩ := b8.2
  have key : (σ 3 0 5 + nI m < (1000 : Int32) ↔ (σ 3 0 5).toNatClampNeg + m ≤ 999) ∧ (σ 3 0 5 + nI m ≤ (999 : Int32) ↔ (σ 3 0 5).toNatClampNeg + m ≤ 999) := by
    rw [hh]
    generalize (σ 3 0 5).toNatClampNeg = h at hl ⊢
    rw [nI_clamp (by omega), nI_add]
    refine ⟨(show nI (h + m) < (1000 : Int32) ↔ h + m < 1000 from nI_ltI (b := 1000) (by omega) (by decide)).trans (by omega), ?_⟩
    rw [Int32.le_iff_toInt_le, nI_toInt (by omega)]
    show ((h + m : Nat) : Int) ≤ 999 ↔ _
    omega
  refine ⟨fun c3 => ?_, fun c3 => ⟨_, rfl, am_le rfl, fun Y hY => b_yg0 hY _ ⟨fun q => absurd q c1, fun _ => ⟨fun q => absurd q c2, fun _ => ⟨fun q => ?_, fun _ => b_yg40 hY _ _ ⟨rfl, hI⟩⟩⟩⟩⟩⟩
  · refine uX0_passHours b1 h9 b3 b5.2 (by omega) b11 (b_xg38 hX _ _ ⟨_, rfl, am_le rfl, fun Y hY => b_yg0 hY _ ?_⟩)
    have e20 : c_set σ 0 n (p_hrs n pl (c_r σ 0) (σ 3 0 5) (σ 3 0 6) m).1 (σ 3 0 5 + nI m) (p_hrs n pl (c_r σ 0) (σ 3 0 5) (σ 3 0 6) m).2 20 = σ 20 := c_set_k (by decide) (by decide)
    have e21 : c_set σ 0 n (p_hrs n pl (c_r σ 0) (σ 3 0 5) (σ 3 0 6) m).1 (σ 3 0 5 + nI m) (p_hrs n pl (c_r σ 0) (σ 3 0 5) (σ 3 0 6) m).2 21 = σ 21 := c_set_k (by decide) (by decide)
    refine ⟨fun q => absurd q c1, fun _ => ⟨fun q => absurd q c2, fun _ => ⟨fun q => ?_, fun q => ?_⟩⟩⟩
    · refine uX7_goesOn0 hv (by rw [e20]) e21 (by omega) (b_yg40 hY _ _ ⟨rfl, n, pl, iv_set hv (rok_hrs b10 m) (p_inv_hrs h9 b11 m) ?_ (fun _ _ _ _ => rfl)⟩)
      have k := key.1.1 c3
      rw [hh, nI_add]
      exact q_lim_n k (by decide)
    · rw [e21, ← b8.1] at q
      exact absurd (key.2.2 (key.1.1 c3)) q
  · rw [← b8.1] at q
    exact absurd (key.1.2 (key.2.1 q)) c3
