/-! pairs: come, leave, price, see, rule, board, go -/
theorem pr_come {σ : am_M} {a : Int32} (hI : Inv σ) : pairI sX6_come sX7_come [.inl a] σ := by
  have hfr : (0 : Int32) ≠ 2 := by decide
  have hto : (1 : Int32) ≠ 2 := by decide
  have hl : q_lim (1 : Int32) 4 := q_lim_n (n := 1) (by decide) (by decide)
  obtain ⟨n, pl, hv⟩ := id hI
  obtain ⟨h9, a1, a2, a3, a4, a5, a6, a7, a8⟩ := id hv
  obtain ⟨f1, f2, f3, f4, f5⟩ := iv_f hv
  refine tX6_come ?_
  rw [a2.1]
  have bad : (a < 0 ∨ nI n ≤ a) → ∃ r : Int32, some (Sum.inl (-1 : Int32) : am_V) = some (.inl r) ∧ sX7_come [am_r 20 0, .inl a] σ (fun w τ2 => w = some (.inl r) ∧ Inv τ2) := by
    intro q
    refine ⟨_, rfl, tX7_come ?_⟩
    rw [a1, q_m1 (by omega)]
    exact ⟨fun _ => ⟨rfl, hI⟩, fun c1 => ⟨fun _ => ⟨rfl, hI⟩, fun c2 => (q.elim c1 c2).elim⟩⟩
  refine ⟨fun c1 => bad (Or.inl c1), fun c1 => ⟨fun c2 => bad (Or.inr c2), fun c2 => ?_⟩⟩
  rcases pk_ix a (n := n) (by omega) with q | q | ⟨i, hi, rfl⟩
  · exact absurd q c1
  · exact absurd q c2
  have vi : vp_in (nI i) 9 := q_in (by omega) (by decide)
  have v6 : vp_in (nI (7 * i + 6)) 340 := q_in (by omega) (by decide)
  rw [nI_clamp (by omega)]
  have e6 : σ 5 (9 * 0 + i) 6 = σ 21 0 (7 * i + 6) := by
    have := a2.2.1 i 6 hi (by decide)
    unfold c_r m_r at this
    rw [this, Nat.zero_add]
  refine ⟨vi, fun e => ⟨vi, f1, _, rfl, tX7_come ?_⟩, fun e => ⟨_, rfl, tX7_come ?_⟩⟩
  · have g1 : am_u σ 5 (9 * 0 + i) 6 (1 : Int32) 20 0 1 = nI n := a1
    have g2 : am_u σ 5 (9 * 0 + i) 6 (1 : Int32) 21 = σ 21 := am_u_k (by decide)
    have hv2 := iv_row hv hi (j := 6) (v := (1 : Int32)) (by decide) hl (fun _ => ⟨fun q => absurd (e.symm.trans q) hfr, fun q => absurd q hto⟩)
    obtain ⟨k1, k2, k3, k4, k5⟩ := iv_f hv2
    rw [g1, q_m1 (by omega), m_071, show (7 : Int32) * nI i + (6 : Int32) = nI (7 * i + 6) from m_i7w i 6, nI_clamp (by omega), g2, ← e6]
    refine ⟨fun q => absurd q c1, fun _ => ⟨fun q => absurd q c2, fun _ => ⟨v6, fun _ => ⟨v6, k3, p_who_lt (by rw [k4]; exact h9), ?_, n, pl, hv2⟩, fun q => absurd e q⟩⟩⟩
    rw [k4, k5, ← c_many_p k2]
    rfl
  · rw [a1, q_m1 (by omega), m_071, nI_clamp (by omega), ← e6]
    exact ⟨fun q => absurd q c1, fun _ => ⟨fun q => absurd q c2, fun _ => ⟨v6, fun q => absurd q e, fun _ => ⟨rfl, hI⟩⟩⟩⟩
theorem pr_leave {σ : am_M} {a : Int32} (hI : Inv σ) : pairI sX6_leave sX7_leave [.inl a] σ := by
  have hfr : (1 : Int32) ≠ 2 := by decide
  have hto : (4 : Int32) ≠ 2 := by decide
  have hl : q_lim (4 : Int32) 4 := q_lim_n (n := 4) (by decide) (by decide)
  obtain ⟨n, pl, hv⟩ := id hI
  obtain ⟨h9, a1, a2, a3, a4, a5, a6, a7, a8⟩ := id hv
  obtain ⟨f1, f2, f3, f4, f5⟩ := iv_f hv
  refine tX6_leave ?_
  rw [a2.1]
  have bad : (a < 0 ∨ nI n ≤ a) → ∃ r : Int32, some (Sum.inl (-1 : Int32) : am_V) = some (.inl r) ∧ sX7_leave [am_r 20 0, .inl a] σ (fun w τ2 => w = some (.inl r) ∧ Inv τ2) := by
    intro q
    refine ⟨_, rfl, tX7_leave ?_⟩
    rw [a1, q_m1 (by omega)]
    exact ⟨fun _ => ⟨rfl, hI⟩, fun c1 => ⟨fun _ => ⟨rfl, hI⟩, fun c2 => (q.elim c1 c2).elim⟩⟩
  refine ⟨fun c1 => bad (Or.inl c1), fun c1 => ⟨fun c2 => bad (Or.inr c2), fun c2 => ?_⟩⟩
  rcases pk_ix a (n := n) (by omega) with q | q | ⟨i, hi, rfl⟩
  · exact absurd q c1
  · exact absurd q c2
  have vi : vp_in (nI i) 9 := q_in (by omega) (by decide)
  have v6 : vp_in (nI (7 * i + 6)) 340 := q_in (by omega) (by decide)
  rw [nI_clamp (by omega)]
  have e6 : σ 5 (9 * 0 + i) 6 = σ 21 0 (7 * i + 6) := by
    have := a2.2.1 i 6 hi (by decide)
    unfold c_r m_r at this
    rw [this, Nat.zero_add]
  refine ⟨vi, fun e => ⟨vi, f1, _, rfl, tX7_leave ?_⟩, fun e => ⟨_, rfl, tX7_leave ?_⟩⟩
  · have g1 : am_u σ 5 (9 * 0 + i) 6 (4 : Int32) 20 0 1 = nI n := a1
    have g2 : am_u σ 5 (9 * 0 + i) 6 (4 : Int32) 21 = σ 21 := am_u_k (by decide)
    have hv2 := iv_row hv hi (j := 6) (v := (4 : Int32)) (by decide) hl (fun _ => ⟨fun q => absurd (e.symm.trans q) hfr, fun q => absurd q hto⟩)
    obtain ⟨k1, k2, k3, k4, k5⟩ := iv_f hv2
    rw [g1, q_m1 (by omega), m_071, show (7 : Int32) * nI i + (6 : Int32) = nI (7 * i + 6) from m_i7w i 6, nI_clamp (by omega), g2, ← e6]
    refine ⟨fun q => absurd q c1, fun _ => ⟨fun q => absurd q c2, fun _ => ⟨v6, fun _ => ⟨v6, k3, p_who_lt (by rw [k4]; exact h9), ?_, n, pl, hv2⟩, fun q => absurd e q⟩⟩⟩
    rw [k4, k5, ← c_many_p k2]
    rfl
  · rw [a1, q_m1 (by omega), m_071, nI_clamp (by omega), ← e6]
    exact ⟨fun q => absurd q c1, fun _ => ⟨fun q => absurd q c2, fun _ => ⟨v6, fun q => absurd q e, fun _ => ⟨rfl, hI⟩⟩⟩⟩
set_option maxRecDepth 100000 in
set_option maxHeartbeats 400000 in
theorem tX6_rule {σ : am_M} {a : Int32} {K : Option am_V → am_M → Prop} (h : (((a).toInt = 0) → K (some (.inl (σ 3 0 1))) σ) ∧ (¬ ((a).toInt = 0) → (((a).toInt = 1) → K (some (.inl (σ 3 0 2))) σ) ∧ (¬ ((a).toInt = 1) → (((a).toInt = 2) → K (some (.inl (σ 3 0 3))) σ) ∧ (¬ ((a).toInt = 2) → (((a).toInt = 3) → K (some (.inl (σ 3 0 4))) σ) ∧ (¬ ((a).toInt = 3) → (((a).toInt = 4) → K (some (.inl (σ 3 0 5))) σ) ∧ (¬ ((a).toInt = 4) → (((a).toInt = 5) → K (some (.inl (σ 3 0 6))) σ) ∧ (¬ ((a).toInt = 5) → (((a).toInt = 6) → (c_ok σ 0) ∧ (K (some (.inl (nI (c_who σ 0 (1 : Int32))))) σ)) ∧ (¬ ((a).toInt = 6) → (((a).toInt = 7) → (c_ok σ 0) ∧ (K (some (.inl (nI (c_who σ 0 (2 : Int32))))) σ)) ∧ (¬ ((a).toInt = 7) → (((a).toInt = 8) → (c_ok σ 0) ∧ (K (some (.inl (nI (c_who σ 0 (3 : Int32))))) σ)) ∧ (¬ ((a).toInt = 8) → (((a).toInt = 9) → (c_ok σ 0) ∧ (K (some (.inl (nI (c_who σ 0 (4 : Int32))))) σ)) ∧ (¬ ((a).toInt = 9) → K (some (.inl (-1 : Int32))) σ))))))))))) : sX6_rule [.inr (.inr (0, 0)), .inl a] σ K := ⟨am_le rfl, fun X hX => am_run_ok emX6_rule hX [] 2000 (show (_) ∧ ((((a).toInt = 0) → K (some (.inl (σ 3 0 1))) σ) ∧ (¬ ((a).toInt = 0) → (((a).toInt = 1) → K (some (.inl (σ 3 0 2))) σ) ∧ (¬ ((a).toInt = 1) → (((a).toInt = 2) → K (some (.inl (σ 3 0 3))) σ) ∧ (¬ ((a).toInt = 2) → (((a).toInt = 3) → K (some (.inl (σ 3 0 4))) σ) ∧ (¬ ((a).toInt = 3) → (((a).toInt = 4) → K (some (.inl (σ 3 0 5))) σ) ∧ (¬ ((a).toInt = 4) → (((a).toInt = 5) → K (some (.inl (σ 3 0 6))) σ) ∧ (¬ ((a).toInt = 5) → (((a).toInt = 6) → 2 ≤ 2 ∧ 0 ≤ 8 ∧ True ∧ sX0_those [.inr (.inr (3, 0)), .inl (1 : Int32)] σ (fun vv tt => am_run eX6_rule lX6_rule (some .int) K X [] 1994 112 [some (.inr (.inr (0, 0))), some (.inl a)] (vv.toList ++ []) tt)) ∧ (¬ ((a).toInt = 6) → (((a).toInt = 7) → 2 ≤ 2 ∧ 0 ≤ 8 ∧ True ∧ sX0_those [.inr (.inr (3, 0)), .inl (2 : Int32)] σ (fun vv tt => am_run eX6_rule lX6_rule (some .int) K X [] 1994 121 [some (.inr (.inr (0, 0))), some (.inl a)] (vv.toList ++ []) tt)) ∧ (¬ ((a).toInt = 7) → (((a).toInt = 8) → 2 ≤ 2 ∧ 0 ≤ 8 ∧ True ∧ sX0_those [.inr (.inr (3, 0)), .inl (3 : Int32)] σ (fun vv tt => am_run eX6_rule lX6_rule (some .int) K X [] 1994 130 [some (.inr (.inr (0, 0))), some (.inl a)] (vv.toList ++ []) tt)) ∧ (¬ ((a).toInt = 8) → (((a).toInt = 9) → 2 ≤ 2 ∧ 0 ≤ 8 ∧ True ∧ sX0_those [.inr (.inr (3, 0)), .inl (4 : Int32)] σ (fun vv tt => am_run eX6_rule lX6_rule (some .int) K X [] 1994 139 [some (.inr (.inr (0, 0))), some (.inl a)] (vv.toList ++ []) tt)) ∧ (¬ ((a).toInt = 9) → K (some (.inl (-1 : Int32))) σ))))))))))) from ⟨by decide, ⟨fun q0 => (h.1 q0), fun q0 => ⟨fun q1 => ((h.2 q0).1 q1), fun q1 => ⟨fun q2 => (((h.2 q0).2 q1).1 q2), fun q2 => ⟨fun q3 => ((((h.2 q0).2 q1).2 q2).1 q3), fun q3 => ⟨fun q4 => (((((h.2 q0).2 q1).2 q2).2 q3).1 q4), fun q4 => ⟨fun q5 => ((((((h.2 q0).2 q1).2 q2).2 q3).2 q4).1 q5), fun q5 => ⟨fun q6 => ⟨am_le rfl, am_le rfl, trivial, tX0_those (⟨(((((((h.2 q0).2 q1).2 q2).2 q3).2 q4).2 q5).1 q6).1, (show K (some (.inl (nI (c_who σ 0 (1 : Int32))))) σ from (((((((h.2 q0).2 q1).2 q2).2 q3).2 q4).2 q5).1 q6).2)⟩)⟩, fun q6 => ⟨fun q7 => ⟨am_le rfl, am_le rfl, trivial, tX0_those (⟨((((((((h.2 q0).2 q1).2 q2).2 q3).2 q4).2 q5).2 q6).1 q7).1, (show K (some (.inl (nI (c_who σ 0 (2 : Int32))))) σ from ((((((((h.2 q0).2 q1).2 q2).2 q3).2 q4).2 q5).2 q6).1 q7).2)⟩)⟩, fun q7 => ⟨fun q8 => ⟨am_le rfl, am_le rfl, trivial, tX0_those (⟨(((((((((h.2 q0).2 q1).2 q2).2 q3).2 q4).2 q5).2 q6).2 q7).1 q8).1, (show K (some (.inl (nI (c_who σ 0 (3 : Int32))))) σ from (((((((((h.2 q0).2 q1).2 q2).2 q3).2 q4).2 q5).2 q6).2 q7).1 q8).2)⟩)⟩, fun q8 => ⟨fun q9 => ⟨am_le rfl, am_le rfl, trivial, tX0_those (⟨((((((((((h.2 q0).2 q1).2 q2).2 q3).2 q4).2 q5).2 q6).2 q7).2 q8).1 q9).1, (show K (some (.inl (nI (c_who σ 0 (4 : Int32))))) σ from ((((((((((h.2 q0).2 q1).2 q2).2 q3).2 q4).2 q5).2 q6).2 q7).2 q8).1 q9).2)⟩)⟩, fun q9 => ((((((((((h.2 q0).2 q1).2 q2).2 q3).2 q4).2 q5).2 q6).2 q7).2 q8).2 q9)⟩⟩⟩⟩⟩⟩⟩⟩⟩⟩⟩)⟩
set_option maxRecDepth 100000 in
set_option maxHeartbeats 400000 in
theorem tX7_rule {σ : am_M} {a : Int32} {K : Option am_V → am_M → Prop} (h : (((a).toInt = 0) → K (some (.inl (σ 20 0 1))) σ) ∧ (¬ ((a).toInt = 0) → (((a).toInt = 1) → K (some (.inl ((σ 21 0 63) + (3 : Int32)))) σ) ∧ (¬ ((a).toInt = 1) → (((a).toInt = 2) → (vp_in (((64 : Int32) + a) - (2 : Int32)) 340) ∧ (K (some (.inl ((σ 21 0 (((64 : Int32) + a) - (2 : Int32)).toNatClampNeg) + (1 : Int32)))) σ)) ∧ (¬ ((a).toInt = 2) → (((a).toInt = 3) → (vp_in (((64 : Int32) + a) - (2 : Int32)) 340) ∧ (K (some (.inl ((σ 21 0 (((64 : Int32) + a) - (2 : Int32)).toNatClampNeg) + (1 : Int32)))) σ)) ∧ (¬ ((a).toInt = 3) → (((a).toInt = 4) → (vp_in (((66 : Int32) + a) - (4 : Int32)) 340) ∧ (K (some (.inl (σ 21 0 (((66 : Int32) + a) - (4 : Int32)).toNatClampNeg))) σ)) ∧ (¬ ((a).toInt = 4) → (((a).toInt = 5) → (vp_in (((66 : Int32) + a) - (4 : Int32)) 340) ∧ (K (some (.inl (σ 21 0 (((66 : Int32) + a) - (4 : Int32)).toNatClampNeg))) σ)) ∧ (¬ ((a).toInt = 5) → ((a < (6 : Int32)) → K (some (.inl (-1 : Int32))) σ) ∧ (¬ (a < (6 : Int32)) → (((9 : Int32) < a) → K (some (.inl (-1 : Int32))) σ) ∧ (¬ ((9 : Int32) < a) → (m_ok σ) ∧ (K (some (.inl (nI (p_who (m_r σ 0) (m_n σ) (a - (5 : Int32)))))) σ)))))))))) : sX7_rule [.inr (.inr (20, 0)), .inl a] σ K := ⟨am_le rfl, fun X hX => am_run_ok emX7_rule hX [] 2000 (show (_) ∧ ((((a).toInt = 0) → K (some (.inl (σ 20 0 1))) σ) ∧ (¬ ((a).toInt = 0) → (((a).toInt = 1) → 2 ≤ 2 ∧ 0 ≤ 8 ∧ True ∧ sX7_seatsOn [.inr (.inr (20, 0)), .inl (0 : Int32)] σ (fun vv tt => am_run eX7_rule lX7_rule (some .int) K X [] 1995 50 [some (.inr (.inr (20, 0))), some (.inl a)] (vv.toList ++ []) tt)) ∧ (¬ ((a).toInt = 1) → (((a).toInt = 2) → (vp_in (((64 : Int32) + a) - (2 : Int32)) 340) ∧ (K (some (.inl ((σ 21 0 (((64 : Int32) + a) - (2 : Int32)).toNatClampNeg) + (1 : Int32)))) σ)) ∧ (¬ ((a).toInt = 2) → (((a).toInt = 3) → (vp_in (((64 : Int32) + a) - (2 : Int32)) 340) ∧ (K (some (.inl ((σ 21 0 (((64 : Int32) + a) - (2 : Int32)).toNatClampNeg) + (1 : Int32)))) σ)) ∧ (¬ ((a).toInt = 3) → (((a).toInt = 4) → (vp_in (((66 : Int32) + a) - (4 : Int32)) 340) ∧ (K (some (.inl (σ 21 0 (((66 : Int32) + a) - (4 : Int32)).toNatClampNeg))) σ)) ∧ (¬ ((a).toInt = 4) → (((a).toInt = 5) → (vp_in (((66 : Int32) + a) - (4 : Int32)) 340) ∧ (K (some (.inl (σ 21 0 (((66 : Int32) + a) - (4 : Int32)).toNatClampNeg))) σ)) ∧ (¬ ((a).toInt = 5) → 3 ≤ 3 ∧ 0 ≤ 8 ∧ sX7_in [.inr (.inl (a).toInt64), .inr (.inl (6 : Int64)), .inr (.inl (9 : Int64))] σ (fun vv tt => am_run eX7_rule lX7_rule (some .int) K X [] 1993 88 [some (.inr (.inr (20, 0))), some (.inl a)] (vv.toList ++ []) tt)))))))) from ⟨by decide, ⟨fun q0 => (h.1 q0), fun q0 => ⟨fun q1 => ⟨am_le rfl, am_le rfl, trivial, tX7_seatsOn (⟨am_ci (by decide), (show K (some (.inl ((σ 21 0 63) + (3 : Int32)))) σ from ((h.2 q0).1 q1))⟩)⟩, fun q1 => ⟨fun q2 => ⟨(((h.2 q0).2 q1).1 q2).1, (((h.2 q0).2 q1).1 q2).2⟩, fun q2 => ⟨fun q3 => ⟨((((h.2 q0).2 q1).2 q2).1 q3).1, ((((h.2 q0).2 q1).2 q2).1 q3).2⟩, fun q3 => ⟨fun q4 => ⟨(((((h.2 q0).2 q1).2 q2).2 q3).1 q4).1, (((((h.2 q0).2 q1).2 q2).2 q3).1 q4).2⟩, fun q4 => ⟨fun q5 => ⟨((((((h.2 q0).2 q1).2 q2).2 q3).2 q4).1 q5).1, ((((((h.2 q0).2 q1).2 q2).2 q3).2 q4).1 q5).2⟩, fun q5 => ⟨am_le rfl, am_le rfl, uX7_in (v := a) (a := (6 : Int32)) (b := (9 : Int32)) (⟨fun q6 => (show (((0 : Int32) = (0 : Int32)) → K (some (.inl (-1 : Int32))) σ) ∧ (¬ ((0 : Int32) = (0 : Int32)) → _) from ⟨fun _ => (((((((h.2 q0).2 q1).2 q2).2 q3).2 q4).2 q5).1 q6), fun q => absurd (by decide) q⟩), fun q6 => ⟨fun q7 => (show (((0 : Int32) = (0 : Int32)) → K (some (.inl (-1 : Int32))) σ) ∧ (¬ ((0 : Int32) = (0 : Int32)) → _) from ⟨fun _ => ((((((((h.2 q0).2 q1).2 q2).2 q3).2 q4).2 q5).2 q6).1 q7), fun q => absurd (by decide) q⟩), fun q7 => (show (((1 : Int32) = (0 : Int32)) → _) ∧ (¬ ((1 : Int32) = (0 : Int32)) → 3 ≤ 3 ∧ 0 ≤ 8 ∧ True ∧ sX7_whoOn [.inr (.inr (20, 0)), .inl (0 : Int32), .inl (a - (5 : Int32))] σ (fun vv tt => am_run eX7_rule lX7_rule (some .int) K X [] 1986 99 [some (.inr (.inr (20, 0))), some (.inl a)] (vv.toList ++ []) tt)) from ⟨fun q => absurd q (by decide), fun _ => ⟨am_le rfl, am_le rfl, trivial, wX7_whoOn (g := 0) (⟨(by decide), ⟨((((((((h.2 q0).2 q1).2 q2).2 q3).2 q4).2 q5).2 q6).2 q7).1, (show K (some (.inl (nI (p_who (m_r σ 0) (m_n σ) (a - (5 : Int32)))))) σ from ((((((((h.2 q0).2 q1).2 q2).2 q3).2 q4).2 q5).2 q6).2 q7).2)⟩⟩)⟩⟩)⟩⟩)⟩⟩⟩⟩⟩⟩⟩⟩)⟩
set_option maxRecDepth 100000 in
set_option maxHeartbeats 400000 in
theorem b_xg0 {K : Option am_V → am_M → Prop} {X : Nat → am_L → List am_V → am_M → Prop} (hX : am_cl eX6_go lX6_go (some .int) K X) {σ : am_M} (a : Int32) (h : ((a < (0 : Int32)) → K (some (.inl (-1 : Int32))) σ) ∧ (¬ (a < (0 : Int32)) → (((30 : Int32) < a) → K (some (.inl (-1 : Int32))) σ) ∧ (¬ ((30 : Int32) < a) → ((((σ 3 0 5) + a) < (1000 : Int32)) → sX0_passHours [.inr (.inr (3, 0)), .inl a] σ (fun vv tt => X 38 [some (.inr (.inr (0, 0))), some (.inl a)] (vv.toList ++ []) tt)) ∧ (¬ (((σ 3 0 5) + a) < (1000 : Int32)) → K (some (.inl (-3 : Int32))) σ)))) : X 0 [some (.inr (.inr (0, 0))), some (.inl a)] [] σ := am_run_ok emX6_go hX [38] 400 (show 3 ≤ 3 ∧ 0 ≤ 8 ∧ sX6_isWithin [.inl a, .inl (0 : Int32), .inl (30 : Int32)] σ (fun vv tt => am_run eX6_go lX6_go (some .int) K X [38] 396 7 [some (.inr (.inr (0, 0))), some (.inl a)] (vv.toList ++ []) tt) from ⟨am_le rfl, am_le rfl, tX6_isWithin (⟨fun q0 => (show (((0 : Int32) = (0 : Int32)) → K (some (.inl (-1 : Int32))) σ) ∧ (¬ ((0 : Int32) = (0 : Int32)) → _) from ⟨fun _ => (h.1 q0), fun q => absurd (by decide) q⟩), fun q0 => ⟨fun q1 => (show (((0 : Int32) = (0 : Int32)) → K (some (.inl (-1 : Int32))) σ) ∧ (¬ ((0 : Int32) = (0 : Int32)) → _) from ⟨fun _ => ((h.2 q0).1 q1), fun q => absurd (by decide) q⟩), fun q1 => (show (((1 : Int32) = (0 : Int32)) → _) ∧ (¬ ((1 : Int32) = (0 : Int32)) → ((((σ 3 0 5) + a) < (1000 : Int32)) → 2 ≤ 2 ∧ 0 ≤ 8 ∧ True ∧ sX0_passHours [.inr (.inr (3, 0)), .inl a] σ (fun vv tt => X 38 [some (.inr (.inr (0, 0))), some (.inl a)] (vv.toList ++ []) tt)) ∧ (¬ (((σ 3 0 5) + a) < (1000 : Int32)) → K (some (.inl (-3 : Int32))) σ)) from ⟨fun q => absurd q (by decide), fun _ => ⟨fun q2 => ⟨am_le rfl, am_le rfl, trivial, (((h.2 q0).2 q1).1 q2)⟩, fun q2 => (((h.2 q0).2 q1).2 q2)⟩⟩)⟩⟩)⟩)
set_option maxRecDepth 100000 in
set_option maxHeartbeats 400000 in
theorem b_xg38 {K : Option am_V → am_M → Prop} {X : Nat → am_L → List am_V → am_M → Prop} (hX : am_cl eX6_go lX6_go (some .int) K X) {σ : am_M} (a v : Int32) (h : K (some (.inl v)) σ) : X 38 [some (.inr (.inr (0, 0))), some (.inl a)] [.inl v] σ := am_run_ok emX6_go hX [] 400 (show K (some (.inl v)) σ from h)
set_option maxRecDepth 100000 in
set_option maxHeartbeats 400000 in
theorem b_yg0 {K : Option am_V → am_M → Prop} {X : Nat → am_L → List am_V → am_M → Prop} (hX : am_cl eX7_go lX7_go (some .int) K X) {σ : am_M} (a : Int32) (h : ((a < (0 : Int32)) → K (some (.inl (-1 : Int32))) σ) ∧ (¬ (a < (0 : Int32)) → (((30 : Int32) < a) → K (some (.inl (-1 : Int32))) σ) ∧ (¬ ((30 : Int32) < a) → ((((σ 21 0 66) + a) ≤ (999 : Int32)) → sX7_goesOn [.inr (.inr (20, 0)), .inl (0 : Int32), .inl a] σ (fun vv tt => X 40 [some (.inr (.inr (20, 0))), some (.inl a)] (vv.toList ++ []) tt)) ∧ (¬ (((σ 21 0 66) + a) ≤ (999 : Int32)) → X 40 [some (.inr (.inr (20, 0))), some (.inl a)] [.inl (-3 : Int32)] σ)))) : X 0 [some (.inr (.inr (20, 0))), some (.inl a)] [] σ := am_run_ok emX7_go hX [40] 400 (show 3 ≤ 3 ∧ 0 ≤ 8 ∧ sX7_in [.inr (.inl (a).toInt64), .inr (.inl (0 : Int64)), .inr (.inl (30 : Int64))] σ (fun vv tt => am_run eX7_go lX7_go (some .int) K X [40] 395 9 [some (.inr (.inr (20, 0))), some (.inl a)] (vv.toList ++ []) tt) from ⟨am_le rfl, am_le rfl, uX7_in (v := a) (a := (0 : Int32)) (b := (30 : Int32)) (⟨fun q0 => (show (((0 : Int32) = (0 : Int32)) → K (some (.inl (-1 : Int32))) σ) ∧ (¬ ((0 : Int32) = (0 : Int32)) → _) from ⟨fun _ => (h.1 q0), fun q => absurd (by decide) q⟩), fun q0 => ⟨fun q1 => (show (((0 : Int32) = (0 : Int32)) → K (some (.inl (-1 : Int32))) σ) ∧ (¬ ((0 : Int32) = (0 : Int32)) → _) from ⟨fun _ => ((h.2 q0).1 q1), fun q => absurd (by decide) q⟩), fun q1 => (show (((1 : Int32) = (0 : Int32)) → _) ∧ (¬ ((1 : Int32) = (0 : Int32)) → (vp_in (66 : Int32) 340) ∧ (((((σ 21 0 66) + a) ≤ (999 : Int32)) → 3 ≤ 3 ∧ 0 ≤ 8 ∧ True ∧ sX7_goesOn [.inr (.inr (20, 0)), .inl (0 : Int32), .inl a] σ (fun vv tt => X 40 [some (.inr (.inr (20, 0))), some (.inl a)] (vv.toList ++ []) tt)) ∧ (¬ (((σ 21 0 66) + a) ≤ (999 : Int32)) → X 40 [some (.inr (.inr (20, 0))), some (.inl a)] [.inl (-3 : Int32)] σ))) from ⟨fun q => absurd q (by decide), fun _ => ⟨am_ci (by decide), ⟨fun q2 => ⟨am_le rfl, am_le rfl, trivial, (((h.2 q0).2 q1).1 q2)⟩, fun q2 => (((h.2 q0).2 q1).2 q2)⟩⟩⟩)⟩⟩)⟩)
set_option maxRecDepth 100000 in
set_option maxHeartbeats 400000 in
theorem b_yg40 {K : Option am_V → am_M → Prop} {X : Nat → am_L → List am_V → am_M → Prop} (hX : am_cl eX7_go lX7_go (some .int) K X) {σ : am_M} (a v : Int32) (h : K (some (.inl v)) σ) : X 40 [some (.inr (.inr (20, 0))), some (.inl a)] [.inl v] σ := am_run_ok emX7_go hX [] 400 (show K (some (.inl v)) σ from h)
/-- images, seen, tape, sheets, words, faults are as they were -/
def ivs (σ τ : am_M) : Prop := (∀ k, k ≠ 3 → k ≠ 5 → k ≠ 6 → k ≠ 7 → k ≠ 8 → k ≠ 9 → k ≠ 10 → k ≠ 19 → k ≠ 20 → k ≠ 21 → k ≠ 22 → k ≠ 26 → τ k = σ k) ∧ (∀ j, j = 1 ∨ j = 7 ∨ j = 8 ∨ j = 23 ∨ j = 28 → τ 20 0 j = σ 20 0 j) ∧ (∀ c, 2 ≤ c → τ 3 c = σ 3 c) ∧ (∀ i, 18 ≤ i → τ 5 i = σ 5 i) ∧ (∀ j, 68 ≤ j → j < 204 → τ 21 0 j = σ 21 0 j)
/-- and what is now is as it was -/
def ivz (σ τ : am_M) : Prop := ivs σ τ ∧ τ 3 0 = σ 3 0 ∧ (∀ i, i < 9 → τ 5 i = σ 5 i) ∧ (∀ j, j < 68 → τ 21 0 j = σ 21 0 j)
theorem ivs_trans {σ τ υ : am_M} (h1 : ivs σ τ) (h2 : ivs τ υ) : ivs σ υ := by
  obtain ⟨a1, a2, a3, a4, a5⟩ := h1
  obtain ⟨b1, b2, b3, b4, b5⟩ := h2
  refine ⟨fun k c1 c2 c3 c4 c5 c6 c7 c8 c9 d1 d2 d3 => (b1 k c1 c2 c3 c4 c5 c6 c7 c8 c9 d1 d2 d3).trans (a1 k c1 c2 c3 c4 c5 c6 c7 c8 c9 d1 d2 d3), fun j h => (b2 j h).trans (a2 j h), fun c h => (b3 c h).trans (a3 c h), fun c h => (b4 c h).trans (a4 c h), fun c h g => (b5 c h g).trans (a5 c h g)⟩
theorem ivz_trans {σ τ υ : am_M} (h1 : ivz σ τ) (h2 : ivz τ υ) : ivz σ υ := ⟨ivs_trans h1.1 h2.1, h2.2.1.trans h1.2.1, fun i h => (h2.2.2.1 i h).trans (h1.2.2.1 i h), fun i h => (h2.2.2.2 i h).trans (h1.2.2.2 i h)⟩
theorem ivs_refl {σ : am_M} : ivs σ σ := ⟨fun _ _ _ _ _ _ _ _ _ _ _ _ _ => rfl, fun _ _ => rfl, fun _ _ => rfl, fun _ _ => rfl, fun _ _ _ => rfl⟩
theorem ivz_refl {σ : am_M} : ivz σ σ := ⟨ivs_refl, rfl, fun _ _ => rfl, fun _ _ => rfl⟩
theorem iv_now {σ τ : am_M} {n pl pl' : Nat} (hs : ivs σ τ) (hc : cm τ 0 0 n pl') (h : iv σ n pl) : iv τ n pl' := by
  obtain ⟨hk, h20, h3, h5, h21⟩ := hs
  obtain ⟨h9, a1, a2, a3, a4, a5, a6, a7, a8⟩ := h
  refine ⟨h9, by rw [h20 1 (by omega)]; exact a1, hc, iv_img_cg h9 (hk 15 (by decide) (by decide) (by decide) (by decide) (by decide) (by decide) (by decide) (by decide) (by decide) (by decide) (by decide) (by decide)) (hk 28 (by decide) (by decide) (by decide) (by decide) (by decide) (by decide) (by decide) (by decide) (by decide) (by decide) (by decide) (by decide)) h3 h5 h21 a3, ?_, ?_, ?_, ?_, ?_⟩
  · exact iv_seen_cg (hk 11 (by decide) (by decide) (by decide) (by decide) (by decide) (by decide) (by decide) (by decide) (by decide) (by decide) (by decide) (by decide)) (hk 12 (by decide) (by decide) (by decide) (by decide) (by decide) (by decide) (by decide) (by decide) (by decide) (by decide) (by decide) (by decide)) (hk 13 (by decide) (by decide) (by decide) (by decide) (by decide) (by decide) (by decide) (by decide) (by decide) (by decide) (by decide) (by decide)) (hk 27 (by decide) (by decide) (by decide) (by decide) (by decide) (by decide) (by decide) (by decide) (by decide) (by decide) (by decide) (by decide)) (h20 23 (by omega)) a4
  · exact iv_tape_cg (hk 1 (by decide) (by decide) (by decide) (by decide) (by decide) (by decide) (by decide) (by decide) (by decide) (by decide) (by decide) (by decide)) (hk 2 (by decide) (by decide) (by decide) (by decide) (by decide) (by decide) (by decide) (by decide) (by decide) (by decide) (by decide) (by decide)) (hk 23 (by decide) (by decide) (by decide) (by decide) (by decide) (by decide) (by decide) (by decide) (by decide) (by decide) (by decide) (by decide)) (h20 7 (by omega)) a5
  · exact iv_sheet_cg (hk 17 (by decide) (by decide) (by decide) (by decide) (by decide) (by decide) (by decide) (by decide) (by decide) (by decide) (by decide) (by decide)) (hk 18 (by decide) (by decide) (by decide) (by decide) (by decide) (by decide) (by decide) (by decide) (by decide) (by decide) (by decide) (by decide)) (hk 29 (by decide) (by decide) (by decide) (by decide) (by decide) (by decide) (by decide) (by decide) (by decide) (by decide) (by decide) (by decide)) (hk 30 (by decide) (by decide) (by decide) (by decide) (by decide) (by decide) (by decide) (by decide) (by decide) (by decide) (by decide) (by decide)) (hk 31 (by decide) (by decide) (by decide) (by decide) (by decide) (by decide) (by decide) (by decide) (by decide) (by decide) (by decide) (by decide)) a6
  · exact iv_word_cg (hk 24 (by decide) (by decide) (by decide) (by decide) (by decide) (by decide) (by decide) (by decide) (by decide) (by decide) (by decide) (by decide)) (hk 25 (by decide) (by decide) (by decide) (by decide) (by decide) (by decide) (by decide) (by decide) (by decide) (by decide) (by decide) (by decide)) a7
  · exact iv_flt_cg (hk 0 (by decide) (by decide) (by decide) (by decide) (by decide) (by decide) (by decide) (by decide) (by decide) (by decide) (by decide) (by decide)) (h20 8 (by omega)) (h20 28 (by omega)) a8
theorem iv_z {σ τ : am_M} {n pl : Nat} (hz : ivz σ τ) (h : iv σ n pl) : iv τ n pl := iv_now hz.1 (cm_cg hz.2.1 (fun p hp => hz.2.2.1 _ (by have := h.1; omega)) (fun j _ hj => hz.2.2.2 j (by omega)) h.1 h.2.2.1) h
theorem ivz_r {σ τ : am_M} {p : Nat} (hz : ivz σ τ) (hp : p < 9) : c_r τ 0 p = c_r σ 0 p := by
  unfold c_r
  rw [hz.2.2.1 _ (by omega)]
/-- both write their own -/
theorem ivs_cset {σ : am_M} {c n : Nat} {r : Rw} {hr bt : Int32} (hc : c ≤ 1) (hn : n ≤ 9) : ivs σ (c_set σ c n r hr bt) := ⟨fun k c1 c2 _ _ _ _ _ _ _ _ _ _ => c_set_k c2 c1, fun j _ => by rw [c_set_k (by decide) (by decide)], fun d hd => c_set_o (by omega), fun i hi => c_set_q (by omega), fun j _ _ => by rw [c_set_k (by decide) (by decide)]⟩
theorem ivs_mset {σ : am_M} {g n : Nat} {r : Rw} {hr bt : Int32} (hg : g = 0 ∨ 204 ≤ g) (hn : n ≤ 9) : ivs σ (m_set σ g n r hr bt) := ⟨fun k _ _ _ _ _ _ _ _ _ c _ _ => m_set_k c, fun j _ => by rw [m_set_k (by decide)], fun d hd => by rw [m_set_k (by decide)], fun i hi => by rw [m_set_k (by decide)], fun j j1 j2 => m_set_o (by omega) (by omega) (by omega)⟩
theorem ivz_cset {σ : am_M} {n : Nat} {r : Rw} {hr bt : Int32} (hn : n ≤ 9) : ivz σ (c_set σ 1 n r hr bt) := ⟨ivs_cset (by decide) hn, c_set_o (by decide), fun i hi => c_set_q (by omega), fun j _ => by rw [c_set_k (by decide) (by decide)]⟩
theorem ivz_mset {σ : am_M} {g n : Nat} {r : Rw} {hr bt : Int32} (hg : 204 ≤ g) (hn : n ≤ 9) : ivz σ (m_set σ g n r hr bt) := ⟨ivs_mset (Or.inr hg) hn, by rw [m_set_k (by decide)], fun i _ => by rw [m_set_k (by decide)], fun j hj => m_set_o (by omega) (by omega) (by omega)⟩
theorem ivz_ccp {σ : am_M} {n : Nat} (hn : n ≤ 9) : ivz σ (c_cp σ 1 0 n) := ⟨⟨fun k c1 c2 _ _ _ _ _ _ _ _ _ _ => c_cp_k c1 c2, fun j _ => by rw [c_cp_k (by decide) (by decide)], fun d hd => c_cp_o (by omega), fun i hi => by funext j; exact c_cp_q (by omega), fun j _ _ => by rw [c_cp_k (by decide) (by decide)]⟩, c_cp_o (by decide), fun i hi => by funext j; exact c_cp_q (by omega), fun j _ => by rw [c_cp_k (by decide) (by decide)]⟩
theorem m_cp_k {σ : am_M} {f t n k : Nat} (h : k ≠ 21) : m_cp σ f t n k = σ k := by
  funext i j
  unfold m_cp
  rw [if_neg h]
theorem ivz_mcp {σ : am_M} {f t n : Nat} (ht : 204 ≤ t) : ivz σ (m_cp σ f t n) := ⟨⟨fun k _ _ _ _ _ _ _ _ _ c _ _ => m_cp_k c, fun j _ => by rw [m_cp_k (by decide)], fun d hd => by rw [m_cp_k (by decide)], fun i hi => by rw [m_cp_k (by decide)], fun j j1 j2 => by rw [m_cp_i, if_neg (by omega)]⟩, by rw [m_cp_k (by decide)], fun i _ => by rw [m_cp_k (by decide)], fun j hj => by rw [m_cp_i, if_neg (by omega)]⟩
theorem cm_set {σ : am_M} {n pl : Nat} {r r' : Rw} {hr bt : Int32} (h9 : n ≤ 9) (h : cm σ 0 0 n pl) (hr0 : r_ok r n) (hp : p_inv r n pl) (hh : q_lim hr 999) (he : ∀ p j, p < n → j < 7 → r' p j = r p j) : cm (m_set (c_set σ 0 n r hr bt) 0 n r' hr bt) 0 0 n pl := by
  obtain ⟨a1, a2, a3, a4, a5, a6, a7, a8, a9, a10, a11⟩ := h
  have e3 : m_set (c_set σ 0 n r hr bt) 0 n r' hr bt 3 = c_set σ 0 n r hr bt 3 := m_set_k (by decide)
  have e5 : ∀ p, p < n → c_r (m_set (c_set σ 0 n r hr bt) 0 n r' hr bt) 0 p = r p := fun p hp => by
    unfold c_r
    rw [m_set_k (by decide)]
    exact c_set_r hp
  have e21 : ∀ j, 63 ≤ j → j < 66 → m_set (c_set σ 0 n r hr bt) 0 n r' hr bt 21 0 j = σ 21 0 j := fun j j1 j2 => by
    rw [m_set_o (by omega) (by omega) (by omega), c_set_k (by decide) (by decide)]
  refine ⟨by rw [e3, c_set_j (by decide) (by decide)]; exact a1, fun p j hp hj => ?_, by rw [e3, c_set_j (by decide) (by decide)]; exact a3, by rw [e21 _ (by omega) (by omega)]; exact a4, a5, by rw [e3, c_set_j (by decide) (by decide), e21 _ (by omega) (by omega)]; exact a6, by rw [e3, c_set_j (by decide) (by decide), e21 _ (by omega) (by omega)]; exact a7, by rw [e3, c_set_h, m_set_h h9]; exact ⟨rfl, hh⟩, by rw [e3, c_set_b, m_set_b h9], fun p j hp hj => ?_, ?_⟩
  · rw [e5 p hp]
    unfold m_r
    rw [m_set_r hp hj, he p j hp hj]
  · rw [e5 p hp]
    exact hr0 p j hp hj
  · exact p_inv_cg (fun p hp => by rw [e5 p hp]) hp
theorem iv_set {σ : am_M} {n pl : Nat} {r r' : Rw} {hr bt : Int32} (h : iv σ n pl) (hr0 : r_ok r n) (hp : p_inv r n pl) (hh : q_lim hr 999) (he : ∀ p j, p < n → j < 7 → r' p j = r p j) : iv (m_set (c_set σ 0 n r hr bt) 0 n r' hr bt) n pl := iv_now (ivs_trans (ivs_cset (by decide) h.1) (ivs_mset (Or.inl rfl) h.1)) (cm_set h.1 h.2.2.1 hr0 hp hh he) h
/-- rows stay in their bounds -/
theorem rok_brd {r : Rw} {n pl p : Nat} {bt : Int32} (h : r_ok r n) : r_ok (p_brd n pl r bt p).1 n := by
  intro q j hq hj
  by_cases c : j = 6
  · subst c
    have h6 := h q 6 hq (by decide)
    have l2 : q_lim (2 : Int32) 4 := q_lim_n (n := 2) (by decide) (by decide)
    have l3 : q_lim (3 : Int32) 4 := q_lim_n (n := 3) (by decide) (by decide)
    have s6 : q_lim (r_set r p 6 2 q 6) 4 := by
      unfold r_set
      split
      · exact l2
      · exact h6
    unfold p_brd
    split
    · split
      · show q_lim (p_mv (r_set r p 6 2) 2 3 q 6) 4
        unfold p_mv
        split
        · exact l3
        · exact s6
      · exact s6
    · exact h6
  · rw [p_brd_at c]
    exact h q j hq hj
theorem rok_brds {r : Rw} {n pl : Nat} {bt : Int32} (h : r_ok r n) : ∀ k, r_ok (p_brds n pl r bt k).1 n
  | 0 => h
  | k + 1 => rok_brd (rok_brds h k)
theorem rok_hr {r : Rw} {n pl : Nat} {hr bt : Int32} (h : r_ok r n) : r_ok (p_hr n pl r hr bt).1 n := by
  have hc : r_ok (p_come r hr) n := by
    intro q j hq hj
    unfold p_come
    split
    · rename_i c
      rw [c.1]
      exact q_lim_n (n := 1) (by decide) (by decide)
    · exact h q j hq hj
  have hb := rok_brds (n := n) (pl := pl) (bt := bt) hc n
  intro q j hq hj
  show q_lim (p_pat (p_brds n pl (p_come r hr) bt n).1 q j) (r_lim j)
  generalize (p_brds n pl (p_come r hr) bt n).1 = r1 at hb
  unfold p_pat
  split
  · split
    · split
      · rename_i c
        rw [c]
        exact q_lim_n (n := 4) (by decide) (by decide)
      · exact hb q j hq hj
    · rename_i c
      split
      · rename_i d
        rw [d]
        have h4 := hb q 4 hq (by decide)
        obtain ⟨e, l⟩ := h4
        have l9 : (r1 q 4).toNatClampNeg ≤ 9 := l
        rw [e] at c ⊢
        generalize (r1 q 4).toNatClampNeg = v at c l9 ⊢
        have v0 : ¬ v = 0 := fun q => c (by rw [q]; decide)
        rw [show nI v - (1 : Int32) = nI (v - 1) from pk_sub (b := 1) (by omega)]
        exact q_lim_n (m := 9) (by omega) (by decide)
      · exact hb q j hq hj
  · exact hb q j hq hj
theorem rok_hrs {r : Rw} {n pl : Nat} {hr bt : Int32} (h : r_ok r n) : ∀ k, r_ok (p_hrs n pl r hr bt k).1 n
  | 0 => h
  | k + 1 => rok_hr (rok_hrs h k)
theorem rok_pat {r : Rw} {n : Nat} (h : r_ok r n) : pat_ok r n := fun q hq => h q 4 hq (by decide)
/-- the reference's rows are the class's -/
theorem iv_mset {σ τ : am_M} {n pl : Nat} (h : iv σ n pl) (e : τ = σ) : τ = m_set σ 0 n (c_r σ 0) (σ 3 0 5) (σ 3 0 6) := by
  obtain ⟨h9, a1, ⟨b1, b2, b3, b4, b5, b6, b7, b8, b9, b10, b11⟩, -⟩ := h
  rw [e, m_set_cg h9 b2, b8.1, b9]
  exact (m_set_id (g := 0) h9).symm
