/-! pairs: the rows -/
theorem m_i7k (i k : Nat) : (7 : Int32) * nI i + nI k = nI (7 * i + k) := m_i7w i k
theorem m_071 (i : Nat) : (0 : Int32) + (7 : Int32) * nI i + (6 : Int32) = nI (7 * i + 6) := by
  show nI 0 + (7 : Int32) * nI i + nI 6 = _
  rw [m_ix, Nat.zero_add]
theorem pr_one {σ : am_M} {a b : Int32} (hI : Inv σ) : pairI sX6_one sX7_one [.inl a, .inl b] σ := by
  obtain ⟨n, pl, h9, a1, a2, a3, a4, a5, a6, a7, a8⟩ := id hI
  refine tX6_one ?_
  rw [a2.1]
  have bad : ((a < 0 ∨ nI n ≤ a) ∨ (b < 0 ∨ 6 < b)) → ∃ r : Int32, some (Sum.inl (-1 : Int32) : am_V) = some (.inl r) ∧ sX7_one [am_r 20 0, .inl a, .inl b] σ (fun w τ2 => w = some (.inl r) ∧ Inv τ2) := by
    intro q
    refine ⟨_, rfl, tX7_one ?_⟩
    rw [a1, q_m1 (by omega)]
    refine ⟨fun _ => ⟨rfl, hI⟩, fun c1 => ⟨fun _ => ⟨rfl, hI⟩, fun c2 => ⟨fun _ => ⟨rfl, hI⟩, fun c3 => ⟨fun _ => ⟨rfl, hI⟩, fun c4 => ?_⟩⟩⟩⟩
    rcases q with (q | q) | (q | q)
    · exact absurd q c1
    · exact absurd q c2
    · exact absurd q c3
    · exact absurd q c4
  refine ⟨fun c1 => bad (Or.inl (Or.inl c1)), fun c1 => ⟨fun c2 => bad (Or.inl (Or.inr c2)), fun c2 => ⟨fun c3 => bad (Or.inr (Or.inl c3)), fun c3 => ⟨fun c4 => bad (Or.inr (Or.inr c4)), fun c4 => ?_⟩⟩⟩⟩
  obtain ⟨j, hj, rfl⟩ := q_0b (b := 6) rfl (by decide) c3 c4
  rcases pk_ix a (n := n) (by omega) with q | q | ⟨i, hi, rfl⟩
  · exact absurd q c1
  · exact absurd q c2
  refine ⟨q_in (by omega) (by decide), q_in (by omega) (by decide), _, rfl, tX7_one ?_⟩
  rw [a1, q_m1 (by omega), m_i7k, nI_clamp (by omega), nI_clamp (by omega), nI_clamp (by omega)]
  refine ⟨fun q => absurd q c1, fun _ => ⟨fun q => absurd q c2, fun _ => ⟨fun q => absurd q c3, fun _ => ⟨fun q => absurd q c4, fun _ => ⟨q_in (by omega) (by decide), ?_, hI⟩⟩⟩⟩⟩
  have := a2.2.1 i j hi (by omega)
  unfold c_r m_r at this
  rw [this, Nat.zero_add]
theorem pr_turn {σ : am_M} {a b d : Int32} (hI : Inv σ) : pairI sX6_turn sX7_turn [.inl a, .inl b, .inl d] σ := by
  obtain ⟨n, pl, hv⟩ := id hI
  obtain ⟨h9, a1, a2, a3, a4, a5, a6, a7, a8⟩ := id hv
  refine tX6_turn ?_
  rw [a2.1]
  have bad : ((a < 0 ∨ nI n ≤ a) ∨ (b < 0 ∨ 2 < b) ∨ (d < 0 ∨ 5 < d)) → ∃ r : Int32, some (Sum.inl (-1 : Int32) : am_V) = some (.inl r) ∧ sX7_turn [am_r 20 0, .inl a, .inl b, .inl d] σ (fun w τ2 => w = some (.inl r) ∧ Inv τ2) := by
    intro q
    refine ⟨_, rfl, tX7_turn ?_⟩
    rw [a1, q_m1 (by omega)]
    refine ⟨fun _ => ⟨rfl, hI⟩, fun c1 => ⟨fun _ => ⟨rfl, hI⟩, fun c2 => ⟨fun _ => ⟨rfl, hI⟩, fun c3 => ⟨fun _ => ⟨rfl, hI⟩, fun c4 => ⟨fun _ => ⟨rfl, hI⟩, fun c5 => ⟨fun _ => ⟨rfl, hI⟩, fun c6 => ?_⟩⟩⟩⟩⟩⟩
    rcases q with (q | q) | (q | q) | (q | q)
    · exact absurd q c1
    · exact absurd q c2
    · exact absurd q c3
    · exact absurd q c4
    · exact absurd q c5
    · exact absurd q c6
  refine ⟨fun c1 => bad (Or.inl (Or.inl c1)), fun c1 => ⟨fun c2 => bad (Or.inl (Or.inr c2)), fun c2 => ⟨fun c3 => bad (Or.inr (Or.inl (Or.inl c3))), fun c3 => ⟨fun c4 => bad (Or.inr (Or.inl (Or.inr c4))), fun c4 => ⟨fun c5 => bad (Or.inr (Or.inr (Or.inl c5))), fun c5 => ⟨fun c6 => bad (Or.inr (Or.inr (Or.inr c6))), fun c6 => ?_⟩⟩⟩⟩⟩⟩
  obtain ⟨w, hw, rfl⟩ := q_0b (b := 2) rfl (by decide) c3 c4
  obtain ⟨v, hvv, rfl⟩ := q_0b (b := 5) rfl (by decide) c5 c6
  rcases pk_ix a (n := n) (by omega) with q | q | ⟨i, hi, rfl⟩
  · exact absurd q c1
  · exact absurd q c2
  have vi : vp_in (nI i) 9 := q_in (by omega) (by decide)
  rw [show (1 : Int32) + nI w = nI (1 + w) from nI_add 1 w, nI_clamp (by omega), nI_clamp (by omega)]
  have e6 : σ 5 (9 * 0 + i) 6 = σ 21 0 (7 * i + 6) := by
    have := a2.2.1 i 6 hi (by decide)
    unfold c_r m_r at this
    rw [this, Nat.zero_add]
  have ew : σ 5 (9 * 0 + i) (1 + w) = σ 21 0 (7 * i + (1 + w)) := by
    have := a2.2.1 i (1 + w) hi (by omega)
    unfold c_r m_r at this
    rw [this, Nat.zero_add]
  have ei : (7 : Int32) * nI i + (1 : Int32) + nI w = nI (7 * i + (1 + w)) := by
    show (7 : Int32) * nI i + nI 1 + nI w = _
    rw [m_i7w, nI_add, show 7 * i + 1 + w = 7 * i + (1 + w) by omega]
  have v6 : vp_in (nI (7 * i + 6)) 340 := q_in (by omega) (by decide)
  have vw : vp_in (nI (7 * i + (1 + w))) 340 := q_in (by omega) (by decide)
  refine ⟨vi, fun e => ⟨_, rfl, tX7_turn ?_⟩, fun e => ⟨vi, q_in (by omega) (by decide), vi, q_in (by omega) (by decide), _, rfl, tX7_turn ?_⟩⟩
  · rw [a1, q_m1 (by omega), m_071, ei, nI_clamp (by omega), nI_clamp (by omega), ← e6]
    exact ⟨fun q => absurd q c1, fun _ => ⟨fun q => absurd q c2, fun _ => ⟨fun q => absurd q c3, fun _ => ⟨fun q => absurd q c4, fun _ => ⟨fun q => absurd q c5, fun _ => ⟨fun q => absurd q c6, fun _ => ⟨v6, fun _ => ⟨rfl, hI⟩, fun q => absurd e q⟩⟩⟩⟩⟩⟩⟩
  · have g1 : am_u σ 5 (9 * 0 + i) (1 + w) (nI v) 20 0 1 = nI n := a1
    have g2 : am_u σ 5 (9 * 0 + i) (1 + w) (nI v) 21 = σ 21 := am_u_k (by decide)
    rw [g1, q_m1 (by omega), m_071, ei, nI_clamp (by omega), nI_clamp (by omega), g2, ← e6, ← ew]
    refine ⟨fun q => absurd q c1, fun _ => ⟨fun q => absurd q c2, fun _ => ⟨fun q => absurd q c3, fun _ => ⟨fun q => absurd q c4, fun _ => ⟨fun q => absurd q c5, fun _ => ⟨fun q => absurd q c6, fun _ => ⟨v6, fun q => absurd q e, fun _ => ⟨vw, vw, rfl, n, pl, iv_row hv hi (by omega) ?_ (fun q => absurd q (by omega))⟩⟩⟩⟩⟩⟩⟩⟩
    rcases (show w = 0 ∨ w = 1 ∨ w = 2 by omega) with rfl | rfl | rfl <;> exact q_lim_n hvv (by decide)
theorem pr_teach {σ : am_M} {a b : Int32} (hI : Inv σ) : pairI sX6_teach sX7_teach [.inl a, .inl b] σ := by
  obtain ⟨n, pl, hv⟩ := id hI
  obtain ⟨h9, a1, a2, a3, a4, a5, a6, a7, a8⟩ := id hv
  refine tX6_teach ?_
  rw [a2.1]
  have bad : ((a < 0 ∨ nI n ≤ a) ∨ (b < 0 ∨ 4 < b)) → ∃ r : Int32, some (Sum.inl (-1 : Int32) : am_V) = some (.inl r) ∧ sX7_teach [am_r 20 0, .inl a, .inl b] σ (fun w τ2 => w = some (.inl r) ∧ Inv τ2) := by
    intro q
    refine ⟨_, rfl, tX7_teach ?_⟩
    rw [a1, q_m1 (by omega)]
    refine ⟨fun _ => ⟨rfl, hI⟩, fun c1 => ⟨fun _ => ⟨rfl, hI⟩, fun c2 => ⟨fun _ => ⟨rfl, hI⟩, fun c3 => ⟨fun _ => ⟨rfl, hI⟩, fun c4 => ?_⟩⟩⟩⟩
    rcases q with (q | q) | (q | q)
    · exact absurd q c1
    · exact absurd q c2
    · exact absurd q c3
    · exact absurd q c4
  refine ⟨fun c1 => bad (Or.inl (Or.inl c1)), fun c1 => ⟨fun c2 => bad (Or.inl (Or.inr c2)), fun c2 => ⟨fun c3 => bad (Or.inr (Or.inl c3)), fun c3 => ⟨fun c4 => bad (Or.inr (Or.inr c4)), fun c4 => ?_⟩⟩⟩⟩
  obtain ⟨v, hvv, rfl⟩ := q_0b (b := 4) rfl (by decide) c3 c4
  rcases pk_ix a (n := n) (by omega) with q | q | ⟨i, hi, rfl⟩
  · exact absurd q c1
  · exact absurd q c2
  have vi : vp_in (nI i) 9 := q_in (by omega) (by decide)
  rw [nI_clamp (by omega)]
  have e6 : σ 5 (9 * 0 + i) 6 = σ 21 0 (7 * i + 6) := by
    have := a2.2.1 i 6 hi (by decide)
    unfold c_r m_r at this
    rw [this, Nat.zero_add]
  have ew : σ 5 (9 * 0 + i) 0 = σ 21 0 (7 * i) := by
    have := a2.2.1 i 0 hi (by omega)
    unfold c_r m_r at this
    rw [this, Nat.zero_add]
    rfl
  have v6 : vp_in (nI (7 * i + 6)) 340 := q_in (by omega) (by decide)
  have vw : vp_in (nI (7 * i)) 340 := q_in (by omega) (by decide)
  refine ⟨vi, fun e => ⟨_, rfl, tX7_teach ?_⟩, fun e => ⟨vi, vi, _, rfl, tX7_teach ?_⟩⟩
  · rw [a1, q_m1 (by omega), m_071, m_i7, nI_clamp (by omega), nI_clamp (by omega), ← e6]
    exact ⟨fun q => absurd q c1, fun _ => ⟨fun q => absurd q c2, fun _ => ⟨fun q => absurd q c3, fun _ => ⟨fun q => absurd q c4, fun _ => ⟨v6, fun _ => ⟨rfl, hI⟩, fun q => absurd e q⟩⟩⟩⟩⟩
  · have g1 : am_u σ 5 (9 * 0 + i) 0 (nI v) 20 0 1 = nI n := a1
    have g2 : am_u σ 5 (9 * 0 + i) 0 (nI v) 21 = σ 21 := am_u_k (by decide)
    rw [g1, q_m1 (by omega), m_071, m_i7, nI_clamp (by omega), nI_clamp (by omega), g2, ← e6, ← ew]
    exact ⟨fun q => absurd q c1, fun _ => ⟨fun q => absurd q c2, fun _ => ⟨fun q => absurd q c3, fun _ => ⟨fun q => absurd q c4, fun _ => ⟨v6, fun q => absurd q e, fun _ => ⟨vw, vw, rfl, n, pl, iv_row (j := 0) hv hi (by omega) (q_lim_n hvv (by decide)) (fun q => absurd q (by omega))⟩⟩⟩⟩⟩⟩
theorem pr_calm {σ : am_M} {a b : Int32} (hI : Inv σ) : pairI sX6_calm sX7_calm [.inl a, .inl b] σ := by
  obtain ⟨n, pl, hv⟩ := id hI
  obtain ⟨h9, a1, a2, a3, a4, a5, a6, a7, a8⟩ := id hv
  refine tX6_calm ?_
  rw [a2.1]
  have bad : ((a < 0 ∨ nI n ≤ a) ∨ (b < 0 ∨ 9 < b)) → ∃ r : Int32, some (Sum.inl (-1 : Int32) : am_V) = some (.inl r) ∧ sX7_calm [am_r 20 0, .inl a, .inl b] σ (fun w τ2 => w = some (.inl r) ∧ Inv τ2) := by
    intro q
    refine ⟨_, rfl, tX7_calm ?_⟩
    rw [a1, q_m1 (by omega)]
    refine ⟨fun _ => ⟨rfl, hI⟩, fun c1 => ⟨fun _ => ⟨rfl, hI⟩, fun c2 => ⟨fun _ => ⟨rfl, hI⟩, fun c3 => ⟨fun _ => ⟨rfl, hI⟩, fun c4 => ?_⟩⟩⟩⟩
    rcases q with (q | q) | (q | q)
    · exact absurd q c1
    · exact absurd q c2
    · exact absurd q c3
    · exact absurd q c4
  refine ⟨fun c1 => bad (Or.inl (Or.inl c1)), fun c1 => ⟨fun c2 => bad (Or.inl (Or.inr c2)), fun c2 => ⟨fun c3 => bad (Or.inr (Or.inl c3)), fun c3 => ⟨fun c4 => bad (Or.inr (Or.inr c4)), fun c4 => ?_⟩⟩⟩⟩
  obtain ⟨v, hvv, rfl⟩ := q_0b (b := 9) rfl (by decide) c3 c4
  rcases pk_ix a (n := n) (by omega) with q | q | ⟨i, hi, rfl⟩
  · exact absurd q c1
  · exact absurd q c2
  have vi : vp_in (nI i) 9 := q_in (by omega) (by decide)
  rw [nI_clamp (by omega)]
  have ew : σ 5 (9 * 0 + i) 4 = σ 21 0 (7 * i + 4) := by
    have := a2.2.1 i 4 hi (by omega)
    unfold c_r m_r at this
    rw [this, Nat.zero_add]
  have vw : vp_in (nI (7 * i + 4)) 340 := q_in (by omega) (by decide)
  refine ⟨vi, vi, _, rfl, tX7_calm ?_⟩
  have g1 : am_u σ 5 (9 * 0 + i) 4 (nI v) 20 0 1 = nI n := a1
  have g2 : am_u σ 5 (9 * 0 + i) 4 (nI v) 21 = σ 21 := am_u_k (by decide)
  rw [g1, q_m1 (by omega), show (7 : Int32) * nI i + (4 : Int32) = nI (7 * i + 4) from m_i7w i 4, nI_clamp (by omega), g2, ← ew]
  exact ⟨fun q => absurd q c1, fun _ => ⟨fun q => absurd q c2, fun _ => ⟨fun q => absurd q c3, fun _ => ⟨fun q => absurd q c4, fun _ => ⟨vw, vw, rfl, n, pl, iv_row hv hi (by omega) (q_lim_n hvv (by decide)) (fun q => absurd q (by omega))⟩⟩⟩⟩⟩
