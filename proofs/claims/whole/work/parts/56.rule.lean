/-! pairs: price, see, rule, ahead -/
theorem ivs_u3 {σ : am_M} {c j : Nat} {v : Int32} (hc : c < 2) : ivs σ (am_u σ 3 c j v) := ⟨fun k c1 c2 _ _ _ _ _ _ _ _ _ _ => am_u_k c1, fun j _ => rfl, fun d hd => by funext j'; exact am_u_i (by omega), fun i hi => rfl, fun j _ _ => rfl⟩
theorem ivs_u21 {σ : am_M} {j : Nat} {v : Int32} (hj : j < 68 ∨ 204 ≤ j) : ivs σ (am_u σ 21 0 j v) := ⟨fun k _ _ _ _ _ _ _ _ _ c _ _ => am_u_k c, fun j _ => rfl, fun d hd => rfl, fun i hi => rfl, fun j' j1 j2 => am_u_j (by omega)⟩
theorem iv_price {σ : am_M} {n pl v j : Nat} (hj : j < 2) (h9v : v ≤ 9) (hv : iv σ n pl) : iv (am_u (am_u σ 3 0 (3 + j) (nI v)) 21 0 (64 + j) (nI v - 1)) n pl := by
  refine iv_now (ivs_trans (ivs_u3 (by decide)) (ivs_u21 (by omega))) ?_ hv
  obtain ⟨b1, b2, b3, b4, b5, b6, b7, b8, b9, b10, b11⟩ := hv.2.2.1
  have e1 : nI v = nI v - (1 : Int32) + (1 : Int32) := by simp
  have e21 : ∀ k, k ≠ 64 + j → am_u (am_u σ 3 0 (3 + j) (nI v)) 21 0 (64 + j) (nI v - 1) 21 0 k = σ 21 0 k := fun k hk => by rw [am_u_j hk]; rfl
  have e3 : ∀ k, k ≠ 3 + j → am_u (am_u σ 3 0 (3 + j) (nI v)) 21 0 (64 + j) (nI v - 1) 3 0 k = σ 3 0 k := fun k hk => by rw [am_u_k (by decide), am_u_j hk]
  have hn := hv.1
  refine ⟨by rw [e3 _ (by omega)]; exact b1, fun p k hp hk => ?_, by rw [e3 _ (by omega)]; exact b3, by rw [e21 _ (by omega)]; exact b4, b5, ?_, ?_, by rw [e3 _ (by omega), e21 _ (by omega)]; exact b8, by rw [e3 _ (by omega), e21 _ (by omega)]; exact b9, fun p k hp hk => b10 p k hp hk, b11⟩
  · rw [show c_r (am_u (am_u σ 3 0 (3 + j) (nI v)) 21 0 (64 + j) (nI v - 1)) 0 p k = c_r σ 0 p k from rfl, b2 p k hp hk]
    unfold m_r
    rw [e21 _ (by omega)]
  · by_cases c : j = 0
    · subst c
      exact ⟨e1, q_lim_n h9v (by decide)⟩
    · rw [e3 _ (by omega), e21 _ (by omega)]
      exact b6
  · by_cases c : j = 1
    · subst c
      exact ⟨e1, q_lim_n h9v (by decide)⟩
    · rw [e3 _ (by omega), e21 _ (by omega)]
      exact b7
theorem pr_price {σ : am_M} {a b : Int32} (hI : Inv σ) : pairI sX6_price sX7_price [.inl a, .inl b] σ := by
  obtain ⟨n, pl, hv⟩ := id hI
  obtain ⟨b1, b2, b3, b4, b5, b6, b7, b8, b9, b10, b11⟩ := id hv.2.2.1
  refine tX6_price ⟨fun c1 => ⟨_, rfl, tX7_price ⟨fun _ => ⟨rfl, hI⟩, fun q => absurd c1 q⟩⟩, fun c1 => ⟨fun c2 => ⟨_, rfl, tX7_price ⟨fun q => absurd q c1, fun _ => ⟨fun _ => ⟨rfl, hI⟩, fun q => absurd c2 q⟩⟩⟩, fun c2 => ⟨fun c3 => ⟨_, rfl, tX7_price ⟨fun q => absurd q c1, fun _ => ⟨fun q => absurd q c2, fun _ => ⟨fun _ => ⟨rfl, hI⟩, fun q => absurd c3 q⟩⟩⟩⟩, fun c3 => ⟨fun c4 => ⟨_, rfl, tX7_price ⟨fun q => absurd q c1, fun _ => ⟨fun q => absurd q c2, fun _ => ⟨fun q => absurd q c3, fun _ => ⟨fun _ => ⟨rfl, hI⟩, fun q => absurd c4 q⟩⟩⟩⟩⟩, fun c4 => ?_⟩⟩⟩⟩
  obtain ⟨j, j1, rfl⟩ := q_0b (b := 1) rfl (by decide) c1 c2
  obtain ⟨v, v9, rfl⟩ := q_0b (b := 9) rfl (by decide) c3 c4
  have e64 : (64 : Int32) + nI j = nI (64 + j) := nI_add 64 j
  have go : ∀ τ, τ = am_u σ 3 0 (3 + j) (nI v) → sX7_price [am_r 20 0, .inl (nI j), .inl (nI v)] τ (fun w τ2 => w = some (.inl (σ 3 0 (3 + j))) ∧ Inv τ2) := by
    intro τ e
    subst e
    refine tX7_price ⟨fun q => absurd q c1, fun _ => ⟨fun q => absurd q c2, fun _ => ⟨fun q => absurd q c3, fun _ => ⟨fun q => absurd q c4, fun _ => ?_⟩⟩⟩⟩
    rw [e64, nI_clamp (by omega)]
    refine ⟨q_in (by omega) (by decide), q_in (by omega) (by decide), ?_, n, pl, iv_price (by omega) v9 hv⟩
    have : j = 0 ∨ j = 1 := by omega
    rcases this with q | q
    · subst q
      rw [b6.1, Int32.add_comm]
      rfl
    · subst q
      rw [b7.1, Int32.add_comm]
      rfl
  have : j = 0 ∨ j = 1 := by omega
  rcases this with q | q
  · subst q
    exact ⟨fun _ => ⟨fun _ => ⟨_, rfl, go _ rfl⟩, fun q => absurd rfl q⟩, fun q => absurd rfl q⟩
  · subst q
    exact ⟨fun q => absurd q (by decide), fun _ => ⟨fun q => absurd q (by decide), fun _ => ⟨_, rfl, go _ rfl⟩⟩⟩
theorem pr_see {σ : am_M} {a b : Int32} (hI : Inv σ) (hb : b = 0 ∨ b = 1) : pairI sX6_see sX7_see [.inl a, .inl b] σ := by
  obtain ⟨n, pl, hv⟩ := id hI
  obtain ⟨h9, a1, a2, a3, ⟨m, m6, s1, s2, s3⟩, a5, a6, a7, a8⟩ := id hv
  refine tX6_see ?_
  rw [a2.1]
  have bad : (a < 0 ∨ nI n ≤ a) → ∃ r : Int32, some (Sum.inl (-1 : Int32) : am_V) = some (.inl r) ∧ sX7_see [am_r 20 0, .inl a, .inl b] σ (fun w τ2 => w = some (.inl r) ∧ Inv τ2) := by
    intro q
    refine ⟨_, rfl, tX7_see ?_⟩
    rw [a1, q_m1 (by omega)]
    exact ⟨fun _ => ⟨rfl, hI⟩, fun c1 => ⟨fun _ => ⟨rfl, hI⟩, fun c2 => (q.elim c1 c2).elim⟩⟩
  refine ⟨fun c1 => bad (Or.inl c1), fun c1 => ⟨fun c2 => bad (Or.inr c2), fun c2 => ?_⟩⟩
  rcases pk_ix a (n := n) (by omega) with q | q | ⟨i, hi, rfl⟩
  · exact absurd q c1
  · exact absurd q c2
  have l6 : nI m < (6 : Int32) ↔ m < 6 := nI_ltI (b := 6) (by omega) (by decide)
  have q6 : nI m = (6 : Int32) ↔ m = 6 := nI_eq (b := 6) (by omega) (by decide)
  rw [s1, l6, nI_clamp (by omega)]
  refine ⟨fun c3 => ?_, fun c3 => ⟨_, rfl, tX7_see ?_⟩⟩
  · have eb : vp_nar .boolean b = b := by
      rcases hb with q | q
      · subst q; rfl
      · subst q; rfl
    rw [eb, show nI m + (1 : Int32) = nI (m + 1) from nI_add m 1]
    refine ⟨q_in c3 (by decide), q_in c3 (by decide), _, rfl, tX7_see ?_⟩
    have k1 : am_u (am_u (am_u σ 12 0 m (nI i)) 13 0 m b) 11 0 2 (nI (m + 1)) 20 = σ 20 := rfl
    rw [k1, a1, q_m1 (by omega), s2, q6, m_2k, show nI m + (1 : Int32) = nI (m + 1) from nI_add m 1, show nI (2 * m) + (1 : Int32) = nI (2 * m + 1) from nI_add _ 1, nI_clamp (by omega), nI_clamp (by omega)]
    have fin : ∀ v : Int32, v = b → Inv (am_u (am_u (am_u (am_u (am_u (am_u σ 12 0 m (nI i)) 13 0 m b) 11 0 2 (nI (m + 1))) 27 0 (2 * m) (nI i)) 27 0 (2 * m + 1) v) 20 0 23 (nI (m + 1))) := by
      intro v e
      subst e
      refine ⟨n, pl, h9, a1, cm_cg (σ := σ) rfl (fun _ _ => rfl) (fun _ _ _ => rfl) h9 a2, iv_img_cg (σ := σ) h9 rfl rfl (fun _ _ => rfl) (fun _ _ => rfl) (fun _ _ _ => rfl) a3, ⟨m + 1, by omega, rfl, rfl, fun k hk => ?_⟩, iv_tape_cg (σ := σ) rfl rfl rfl rfl a5, iv_sheet_cg (σ := σ) rfl rfl rfl rfl rfl a6, iv_word_cg (σ := σ) rfl rfl a7, iv_flt_cg (σ := σ) rfl rfl rfl a8⟩
      have w12 : am_u (am_u (am_u (am_u (am_u (am_u σ 12 0 m (nI i)) 13 0 m v) 11 0 2 (nI (m + 1))) 27 0 (2 * m) (nI i)) 27 0 (2 * m + 1) v) 20 0 23 (nI (m + 1)) 12 0 k = if k = m then nI i else σ 12 0 k := by
        show am_u σ 12 0 m (nI i) 12 0 k = _
        by_cases c : k = m
        · rw [if_pos c, c, am_u_s]
        · rw [if_neg c, am_u_j c]
      have w13 : am_u (am_u (am_u (am_u (am_u (am_u σ 12 0 m (nI i)) 13 0 m v) 11 0 2 (nI (m + 1))) 27 0 (2 * m) (nI i)) 27 0 (2 * m + 1) v) 20 0 23 (nI (m + 1)) 13 0 k = if k = m then v else σ 13 0 k := by
        show am_u (am_u σ 12 0 m (nI i)) 13 0 m v 13 0 k = _
        by_cases c : k = m
        · rw [if_pos c, c, am_u_s]
        · rw [if_neg c, am_u_j c]
          rfl
      have w27 : ∀ j, am_u (am_u (am_u (am_u (am_u (am_u σ 12 0 m (nI i)) 13 0 m v) 11 0 2 (nI (m + 1))) 27 0 (2 * m) (nI i)) 27 0 (2 * m + 1) v) 20 0 23 (nI (m + 1)) 27 0 j = if j = 2 * m + 1 then v else if j = 2 * m then nI i else σ 27 0 j := fun j => by
        rw [am_u_k (by decide)]
        by_cases c : j = 2 * m + 1
        · rw [if_pos c, c, am_u_s]
        · rw [if_neg c, am_u_j c]
          by_cases d : j = 2 * m
          · rw [if_pos d, d, am_u_s]
          · rw [if_neg d, am_u_j d]
            rfl
      rw [w12, w13, w27, w27]
      by_cases c : k = m
      · subst c
        rw [if_pos rfl, if_pos rfl, if_neg (by omega), if_pos rfl, if_pos rfl]
        exact ⟨⟨i, hi, rfl, rfl⟩, rfl, hb⟩
      · rw [if_neg c, if_neg c, if_neg (by omega), if_neg (by omega), if_neg (by omega), if_neg (by omega)]
        exact s3 k (by omega)
    refine ⟨fun q => absurd q c1, fun _ => ⟨fun q => absurd q c2, fun _ => ⟨fun q => absurd q (by omega), fun _ => ⟨q_in (by omega) (by decide), fun e => ⟨q_in (by omega) (by decide), rfl, fin _ e.symm⟩, fun e => ⟨q_in (by omega) (by decide), rfl, fin _ (hb.resolve_left e).symm⟩⟩⟩⟩⟩
  · rw [a1, q_m1 (by omega), s2, q6]
    exact ⟨fun q => absurd q c1, fun _ => ⟨fun q => absurd q c2, fun _ => ⟨fun _ => ⟨rfl, hI⟩, fun q => absurd (by omega) q⟩⟩⟩
theorem pr_rule {σ : am_M} {a : Int32} (hI : Inv σ) : pairI sX6_rule sX7_rule [.inl a] σ := by
  obtain ⟨n, pl, hv⟩ := id hI
  obtain ⟨h9, a1, a2, a3, a4, a5, a6, a7, a8⟩ := id hv
  obtain ⟨f1, f2, f3, f4, f5⟩ := iv_f hv
  obtain ⟨b1, b2, b3, b4, b5, b6, b7, b8, b9, b10, b11⟩ := id a2
  have fw : ∀ s : Int32, p_who (m_r σ 0) (m_n σ) s = c_who σ 0 s := fun s => by
    rw [f4, f5]
    unfold c_who p_who
    rw [f2]
    rfl
  refine tX6_rule ?_
  refine ⟨fun c0 => ?_, fun c0 => ?_⟩
  · have e := (q_ti (n := 0) (by decide)).1 c0
    subst e
    exact ⟨_, rfl, tX7_rule (⟨fun _ => ⟨congrArg _ (congrArg _ (a1.trans b1.symm)), hI⟩, fun q => absurd rfl q⟩)⟩
  refine ⟨fun c1 => ?_, fun c1 => ?_⟩
  · have e := (q_ti (n := 1) (by decide)).1 c1
    subst e
    exact ⟨_, rfl, tX7_rule (⟨fun q => absurd q (by decide), fun _ => ⟨fun _ => ⟨congrArg _ (congrArg _ (b4.trans b3.symm)), hI⟩, fun q => absurd rfl q⟩⟩)⟩
  refine ⟨fun c2 => ?_, fun c2 => ?_⟩
  · have e := (q_ti (n := 2) (by decide)).1 c2
    subst e
    exact ⟨_, rfl, tX7_rule (⟨fun q => absurd q (by decide), fun _ => ⟨fun q => absurd q (by decide), fun _ => ⟨fun _ => ⟨q_in (i := 64) (by decide) (by decide), congrArg _ (congrArg _ b6.1.symm), hI⟩, fun q => absurd rfl q⟩⟩⟩)⟩
  refine ⟨fun c3 => ?_, fun c3 => ?_⟩
  · have e := (q_ti (n := 3) (by decide)).1 c3
    subst e
    exact ⟨_, rfl, tX7_rule (⟨fun q => absurd q (by decide), fun _ => ⟨fun q => absurd q (by decide), fun _ => ⟨fun q => absurd q (by decide), fun _ => ⟨fun _ => ⟨q_in (i := 65) (by decide) (by decide), congrArg _ (congrArg _ b7.1.symm), hI⟩, fun q => absurd rfl q⟩⟩⟩⟩)⟩
  refine ⟨fun c4 => ?_, fun c4 => ?_⟩
  · have e := (q_ti (n := 4) (by decide)).1 c4
    subst e
    exact ⟨_, rfl, tX7_rule (⟨fun q => absurd q (by decide), fun _ => ⟨fun q => absurd q (by decide), fun _ => ⟨fun q => absurd q (by decide), fun _ => ⟨fun q => absurd q (by decide), fun _ => ⟨fun _ => ⟨q_in (i := 66) (by decide) (by decide), congrArg _ (congrArg _ b8.1.symm), hI⟩, fun q => absurd rfl q⟩⟩⟩⟩⟩)⟩
  refine ⟨fun c5 => ?_, fun c5 => ?_⟩
  · have e := (q_ti (n := 5) (by decide)).1 c5
    subst e
    exact ⟨_, rfl, tX7_rule (⟨fun q => absurd q (by decide), fun _ => ⟨fun q => absurd q (by decide), fun _ => ⟨fun q => absurd q (by decide), fun _ => ⟨fun q => absurd q (by decide), fun _ => ⟨fun q => absurd q (by decide), fun _ => ⟨fun _ => ⟨q_in (i := 67) (by decide) (by decide), congrArg _ (congrArg _ b9.symm), hI⟩, fun q => absurd rfl q⟩⟩⟩⟩⟩⟩)⟩
  refine ⟨fun c6 => ?_, fun c6 => ?_⟩
  · have e := (q_ti (n := 6) (by decide)).1 c6
    subst e
    exact ⟨f1, _, rfl, tX7_rule (⟨fun q => absurd q (by decide), fun _ => ⟨fun q => absurd q (by decide), fun _ => ⟨fun q => absurd q (by decide), fun _ => ⟨fun q => absurd q (by decide), fun _ => ⟨fun q => absurd q (by decide), fun _ => ⟨fun q => absurd q (by decide), fun _ => ⟨fun q => absurd q (by decide), fun _ => ⟨fun q => absurd q (by decide), fun _ => ⟨f3, congrArg _ (congrArg _ (congrArg nI (fw (1 : Int32)))), hI⟩⟩⟩⟩⟩⟩⟩⟩⟩)⟩
  refine ⟨fun c7 => ?_, fun c7 => ?_⟩
  · have e := (q_ti (n := 7) (by decide)).1 c7
    subst e
    exact ⟨f1, _, rfl, tX7_rule (⟨fun q => absurd q (by decide), fun _ => ⟨fun q => absurd q (by decide), fun _ => ⟨fun q => absurd q (by decide), fun _ => ⟨fun q => absurd q (by decide), fun _ => ⟨fun q => absurd q (by decide), fun _ => ⟨fun q => absurd q (by decide), fun _ => ⟨fun q => absurd q (by decide), fun _ => ⟨fun q => absurd q (by decide), fun _ => ⟨f3, congrArg _ (congrArg _ (congrArg nI (fw (2 : Int32)))), hI⟩⟩⟩⟩⟩⟩⟩⟩⟩)⟩
  refine ⟨fun c8 => ?_, fun c8 => ?_⟩
  · have e := (q_ti (n := 8) (by decide)).1 c8
    subst e
    exact ⟨f1, _, rfl, tX7_rule (⟨fun q => absurd q (by decide), fun _ => ⟨fun q => absurd q (by decide), fun _ => ⟨fun q => absurd q (by decide), fun _ => ⟨fun q => absurd q (by decide), fun _ => ⟨fun q => absurd q (by decide), fun _ => ⟨fun q => absurd q (by decide), fun _ => ⟨fun q => absurd q (by decide), fun _ => ⟨fun q => absurd q (by decide), fun _ => ⟨f3, congrArg _ (congrArg _ (congrArg nI (fw (3 : Int32)))), hI⟩⟩⟩⟩⟩⟩⟩⟩⟩)⟩
  refine ⟨fun c9 => ?_, fun c9 => ?_⟩
  · have e := (q_ti (n := 9) (by decide)).1 c9
    subst e
    exact ⟨f1, _, rfl, tX7_rule (⟨fun q => absurd q (by decide), fun _ => ⟨fun q => absurd q (by decide), fun _ => ⟨fun q => absurd q (by decide), fun _ => ⟨fun q => absurd q (by decide), fun _ => ⟨fun q => absurd q (by decide), fun _ => ⟨fun q => absurd q (by decide), fun _ => ⟨fun q => absurd q (by decide), fun _ => ⟨fun q => absurd q (by decide), fun _ => ⟨f3, congrArg _ (congrArg _ (congrArg nI (fw (4 : Int32)))), hI⟩⟩⟩⟩⟩⟩⟩⟩⟩)⟩
  refine ⟨_, rfl, tX7_rule ⟨fun q => absurd q c0, fun _ => ⟨fun q => absurd q c1, fun _ => ⟨fun q => absurd q c2, fun _ => ⟨fun q => absurd q c3, fun _ => ⟨fun q => absurd q c4, fun _ => ⟨fun q => absurd q c5, fun _ => ⟨fun _ => ⟨rfl, hI⟩, fun d1 => ⟨fun _ => ⟨rfl, hI⟩, fun d2 => ?_⟩⟩⟩⟩⟩⟩⟩⟩⟩
  exfalso
  obtain ⟨j, j6, j9, rfl⟩ := q_rng (a := 6) (b := 9) rfl rfl (by decide) d1 d2 (by decide)
  rw [nI_toInt (by omega)] at c6 c7 c8 c9
  omega
