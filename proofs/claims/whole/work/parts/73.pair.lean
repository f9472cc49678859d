/-! the text: the pair -/
theorem pr_text {σ : am_M} (hI : Inv σ) : pairI sX6_text sX7_text [] σ := by
  obtain ⟨n, pl, hv⟩ := id hI
  obtain ⟨h9, a1, a2, a3, a4, ⟨t, t160, t1, t7, tb⟩, a6, a7, a8⟩ := id hv
  have hb : ∃ b : Nat → Nat, ∀ i, i < t → σ 2 0 i = nI (b i) ∧ b i ≤ 127 ∧ σ 23 0 i = nI (b i) := ⟨fun i => (σ 2 0 i).toNatClampNeg, fun i hi => ⟨(tb i hi).2.1, (tb i hi).2.2, by rw [← (tb i hi).1]; exact (tb i hi).2.1⟩⟩
  obtain ⟨b, hb⟩ := hb
  have ht : tp σ t b := ⟨t160, t1, fun i hi => ⟨(hb i hi).1, (hb i hi).2.1⟩⟩
  have htm : ∀ τ : am_M, τ 20 = σ 20 → τ 23 = σ 23 → tm τ t b := fun τ e1 e2 => ⟨t160, by rw [e1]; exact t7, fun i hi => by rw [e2]; exact ⟨(hb i hi).2.2, (hb i hi).2.1⟩⟩
  refine ⟨am_le rfl, fun X hX => b_tx0 hX (tX1_tellAll ht (fun c q hf c1 c6 q160 τ f g3 g4 => b_tx7 hX ⟨fun w => absurd w ?_, fun _ => ⟨_, rfl, ?_⟩⟩) (fun p m hf hp hw2 τ f g3 g2 gp gw => b_tx7 hX ⟨fun _ => uX0_copyFrom (n := p.m) (by decide) gp.1 gp.2.1 (b_tx58 hX ⟨_, rfl, ?_⟩), fun w => absurd g3 w⟩))⟩
  · rw [g3]
    exact nI_ne0 (by omega) (by omega)
  · rw [g4, g3]
    have fk : ∀ k, k ≠ 0 ∧ k ≠ 1 ∧ k ≠ 3 ∧ k ≠ 5 ∧ k ≠ 6 → am_u (am_u τ 1 0 1 (0 : Int32)) 0 0 10 (nI c) k = σ k := fun k h => by rw [am_u_k h.1, am_u_k h.2.1, f.1 k h.2.2.1 h.2.2.2.1 h.2.2.2.2]
    have f3 : ∀ d, d ≠ 4 → am_u (am_u τ 1 0 1 (0 : Int32)) 0 0 10 (nI c) 3 d = σ 3 d := fun d hd => f.2.1 d hd
    have f5 : ∀ i, i < 36 → am_u (am_u τ 1 0 1 (0 : Int32)) 0 0 10 (nI c) 5 i = σ 5 i := fun i hi => f.2.2 i hi
    have q1 : am_u (am_u τ 1 0 1 (0 : Int32)) 0 0 10 (nI c) 1 0 1 = 0 := rfl
    have q10 : am_u (am_u τ 1 0 1 (0 : Int32)) 0 0 10 (nI c) 0 0 10 = nI c := rfl
    have q11 : am_u (am_u τ 1 0 1 (0 : Int32)) 0 0 10 (nI c) 0 0 11 = σ 0 0 11 := by
      show τ 0 0 11 = _
      rw [f.1 0 (by decide) (by decide) (by decide)]
    generalize am_u (am_u τ 1 0 1 (0 : Int32)) 0 0 10 (nI c) = υ at fk f3 f5 q1 q10 q11 ⊢
    refine tX7_text (t := t) (b := b) (htm υ (fk 20 (by decide)) (fk 23 (by decide))) (iv_word_cg (fk 24 (by decide)) (fk 25 (by decide)) a7) (fun c' q' hf' ω w1 w2 w7 w8 => ?_) (fun p' n' hf' => by rw [hf] at hf'; cases hf')
    rw [hf] at hf'
    have e := Sum.inl.inj hf'
    have e1 : c = c' := congrArg Prod.fst e
    have e2 : q = q' := congrArg Prod.snd e
    have wk : ∀ k, k ≠ 0 ∧ k ≠ 1 ∧ k ≠ 3 ∧ k ≠ 5 ∧ k ≠ 6 → k ≠ 20 ∧ k ≠ 22 → ω k = σ k := fun k h h2 => by rw [w1 k h2.1 h2.2, fk k h]
    have w3 : ∀ d, d ≠ 4 → ω 3 d = σ 3 d := fun d hd => by rw [w1 3 (by decide) (by decide), f3 d hd]
    have w5 : ∀ i, i < 36 → ω 5 i = σ 5 i := fun i hi => by rw [w1 5 (by decide) (by decide), f5 i hi]
    have w20 : ∀ j, j < 3 ∨ 14 < j → ω 20 0 j = σ 20 0 j := fun j hj => by rw [w2 j hj, fk 20 (by decide)]
    have e21 : ω 21 = σ 21 := wk 21 (by decide) (by decide)
    refine ⟨by rw [e2], n, pl, h9, by rw [w20 1 (by decide)]; exact a1, cm_cg (w3 0 (by decide)) (fun p hp => w5 _ (by omega)) (fun j _ _ => by rw [e21]) h9 a2, iv_img_c2 h9 (wk 15 (by decide) (by decide)) (wk 28 (by decide) (by decide)) (fun d hd hd2 => w3 d (by omega)) (fun i hi hi2 => w5 i (by omega)) (fun j _ _ => by rw [e21]) a3, iv_seen_cg (wk 11 (by decide) (by decide)) (wk 12 (by decide) (by decide)) (wk 13 (by decide) (by decide)) (wk 27 (by decide) (by decide)) (w20 23 (by decide)) a4, ⟨0, by decide, ?_, w7, fun i hi => absurd hi (Nat.not_lt_zero i)⟩, iv_sheet_cg (wk 17 (by decide) (by decide)) (wk 18 (by decide) (by decide)) (wk 29 (by decide) (by decide)) (wk 30 (by decide) (by decide)) (wk 31 (by decide) (by decide)) a6, iv_word_cg (wk 24 (by decide) (by decide)) (wk 25 (by decide) (by decide)) a7, ?_, ?_⟩
    · rw [w1 1 (by decide) (by decide)]
      exact q1
    · rw [w1 0 (by decide) (by decide), q10, w8, e1]
    · rw [w1 0 (by decide) (by decide), q11, w20 28 (by decide)]
      exact a8.2
  · rw [show c_cp (am_u (am_u τ 1 0 1 (0 : Int32)) 0 0 10 (τ 6 0 3)) 0 4 p.m 6 0 2 = τ 6 0 2 from rfl, g2, g3]
    obtain ⟨p1, p2, p3, p4, p5, p6, p7, p8, p9, p10, p11, p12⟩ := id gp
    obtain ⟨k1, k2, k3, k4, k5, k6⟩ := id hp
    have eκ : ∀ κ : am_M, κ = am_u (am_u (am_u (c_cp (am_u (am_u τ 1 0 1 (0 : Int32)) 0 0 10 (0 : Int32)) 0 4 p.m) 11 0 2 (0 : Int32)) 15 0 0 (vp_nar .boolean (0 : Int32))) 15 0 1 (vp_nar .boolean (0 : Int32)) → sX7_text [am_r 20 0] κ (fun w τ2 => w = some (.inl (nI m)) ∧ Inv τ2) := by
      intro κ eκ
      have fk : ∀ k, k ≠ 0 ∧ k ≠ 1 ∧ k ≠ 3 ∧ k ≠ 5 ∧ k ≠ 6 ∧ k ≠ 11 ∧ k ≠ 15 → κ k = σ k := fun k h => by
        rw [eκ, am_u_k h.2.2.2.2.2.2, am_u_k h.2.2.2.2.2.2, am_u_k h.2.2.2.2.2.1]
        have : c_cp (am_u (am_u τ 1 0 1 (0 : Int32)) 0 0 10 (0 : Int32)) 0 4 p.m k = am_u (am_u τ 1 0 1 (0 : Int32)) 0 0 10 (0 : Int32) k := by
          funext i j
          unfold c_cp
          rw [if_neg h.2.2.1, if_neg h.2.2.2.1]
        rw [this, am_u_k h.1, am_u_k h.2.1, f.1 k h.2.2.1 h.2.2.2.1 h.2.2.2.2.1]
      have e3 : ∀ j, 1 ≤ j → j ≤ 6 → κ 3 0 j = τ 3 4 j := fun j j1 j6 => by
        rw [eκ, am_u_k (by decide), am_u_k (by decide), am_u_k (by decide)]
        unfold c_cp
        rw [if_pos rfl, if_pos rfl, if_pos ⟨j1, j6⟩]
        rfl
      have e5 : ∀ q j, q < p.m → j < 7 → κ 5 (9 * 0 + q) j = τ 5 (9 * 4 + q) j := fun q j hq hj => by
        rw [eκ, am_u_k (by decide), am_u_k (by decide), am_u_k (by decide)]
        unfold c_cp
        rw [if_neg (by decide), if_pos rfl, if_pos ⟨by omega, by omega, hj⟩, show 9 * 0 + q - 9 * 0 = q by omega]
        rfl
      have q1 : κ 1 0 1 = 0 := by
        rw [eκ]
        rfl
      have q10 : κ 0 0 10 = 0 := by
        rw [eκ]
        rfl
      have q11 : κ 0 0 11 = σ 0 0 11 := by
        rw [eκ]
        show τ 0 0 11 = _
        rw [f.1 0 (by decide) (by decide) (by decide)]
      have q112 : κ 11 0 2 = 0 := by
        rw [eκ]
        rfl
      have q15 : ∀ k, k < 2 → κ 15 0 k = 0 := fun k hk => by
        rcases (by omega : k = 0 ∨ k = 1) with e | e <;> subst e <;> rw [eκ] <;> rfl
      clear eκ
      refine tX7_text (t := t) (b := b) (htm κ (fk 20 (by decide)) (fk 23 (by decide))) (iv_word_cg (fk 24 (by decide)) (fk 25 (by decide)) a7) (fun c' q' hf' => by rw [hf] at hf'; cases hf') (fun p' n' hf' _ ω w1 w2 w7 w8 w23 w28 v0 v1 vr v6 v63 v64 v65 v66 v67 => ?_)
      rw [hf] at hf'
      have e := Sum.inr.inj hf'
      have ep : p = p' := congrArg Prod.fst e
      have en : m = n' := congrArg Prod.snd e
      rw [← ep] at w2 vr v6 v63 v64 v65
      have wk : ∀ k, k ≠ 0 ∧ k ≠ 1 ∧ k ≠ 3 ∧ k ≠ 5 ∧ k ≠ 6 ∧ k ≠ 11 ∧ k ≠ 15 → k ≠ 20 ∧ k ≠ 21 ∧ k ≠ 22 ∧ k ≠ 28 → ω k = σ k := fun k h h2 => by rw [w1 k h2.1 h2.2.1 h2.2.2.1 h2.2.2.2, fk k h]
      have w3 : ω 3 = κ 3 := w1 3 (by decide) (by decide) (by decide) (by decide)
      have w5 : ω 5 = κ 5 := w1 5 (by decide) (by decide) (by decide) (by decide)
      have rows : ∀ q j, q < p.m → j < 7 → c_r ω 0 q j = (if j = 6 then bI (p.w.testBit q) else nI (p.r q j)) := fun q j hq hj => by
        show ω 5 (9 * 0 + q) j = _
        rw [w5, e5 q j hq hj]
        by_cases c : j = 6
        · rw [if_pos c, c]
          exact gw q hq
        · rw [if_neg c]
          exact p3 q j hq (by omega)
      have bl : ∀ x : Bool, q_lim (bI x) 4 ∧ bI x ≠ 2 := fun x => by
        cases x
        · exact ⟨q_lim_n (n := 0) (by decide) (by decide), by decide⟩
        · exact ⟨q_lim_n (n := 1) (by decide) (by decide), by decide⟩
      refine ⟨by rw [en], p.m, p.pl, k1, w2, ⟨?_, fun q j hq hj => ?_, ?_, v63, k3, ⟨?_, ?_⟩, ⟨?_, ?_⟩, ⟨?_, ?_⟩, ?_, fun q j hq hj => ?_, ?_⟩, fun k hk => ?_, ⟨0, by decide, ?_, w23, fun k hk => absurd hk (Nat.not_lt_zero k)⟩, ⟨0, by decide, ?_, w7, fun i hi => absurd hi (Nat.not_lt_zero i)⟩, iv_sheet_cg (wk 17 (by decide) (by decide)) (wk 18 (by decide) (by decide)) (wk 29 (by decide) (by decide)) (wk 30 (by decide) (by decide)) (wk 31 (by decide) (by decide)) a6, iv_word_cg (wk 24 (by decide) (by decide)) (wk 25 (by decide) (by decide)) a7, ?_, ?_⟩
      · rw [w3, e3 1 (by decide) (by decide)]
        exact p1
      · rw [rows q j hq hj]
        show _ = ω 21 0 (0 + 7 * q + j)
        rw [show 0 + 7 * q + j = 7 * q + j by omega]
        by_cases c : j = 6
        · rw [if_pos c, c, v6 q hq]
        · rw [if_neg c, vr q j hq (by omega)]
      · rw [w3, e3 2 (by decide) (by decide)]
        exact p4
      · rw [w3, e3 3 (by decide) (by decide), p5]
        exact v64.symm
      · rw [w3, e3 3 (by decide) (by decide), p5]
        exact q_lim_n k4 (by decide)
      · rw [w3, e3 4 (by decide) (by decide), p6]
        exact v65.symm
      · rw [w3, e3 4 (by decide) (by decide), p6]
        exact q_lim_n k5 (by decide)
      · rw [w3, e3 5 (by decide) (by decide), p7]
        exact v66.symm
      · rw [w3, e3 5 (by decide) (by decide), p7]
        exact q_lim_n (n := 0) (by decide) (by decide)
      · rw [w3, e3 6 (by decide) (by decide), p8]
        exact v67.symm
      · rw [rows q j hq hj]
        obtain ⟨x0, x1, x2⟩ := k2 q hq
        rcases (by omega : j = 0 ∨ j = 1 ∨ j = 2 ∨ j = 3 ∨ j = 4 ∨ j = 5 ∨ j = 6) with e | e | e | e | e | e | e <;> subst e
        · exact q_lim_n (m := 4) x0 (by decide)
        · exact q_lim_n (m := 5) (x1 1 (by decide) (by decide)) (by decide)
        · exact q_lim_n (m := 5) (x1 2 (by decide) (by decide)) (by decide)
        · exact q_lim_n (m := 5) (x1 3 (by decide) (by decide)) (by decide)
        · exact q_lim_n (m := 9) (x2 4 (by decide) (by decide)) (by decide)
        · exact q_lim_n (m := 9) (x2 5 (by decide) (by decide)) (by decide)
        · exact (bl _).1
      · unfold p_inv
        have z : p_who (c_r ω 0) p.m 2 = 0 := by
          unfold p_who
          apply Nat.eq_of_testBit_eq
          intro q
          rw [q_set_bit, Nat.zero_testBit]
          by_cases hq : q < p.m
          · rw [rows q 6 hq (by decide), if_pos rfl, decide_eq_false (bl _).2, Bool.and_false]
          · rw [decide_eq_false hq, Bool.false_and]
        rw [z, q_pop_0]
        omega
      · have z15 : ω 15 0 k = 0 := by
          rw [w1 15 (by decide) (by decide) (by decide) (by decide)]
          exact q15 k hk
        refine ⟨?_, Or.inl z15⟩
        rw [z15]
        rcases (by omega : k = 0 ∨ k = 1) with e | e <;> subst e
        · exact v0.symm
        · exact v1.symm
      · rw [w1 11 (by decide) (by decide) (by decide) (by decide)]
        exact q112
      · rw [w1 1 (by decide) (by decide) (by decide) (by decide)]
        exact q1
      · rw [w1 0 (by decide) (by decide) (by decide) (by decide), q10]
        exact w8.symm
      · rw [w1 0 (by decide) (by decide) (by decide) (by decide), q11, w28, fk 20 (by decide)]
        exact a8.2
    exact eκ _ rfl
