/-! the text: the pair -/
set_option maxRecDepth 100000 in
set_option maxHeartbeats 400000 in
theorem b_tx0 {K : Option am_V → am_M → Prop} {X : Nat → am_L → List am_V → am_M → Prop} (hX : am_cl eX6_text lX6_text (some .int) K X) {σ : am_M}  (h : sX1_tellAll [.inr (.inr (6, 0))] σ (fun vv tt => X 7 [some (.inr (.inr (0, 0))), none] (vv.toList ++ []) tt)) : X 0 [some (.inr (.inr (0, 0))), none] [] σ := am_run_ok emX6_text hX [7] 400 (show 1 ≤ 1 ∧ 0 ≤ 8 ∧ True ∧ sX1_tellAll [.inr (.inr (6, 0))] σ (fun vv tt => X 7 [some (.inr (.inr (0, 0))), none] (vv.toList ++ []) tt) from ⟨am_le rfl, am_le rfl, trivial, h⟩)
set_option maxRecDepth 100000 in
set_option maxHeartbeats 400000 in
theorem b_tx7 {K : Option am_V → am_M → Prop} {X : Nat → am_L → List am_V → am_M → Prop} (hX : am_cl eX6_text lX6_text (some .int) K X) {σ : am_M}  (h : (((σ 6 0 3) = (0 : Int32)) → sX0_copyFrom [.inr (.inr (3, 0)), .inr (.inr (3, 4))] (am_u (am_u σ 1 0 1 (0 : Int32)) 0 0 10 (σ 6 0 3)) (fun vv tt => X 58 [some (.inr (.inr (0, 0))), none] (vv.toList ++ []) tt)) ∧ (¬ ((σ 6 0 3) = (0 : Int32)) → K (some (.inl ((-10 : Int32) - (σ 6 0 4)))) (am_u (am_u σ 1 0 1 (0 : Int32)) 0 0 10 (σ 6 0 3)))) : X 7 [some (.inr (.inr (0, 0))), none] [] σ := am_run_ok emX6_text hX [58] 400 (show (((σ 6 0 3) = (0 : Int32)) → 2 ≤ 2 ∧ 0 ≤ 8 ∧ True ∧ sX0_copyFrom [.inr (.inr (3, 0)), .inr (.inr (3, 4))] (am_u (am_u σ 1 0 1 (0 : Int32)) 0 0 10 (σ 6 0 3)) (fun vv tt => X 58 [some (.inr (.inr (0, 0))), none] (vv.toList ++ []) tt)) ∧ (¬ ((σ 6 0 3) = (0 : Int32)) → K (some (.inl ((-10 : Int32) - (σ 6 0 4)))) (am_u (am_u σ 1 0 1 (0 : Int32)) 0 0 10 (σ 6 0 3))) from ⟨fun q0 => ⟨am_le rfl, am_le rfl, trivial, (h.1 q0)⟩, fun q0 => (h.2 q0)⟩)
set_option maxRecDepth 100000 in
set_option maxHeartbeats 400000 in
theorem b_tx58 {K : Option am_V → am_M → Prop} {X : Nat → am_L → List am_V → am_M → Prop} (hX : am_cl eX6_text lX6_text (some .int) K X) {σ : am_M}  (h : K (some (.inl (σ 6 0 2))) (am_u (am_u (am_u σ 11 0 2 (0 : Int32)) 15 0 0 (vp_nar .boolean (0 : Int32))) 15 0 1 (vp_nar .boolean (0 : Int32)))) : X 58 [some (.inr (.inr (0, 0))), none] [] σ := am_run_ok emX6_text hX [] 400 (show (((2 : Int32) ≤ (0 : Int32)) → _) ∧ (¬ ((2 : Int32) ≤ (0 : Int32)) → (vp_in (0 : Int32) 2) ∧ ((((2 : Int32) ≤ (1 : Int32)) → _) ∧ (¬ ((2 : Int32) ≤ (1 : Int32)) → (vp_in (1 : Int32) 2) ∧ ((((2 : Int32) ≤ (2 : Int32)) → K (some (.inl (σ 6 0 2))) (am_u (am_u (am_u σ 11 0 2 (0 : Int32)) 15 0 0 (vp_nar .boolean (0 : Int32))) 15 0 1 (vp_nar .boolean (0 : Int32)))) ∧ (¬ ((2 : Int32) ≤ (2 : Int32)) → _))))) from ⟨fun q => absurd q (by decide), fun _ => ⟨am_ci (by decide), ⟨fun q => absurd q (by decide), fun _ => ⟨am_ci (by decide), ⟨fun _ => h, fun q => absurd (by decide) q⟩⟩⟩⟩⟩)
theorem nuR_B {b : Nat → Nat} {t lo hi sm e : Nat} (h : tkB b t e = true) : nuR b t lo hi sm e = .inl (1, tkS b t e) := by
  unfold nuR
  rw [if_pos h]
theorem mr_B {b : Nat → Nat} {t n e : Nat} {p : Ps} (h : tkB b t e = true) : mrR b t p n e = .inl (1, tkS b t e) := by
  unfold mrR
  by_cases c5 : n < 5
  · rw [if_pos c5]
    simp only [on2, nuR_B h]
  rw [if_neg c5]
  by_cases c6 : n = 5
  · rw [if_pos c6]
    simp only [nuR_B h]
  rw [if_neg c6]
  by_cases c7 : n = 6
  · rw [if_pos c7]
    simp only [nuR_B h]
  rw [if_neg c7]
  simp only [nuR_B h]
theorem line_mr {b : Nat → Nat} {t i n : Nat} {p : Ps} (hk : tkK b t i = 1) (hn : nm b (tkS b t i) (tkE b t i) = n) (h8 : n < 8) (h5 : n < 5 → ¬ 9 ≤ p.m) (h6 : n = 5 → ¬ p.st = true) (h7 : n = 6 → ¬ p.ct = true) : lineR b t p i = mrR b t (mkP p.m p.r p.pl p.tc p.lc p.w (if n = 5 then true else p.st) (if n = 6 then true else p.ct)) n (tkE b t i) := by
  unfold lineR
  rw [if_neg (fun q => q hk), hn]
  unfold mrR
  by_cases c5 : n < 5
  · rw [if_pos c5, if_pos c5, if_neg (show ¬ n = 5 by omega), if_neg (show ¬ n = 6 by omega)]
    unfold onR
    rw [if_neg (h5 c5)]
    rfl
  rw [if_neg c5, if_neg c5]
  by_cases c6 : n = 5
  · subst c6
    unfold seR
    rw [if_pos rfl, if_pos rfl, if_neg (h6 rfl)]
    cases nuR b t 2 5 0 (tkE b t i) with
    | inl x => rfl
    | inr y =>
      obtain ⟨v, e1⟩ := y
      unfold stk
      cases stR b t e1 <;> rfl
  by_cases c7 : n = 6
  · subst c7
    unfold coR
    simp only [if_neg c6, if_pos, if_neg (h7 rfl)]
    cases nuR b t 0 9 0 (tkE b t i) with
    | inl x => rfl
    | inr y =>
      obtain ⟨v, e1⟩ := y
      show ((match nuR b t 0 9 0 e1 with | .inl x => .inl x | .inr (v2, e2) => match stR b t e2 with | .inl x => .inl x | .inr e3 => .inr (mkP p.m p.r p.pl v v2 p.w p.st true, e3)) : (Nat × Nat) ⊕ (Ps × Nat)) = ((match nuR b t 0 9 0 e1 with | .inl x => .inl x | .inr (v2, e2) => stk b t (mkP p.m p.r p.pl v v2 p.w p.st true) e2) : (Nat × Nat) ⊕ (Ps × Nat))
      cases nuR b t 0 9 0 e1 with
      | inl x => rfl
      | inr y2 =>
        obtain ⟨v2, e2⟩ := y2
        unfold stk
        cases stR b t e2 <;> rfl
  have c8 : n = 7 := by omega
  simp only [if_neg c6, if_neg c7, if_pos c8]
  unfold heR
  show ((match nuR b t 0 8 p.w (tkE b t i) with | .inl x => .inl x | .inr (v, e1) => match stR b t e1 with | .inl x => .inl x | .inr e2 => .inr (mkP p.m p.r p.pl p.tc p.lc (p.w ||| 2 ^ v) p.st p.ct, e2)) : (Nat × Nat) ⊕ (Ps × Nat)) = ((match nuR b t 0 8 p.w (tkE b t i) with | .inl x => .inl x | .inr (v, e1) => stk b t (mkP p.m p.r p.pl p.tc p.lc (p.w ||| 2 ^ v) p.st p.ct) e1) : (Nat × Nat) ⊕ (Ps × Nat))
  cases nuR b t 0 8 p.w (tkE b t i) with
  | inl x => rfl
  | inr y =>
    obtain ⟨v, e1⟩ := y
    unfold stk
    cases stR b t e1 <;> rfl
theorem tX7_readLine {σ : am_M} {t i : Nat} {b : Nat → Nat} {p : Ps} {K : am_K} (ht : tm σ t b) (hl : LH σ t b i) (hit : i ≤ t) (hw : iv_word σ) (hp : pkP p) (hr : RM σ p) (h0 : ∀ c q, lineR b t p i = .inl (c, q) → ∀ τ, fm σ τ → BR τ c q → K none τ) (h1 : ∀ p' e, lineR b t p i = .inr (p', e) → ∀ τ, fm σ τ → RM τ p' → LK τ t b e → K none τ) : sX7_readLine [.inr (.inr (20, 0))] σ K := by
  have eb := tkE_b (b := b) hit
  obtain ⟨g9, g11, g12, g13, g14⟩ := id hl
  obtain ⟨r1, r2, r3, r4, r5, r6, r7, r8, T, hT, rT, t5, t6⟩ := id hr
  have hpm := hp.1
  have br : ∀ c : Nat, 1 ≤ c → c ≤ 6 → BR (am_u (am_u σ 20 0 9 (nI c)) 20 0 10 (nI (tkS b t i))) c (tkS b t i) := fun c c1 c6 => ⟨rfl, rfl, c1, c6⟩
  have fu : ∀ c : Int32, fm σ (am_u (am_u σ 20 0 9 c) 20 0 10 (nI (tkS b t i))) := fun c => fm_u20 (fm_u20 fm_refl (by decide)) (by decide)
  refine ⟨am_le rfl, fun X hX => b_rl0 hX (tX7_nameHere ht hl hit hw (b_rl4 hX _ ?_))⟩
  rw [g9, g12]
  have bad2 : lineR b t p i = .inl (2, tkS b t i) → K none (am_u (am_u σ 20 0 9 (2 : Int32)) 20 0 10 (nI (tkS b t i))) := fun e => h0 2 _ e _ (fu _) (br 2 (by decide) (by decide))
  by_cases cn : tkK b t i = 1 ∧ nm b (tkS b t i) (tkE b t i) < 8
  · rw [if_pos cn]
    obtain ⟨ck, c8⟩ := cn
    have hline := @line_mr b t i _ p ck rfl c8
    have hu : lineR b t p i = if nm b (tkS b t i) (tkE b t i) < 5 then onR b t p (nm b (tkS b t i) (tkE b t i)) (tkS b t i) (tkE b t i) else if nm b (tkS b t i) (tkE b t i) = 5 then seR b t p (tkS b t i) (tkE b t i) else if nm b (tkS b t i) (tkE b t i) = 6 then coR b t p (tkS b t i) (tkE b t i) else if nm b (tkS b t i) (tkE b t i) = 7 then heR b t p (tkE b t i) else .inl (2, tkS b t i) := by
      unfold lineR
      rw [if_neg (fun q => q ck)]
    generalize nm b (tkS b t i) (tkE b t i) = n at c8 hline hu ⊢
    rw [show ((7 : Int32) < nI n ↔ 7 < n) from nI_ltI (a := 7) (by decide) (by omega)]
    refine ⟨fun q => absurd q (nI_pos (by omega)), fun _ => ⟨fun q => absurd q (by omega), fun _ => ?_⟩⟩
    have s73b : ∀ (c q : Nat) (τ : am_M), fm σ τ → BR τ c q → lineR b t p i = .inl (c, q) → X 73 [some (.inr (.inr (20, 0))), some (.inl (nI n))] [] τ := fun c q τ f1 hb e => b_rl73 hX _ (step_br (σ := am_u τ 20 0 4 _) hb (b_rl89 hX _ ⟨fun w => absurd w (BR_nl hb), fun _ => h0 c q e _ (fm_u20 f1 (by decide)) hb⟩))
    have e5 : nI n < (5 : Int32) ↔ n < 5 := nI_ltI (b := 5) (by omega) (by decide)
    have e6 : (6 : Int32) < nI n ↔ 6 < n := nI_ltI (a := 6) (by decide) (by omega)
    have e4 : (4 : Int32) < nI n ↔ 4 < n := nI_ltI (a := 4) (by decide) (by omega)
    have s73 : (n < 5 → ¬ 9 ≤ p.m) → (n = 5 → ¬ p.st = true) → (n = 6 → ¬ p.ct = true) → X 73 [some (.inr (.inr (20, 0))), some (.inl (nI n))] [] σ := by
      intro q5 q6 q7
      have hl2 := hline q5 q6 q7
      refine b_rl73 hX _ ?_
      rw [rT, q_one n (by omega), q_or]
      have hb5 : (T ||| 2 ^ n).testBit 5 = if n = 5 then true else p.st := by
        rw [Nat.testBit_or, t5, Nat.testBit_two_pow]
        by_cases c : n = 5
        · rw [if_pos c, decide_eq_true c, Bool.or_true]
        · rw [if_neg c, decide_eq_false c, Bool.or_false]
      have hb6 : (T ||| 2 ^ n).testBit 6 = if n = 6 then true else p.ct := by
        rw [Nat.testBit_or, t6, Nat.testBit_two_pow]
        by_cases c : n = 6
        · rw [if_pos c, decide_eq_true c, Bool.or_true]
        · rw [if_neg c, decide_eq_false c, Bool.or_false]
      have hr1 : RM (am_u σ 20 0 4 (nI (T ||| 2 ^ n))) (mkP p.m p.r p.pl p.tc p.lc p.w (if n = 5 then true else p.st) (if n = 6 then true else p.ct)) := ⟨r1, r2, r3, r4, r5, r6, r7, r8, T ||| 2 ^ n, Nat.or_lt_two_pow (n := 8) hT (Nat.pow_lt_pow_right (by decide) (by omega)), rfl, hb5, hb6⟩
      have f1 : fm σ (am_u σ 20 0 4 (nI (T ||| 2 ^ n))) := fm_u20 fm_refl (by decide)
      refine step_k (t := t) (b := b) (i := tkE b t i) (fm_tm f1 ht) g9 g11 eb.2.1 fun τ dd hk => ?_
      have f2 := fm_d f1 dd
      have hp1 : pkP (mkP p.m p.r p.pl p.tc p.lc p.w (if n = 5 then true else p.st) (if n = 6 then true else p.ct)) := hp
      rcases id hk with ⟨cB, hL⟩ | ⟨cB, hb⟩
      · refine b_rl89 hX _ ⟨fun _ => tX7_readMore (t := t) (b := b) (e := tkE b t i) (p := mkP p.m p.r p.pl p.tc p.lc p.w (if n = 5 then true else p.st) (if n = 6 then true else p.ct)) (fm_tm f2 ht) hk eb.2.1 hp1 (RM_d dd hr1) c8 (fun q => Nat.lt_of_not_le (q5 q)) (fun υ f3 hmd => ?_), fun w => absurd (by rw [hL.1]; decide) w⟩
        rw [← hl2] at hmd
        have f4 := fm_trans f2 f3
        have s122b : ∀ (c q : Nat) (ω : am_M), fm σ ω → BR ω c q → lineR b t p i = .inl (c, q) → X 122 [some (.inr (.inr (20, 0))), some (.inl (nI n))] [] ω := fun c q ω f5 hb e => b_rl122 hX _ (step_br hb (b_rl126 hX _ (h0 c q e ω f5 hb)))
        rcases hmd with ⟨c, q, eR, hb⟩ | ⟨p', e1, he1, eR, hk1, hm1⟩
        · exact b_rl102 hX _ ⟨fun w => absurd w (BR_nz hb), fun _ => s122b c q υ f4 hb eR⟩
        · unfold stk stR at eR
          rcases hk1 with ⟨cB1, l9, l11, l12, l13, l14⟩ | ⟨cB1, hb⟩
          · rw [if_neg (by rw [cB1]; decide)] at eR
            have k4 := tkK_4 b t e1
            refine b_rl102 hX _ ⟨fun _ => ?_, fun w => absurd l9 w⟩
            rw [l13, show (nI (tkK b t e1) = (3 : Int32) ↔ tkK b t e1 = 3) from nI_eq (b := 3) (by omega) (by decide), l12]
            refine ⟨fun c3 => ?_, fun c3 => ⟨fun _ => ?_, fun w => absurd l9 w⟩⟩
            · rw [if_neg (fun w => w c3)] at eR
              refine b_rl122 hX _ (step_k (t := t) (b := b) (i := tkE b t e1) (fm_tm f4 ht) l9 l11 (tkE_b he1).2.1 fun ω d2 hk2 => b_rl126 hX _ (h1 p' _ eR ω (fm_d f4 d2) (RM_d d2 hm1) hk2))
            · rw [if_pos c3] at eR
              exact s122b 2 _ _ (fm_u20 (fm_u20 f4 (by decide)) (by decide)) ⟨rfl, rfl, by decide, by decide⟩ eR
          · rw [if_pos cB1] at eR
            exact b_rl102 hX _ ⟨fun w => absurd w (BR_nz hb), fun _ => s122b 1 _ υ f4 hb eR⟩
      · refine b_rl89 hX _ ⟨fun w => absurd w (BR_nl hb), fun _ => h0 1 _ ?_ τ f2 hb⟩
        rw [hl2, mr_B cB]
    refine b_rl23 hX _ ?_
    rw [e4, r1, show (nI p.m = (9 : Int32) ↔ p.m = 9) from nI_eq (b := 9) (by omega) (by decide), g12]
    refine ⟨fun c4 => b_rl42 hX _ ?_, fun c4 => ⟨fun c9 => ⟨fun _ => b_rl42 hX _ ⟨fun _ => ?_, fun w => absurd (e5.2 (by omega)) w⟩, fun w => absurd g9 w⟩, fun c9 => b_rl42 hX _ ⟨fun _ => ?_, fun w => absurd (e5.2 (by omega)) w⟩⟩⟩
    · rw [e5, e6, rT, q_bitv (by omega) (by omega), q_ite1, g9, g12]
      refine ⟨fun w => absurd w (by omega), fun _ => ⟨fun c6 => s73 (fun w => absurd w (by omega)) (fun w => absurd w (by omega)) (fun w => absurd w (by omega)), fun c6 => ⟨fun ct => ⟨fun _ => s73b 4 _ _ (fu _) (br 4 (by decide) (by decide)) ?_, fun w => absurd rfl w⟩, fun ct => ?_⟩⟩⟩
      · rw [hu, if_neg (by omega)]
        rcases (by omega : n = 5 ∨ n = 6) with q | q
        · subst q
          rw [if_pos rfl]
          unfold seR
          rw [if_pos (t5 ▸ ct)]
        · subst q
          rw [if_neg (by decide), if_pos rfl]
          unfold coR
          rw [if_pos (t6 ▸ ct)]
      · refine s73 (fun w => absurd w (by omega)) (fun w => ?_) (fun w => ?_)
        · rw [w, t5] at ct
          exact ct
        · rw [w, t6] at ct
          exact ct
    · refine s73b 5 _ _ (fu _) (br 5 (by decide) (by decide)) ?_
      rw [hu, if_pos (by omega)]
      unfold onR
      rw [if_pos (by omega)]
    · exact s73 (fun _ => by omega) (fun w => absurd w (by omega)) (fun w => absurd w (by omega))
  · rw [if_neg cn]
    refine ⟨fun _ => ⟨fun _ => bad2 ?_, fun w => absurd rfl w⟩, fun w => absurd (by decide) w⟩
    unfold lineR
    by_cases ck : tkK b t i = 1
    · have c8 : ¬ nm b (tkS b t i) (tkE b t i) < 8 := fun q => cn ⟨ck, q⟩
      rw [if_neg (fun q => q ck), if_neg (by omega), if_neg (by omega), if_neg (by omega), if_neg (by omega)]
    · rw [if_pos ck]
theorem tX7_text {σ : am_M} {t : Nat} {b : Nat → Nat} {K : am_K} (ht : tm σ t b) (hw : iv_word σ) (h0 : ∀ c q, finR b t = .inl (c, q) → ∀ τ, (∀ k, k ≠ 20 → k ≠ 22 → τ k = σ k) → (∀ j, j < 3 ∨ 14 < j → τ 20 0 j = σ 20 0 j) → τ 20 0 7 = 0 → τ 20 0 8 = nI c → K (some (.inl ((-10 : Int32) - nI q))) τ) (h1 : ∀ p n, finR b t = .inr (p, n) → pkP p → ∀ τ, (∀ k, k ≠ 20 → k ≠ 21 → k ≠ 22 → k ≠ 28 → τ k = σ k) → τ 20 0 1 = nI p.m → τ 20 0 7 = 0 → τ 20 0 8 = 0 → τ 20 0 23 = 0 → τ 20 0 28 = σ 20 0 28 → τ 28 0 0 = 0 → τ 28 0 1 = 0 → (∀ q j, q < p.m → j < 6 → τ 21 0 (7 * q + j) = nI (p.r q j)) → (∀ q, q < p.m → τ 21 0 (7 * q + 6) = bI (p.w.testBit q)) → τ 21 0 63 + 3 = nI p.pl → τ 21 0 64 + 1 = nI p.tc → τ 21 0 65 + 1 = nI p.lc → τ 21 0 66 = 0 → τ 21 0 67 = 0 → K (some (.inl (nI n))) τ) : sX7_text [.inr (.inr (20, 0))] σ K := by
  have t160 := ht.1
  have gok := goR_ok (b := b) (t := t) 161 p0P 0 0 p0_ok (Nat.zero_le _) (by omega)
  unfold finR at h0 h1
  refine ⟨am_le rfl, fun X hX => b_ty0 hX ?_⟩
  have f0 : fm σ (am_u (am_u (am_u (am_u (am_u σ 20 0 9 (0 : Int32)) 20 0 11 (0 : Int32)) 20 0 3 (0 : Int32)) 20 0 4 (0 : Int32)) 20 0 5 (0 : Int32)) := fm_u20 (fm_u20 (fm_u20 (fm_u20 (fm_u20 fm_refl (by decide)) (by decide)) (by decide)) (by decide)) (by decide)
  have fin0 : ∀ (υ : am_M) (x : Int32) (c : Int32), fm σ υ → (∀ k, k ≠ 20 → k ≠ 22 → am_u (am_u υ 20 0 7 x) 20 0 8 c k = σ k) ∧ ∀ j, j < 3 ∨ 14 < j → am_u (am_u υ 20 0 7 x) 20 0 8 c 20 0 j = σ 20 0 j := fun υ x c f => ⟨fun k a b => by rw [am_u_k a, am_u_k a, f.1 k a b], fun j hj => by rw [am_u_j (by omega), am_u_j (by omega), f.2 j (by omega)]⟩
  have s76b : ∀ (c q n : Nat) (υ : am_M), fm σ υ → BR υ c q → goR b t 161 p0P 0 0 = .inl (c, q) → X 76 [some (.inr (.inr (20, 0))), some (.inl (nI n)), none] [] υ := fun c q n υ f hb hg => by
    refine b_ty76 hX _ ⟨fun w => absurd w (BR_nz hb), fun _ => ⟨fun w => absurd w (BR_nl hb), fun _ => ?_⟩⟩
    rw [hb.2.1]
    obtain ⟨a1, a2⟩ := fin0 υ 0 (υ 20 0 9) f
    refine h0 c q (by simp only [hg]) _ a1 a2 rfl ?_
    show υ 20 0 9 = nI c
    exact hb.1
  have s76g : ∀ (p : Ps) (n : Nat) (υ : am_M), fm σ υ → υ 20 0 9 = 0 → υ 20 0 12 = nI t → RM υ p → pkP p → goR b t 161 p0P 0 0 = .inr (p, n) → X 76 [some (.inr (.inr (20, 0))), some (.inl (nI n)), none] [] υ := by
    intro p n υ f g9 g12 hm hp hg
    obtain ⟨r1, r2, r3, r4, r5, r6, r7, r8, -⟩ := id hm
    have hpm := hp.1
    have hpw := hp.2.2.2.2.2
    refine b_ty76 hX _ ⟨fun _ => ?_, fun w => absurd g9 w⟩
    have ediv : p.w / 2 ^ p.m = 0 ↔ ¬ 2 ^ p.m ≤ p.w := by
      rw [Nat.div_eq_zero_iff]
      have := Nat.two_pow_pos p.m
      omega
    have hd : p.w / 2 ^ p.m ≤ p.w := Nat.div_le_self _ _
    rw [r8, r1, q_shr (by omega) (by omega), show (nI (p.w / 2 ^ p.m) = (0 : Int32) ↔ p.w / 2 ^ p.m = 0) from nI_eq (b := 0) (by omega) (by decide), ediv, g12]
    refine ⟨fun cw => ⟨fun _ => ?_, fun w => absurd (by rw [g9]; decide) w⟩, fun cw => ⟨fun _ => ?_, fun w => absurd g9 w⟩⟩
    · have h1 := h1 p n (by simp only [hg, if_neg cw]) hp
      rw [g9]
      obtain ⟨a1, a2⟩ := fin0 υ 0 0 f
      have q5 : am_u (am_u υ 20 0 7 (0 : Int32)) 20 0 8 (0 : Int32) 20 0 5 = nI p.w := r8
      have q3 : am_u (am_u υ 20 0 7 (0 : Int32)) 20 0 8 (0 : Int32) 20 0 3 = nI p.m := r1
      have q7 : am_u (am_u υ 20 0 7 (0 : Int32)) 20 0 8 (0 : Int32) 20 0 7 = 0 := rfl
      have q8 : am_u (am_u υ 20 0 7 (0 : Int32)) 20 0 8 (0 : Int32) 20 0 8 = 0 := rfl
      have q22 : am_u (am_u υ 20 0 7 (0 : Int32)) 20 0 8 (0 : Int32) 22 = υ 22 := rfl
      generalize am_u (am_u υ 20 0 7 (0 : Int32)) 20 0 8 (0 : Int32) = ω at a1 a2 q5 q3 q7 q8 q22 ⊢
      have cpy := q_dn (W := fun k => ∀ κ : am_M, (∀ k', k' ≠ 21 → κ k' = ω k') → (∀ j, j < k → κ 21 0 j = υ 22 0 j) → X 131 [some (.inr (.inr (20, 0))), some (.inl (nI n)), some (.inl (nI k))] [] κ) (n := 68) (fun k hk IH κ e1 e2 => ?_) (fun κ e1 e2 => ?_) 0 (Nat.zero_le _) ω (fun _ _ => rfl) (fun j hj => absurd hj (Nat.not_lt_zero j))
      · exact cpy
      · refine b_ty131 hX _ _ ?_
        rw [show ((68 : Int32) ≤ nI k ↔ 68 ≤ k) from nI_leI (a := 68) (by decide) (by omega), nI_clamp (by omega), show nI k + (1 : Int32) = nI (k + 1) from nI_add k 1]
        refine ⟨fun w => absurd w (by omega), fun _ => ⟨q_in (by omega) (by decide), q_in (by omega) (by decide), IH _ (fun k' hk' => by rw [am_u_k hk', e1 k' hk']) (fun j hj => ?_)⟩⟩
        by_cases c : j = k
        · rw [c, am_u_s, e1 22 (by decide), q22]
        · rw [am_u_j c]
          exact e2 j (by omega)
      · refine b_ty131 hX _ _ ⟨fun _ => ?_, fun w => absurd (by decide) w⟩
        refine am_fo hX (ls := [some (.inr (.inr (20, 0))), some (.inl (nI n)), none]) ⟨rfl, rfl, trivial⟩ (b_ty155 hX _ ?_)
        rw [e1 20 (by decide), q3]
        refine q_dn (W := fun k => ∀ κ' : am_M, (∀ k', k' ≠ 20 → k' ≠ 21 → κ' k' = ω k') → κ' 20 0 1 = nI p.m → (∀ j, j ≠ 1 → κ' 20 0 j = ω 20 0 j) → (∀ j, j < 68 → (¬ ∃ q, q < p.m ∧ j = 7 * q + 6) → κ' 21 0 j = υ 22 0 j) → (∀ q, q < k → κ' 21 0 (7 * q + 6) = bI (p.w.testBit q)) → X 165 [some (.inr (.inr (20, 0))), some (.inl (nI n)), some (.inl (nI k))] [] κ') (n := p.m) (fun k hk IH κ' i1 i2 i3 i4 i5 => ?_) (fun κ' i1 i2 i3 i4 i5 => ?_) 0 (Nat.zero_le _) _ (fun k' h20 h21 => by rw [am_u_k h20, e1 k' h21]) rfl (fun j hj => by rw [am_u_j hj, e1 20 (by decide)]) (fun j hj _ => by rw [am_u_k (by decide)]; exact e2 j hj) (fun q hq => absurd hq (Nat.not_lt_zero q))
        · refine b_ty165 hX _ _ ?_
          rw [i2, nI_leI (by omega) (by omega), show (7 : Int32) * nI k + (6 : Int32) = nI (7 * k + 6) from m_i7w k 6, nI_clamp (by omega), i3 5 (by decide), q5, q_bitv (by omega) (by omega), show nI k + (1 : Int32) = nI (k + 1) from nI_add k 1]
          refine ⟨fun w => absurd w (by omega), fun _ => ⟨q_in (by omega) (by decide), IH _ (fun k' a b => by rw [am_u_k b, i1 k' a b]) i2 i3 (fun j hj hne => ?_) (fun q hq => ?_)⟩⟩
          · rw [am_u_j (fun w => hne ⟨k, hk, w⟩)]
            exact i4 j hj hne
          · by_cases c : q = k
            · rw [c, am_u_s]
              rfl
            · rw [am_u_j (by omega)]
              exact i5 q (by omega)
        · refine b_ty165 hX _ _ ⟨fun _ => ?_, fun w => absurd (by rw [i2]; exact nI_le (Nat.le_refl _) (by omega)) w⟩
          have row : ∀ j, j < 68 → (¬ ∃ q, q < p.m ∧ j = 7 * q + 6) → κ' 21 0 j = υ 22 0 j := i4
          have n6 : ∀ j, 63 ≤ j → ¬ ∃ q, q < p.m ∧ j = 7 * q + 6 := fun j hj ⟨q, hq, e⟩ => by omega
          refine h1 _ (fun k a b c d => ?_) i2 ?_ ?_ rfl ?_ rfl rfl (fun q j hq hj => ?_) i5 ?_ ?_ ?_ ?_ ?_
          · rw [am_u_k d, am_u_k d, am_u_k a, i1 k a b, a1 k a c]
          · show κ' 20 0 7 = 0
            rw [i3 7 (by decide), q7]
          · show κ' 20 0 8 = 0
            rw [i3 8 (by decide), q8]
          · show κ' 20 0 28 = σ 20 0 28
            rw [i3 28 (by decide), a2 28 (by decide)]
          · show κ' 21 0 (7 * q + j) = _
            rw [row _ (by omega) (fun ⟨q', hq', e⟩ => by omega)]
            exact r2 q j hq hj
          · show κ' 21 0 63 + 3 = _
            rw [row 63 (by decide) (n6 63 (by decide))]
            exact r3
          · show κ' 21 0 64 + 1 = _
            rw [row 64 (by decide) (n6 64 (by decide))]
            exact r4
          · show κ' 21 0 65 + 1 = _
            rw [row 65 (by decide) (n6 65 (by decide))]
            exact r5
          · show κ' 21 0 66 = _
            rw [row 66 (by decide) (n6 66 (by decide))]
            exact r6
          · show κ' 21 0 67 = _
            rw [row 67 (by decide) (n6 67 (by decide))]
            exact r7
    · obtain ⟨a1, a2⟩ := fin0 (am_u (am_u υ 20 0 9 (6 : Int32)) 20 0 10 (nI t)) 0 6 (fm_u20 (fm_u20 f (by decide)) (by decide))
      exact h0 6 t (by simp only [hg, if_pos (Classical.not_not.mp cw)]) _ a1 a2 rfl rfl
  have loop : ∀ d p n i υ, goR b t 161 p0P 0 0 = goR b t d p n i → pkP p → i ≤ t → t < i + d → fm σ υ → RM υ p → LK υ t b i → X 52 [some (.inr (.inr (20, 0))), some (.inl (nI n)), none] [] υ := by
    intro d
    induction d with
    | zero =>
      intro p n i υ _ _ _ hd
      omega
    | succ d ih =>
      intro p n i υ hg hp hit hd f hm hk
      rw [goR_s b t d p n i] at hg
      rcases hk with ⟨cB, hL⟩ | ⟨cB, hb⟩
      · rw [if_neg (by rw [cB]; decide)] at hg
        have k4 := tkK_4 b t i
        refine b_ty52 hX _ ⟨fun _ => ?_, fun w => absurd hL.1 w⟩
        rw [hL.2.2.2.1, show (nI (tkK b t i) = (0 : Int32) ↔ tkK b t i = 0) from nI_eq (b := 0) (by omega) (by decide)]
        refine ⟨fun c0 => ?_, fun c0 => ?_⟩
        · rw [if_pos c0] at hg
          refine s76g p n υ f hL.1 ?_ hm hp hg
          have sb := tkS_b (b := b) hit
          have : tkS b t i = t := by
            unfold tkK at c0
            by_cases c : t ≤ tkS b t i
            · omega
            · rw [if_neg c] at c0
              revert c0
              repeat' split
              all_goals intro c0; omega
          rw [hL.2.2.1, this]
        · rw [if_neg c0] at hg
          obtain ⟨o1, o2⟩ := lineR_ok (b := b) hp hit
          refine tX7_readLine (t := t) (b := b) (i := i) (fm_tm f ht) hL hit (fm_word f hw) hp hm (fun c q hl ω f2 hb => b_ty70 hX _ ?_) (fun p' e hl ω f2 hm2 hk2 => b_ty70 hX _ ?_)
          · simp only [hl] at hg
            rw [show nI n + (1 : Int32) = nI (n + 1) from nI_add n 1]
            exact b_ty52 hX _ ⟨fun w => absurd w (BR_nz hb), fun _ => s76b c q (n + 1) ω (fm_trans f f2) hb hg⟩
          · simp only [hl] at hg
            obtain ⟨o3, o4, o5⟩ := o2 p' e hl
            rw [show nI n + (1 : Int32) = nI (n + 1) from nI_add n 1]
            exact ih p' (n + 1) e ω hg o3 o5 (by omega) (fm_trans f f2) hm2 hk2
      · rw [if_pos cB] at hg
        exact b_ty52 hX _ ⟨fun w => absurd w (BR_nz hb), fun _ => s76b 1 _ n υ f hb hg⟩
  have g9 : am_u (am_u (am_u (am_u (am_u σ 20 0 9 (0 : Int32)) 20 0 11 (0 : Int32)) 20 0 3 (0 : Int32)) 20 0 4 (0 : Int32)) 20 0 5 (0 : Int32) 20 0 9 = 0 := rfl
  have g11 : am_u (am_u (am_u (am_u (am_u σ 20 0 9 (0 : Int32)) 20 0 11 (0 : Int32)) 20 0 3 (0 : Int32)) 20 0 4 (0 : Int32)) 20 0 5 (0 : Int32) 20 0 11 = nI 0 := rfl
  have g3 : am_u (am_u (am_u (am_u (am_u σ 20 0 9 (0 : Int32)) 20 0 11 (0 : Int32)) 20 0 3 (0 : Int32)) 20 0 4 (0 : Int32)) 20 0 5 (0 : Int32) 20 0 3 = nI 0 := rfl
  have g4 : am_u (am_u (am_u (am_u (am_u σ 20 0 9 (0 : Int32)) 20 0 11 (0 : Int32)) 20 0 3 (0 : Int32)) 20 0 4 (0 : Int32)) 20 0 5 (0 : Int32) 20 0 4 = nI 0 := rfl
  have g5 : am_u (am_u (am_u (am_u (am_u σ 20 0 9 (0 : Int32)) 20 0 11 (0 : Int32)) 20 0 3 (0 : Int32)) 20 0 4 (0 : Int32)) 20 0 5 (0 : Int32) 20 0 5 = nI 0 := rfl
  generalize am_u (am_u (am_u (am_u (am_u σ 20 0 9 (0 : Int32)) 20 0 11 (0 : Int32)) 20 0 3 (0 : Int32)) 20 0 4 (0 : Int32)) 20 0 5 (0 : Int32) = σ1 at f0 g9 g11 g3 g4 g5 ⊢
  refine q_dn (W := fun k => ∀ κ : am_M, (∀ k', k' ≠ 22 → κ k' = σ1 k') → (∀ j, j < k → κ 22 0 j = 0) → X 29 [some (.inr (.inr (20, 0))), some (.inl (0 : Int32)), some (.inl (nI k))] [] κ) (n := 68) (fun k hk IH κ e1 e2 => ?_) (fun κ e1 e2 => ?_) 0 (Nat.zero_le _) σ1 (fun _ _ => rfl) (fun j hj => absurd hj (Nat.not_lt_zero j))
  · refine b_ty29 hX _ ?_
    rw [show ((68 : Int32) ≤ nI k ↔ 68 ≤ k) from nI_leI (a := 68) (by decide) (by omega), nI_clamp (by omega), show nI k + (1 : Int32) = nI (k + 1) from nI_add k 1]
    refine ⟨fun w => absurd w (by omega), fun _ => ⟨q_in (by omega) (by decide), IH _ (fun k' hk' => by rw [am_u_k hk', e1 k' hk']) (fun j hj => ?_)⟩⟩
    by_cases c : j = k
    · rw [c, am_u_s]
    · rw [am_u_j c]
      exact e2 j (by omega)
  · refine b_ty29 hX _ ⟨fun _ => ?_, fun w => absurd (by decide) w⟩
    have fκ : fm σ κ := ⟨fun k a b => by rw [e1 k b, f0.1 k a b], fun j hj => by rw [e1 20 (by decide), f0.2 j hj]⟩
    refine am_fo hX (ls := [some (.inr (.inr (20, 0))), some (.inl (0 : Int32)), none]) ⟨rfl, rfl, trivial⟩ (b_ty48 hX (step_k (t := t) (b := b) (i := 0) (fm_tm fκ ht) (by rw [e1 20 (by decide)]; exact g9) (by rw [e1 20 (by decide)]; exact g11) (Nat.zero_le _) fun υ dd hk => ?_))
    refine loop 161 p0P 0 0 υ rfl p0_ok (Nat.zero_le _) (by omega) (fm_d fκ dd) (RM_d dd ⟨by rw [e1 20 (by decide)]; exact g3, fun q j hq => absurd hq (Nat.not_lt_zero q), ?_, ?_, ?_, e2 66 (by decide), e2 67 (by decide), by rw [e1 20 (by decide)]; exact g5, 0, by decide, by rw [e1 20 (by decide)]; exact g4, rfl, rfl⟩) hk
    · rw [e2 63 (by decide)]
      rfl
    · rw [e2 64 (by decide)]
      rfl
    · rw [e2 65 (by decide)]
      rfl
