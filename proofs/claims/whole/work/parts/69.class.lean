/-! the text: all of it, to the class -/
theorem tX1_takeLine {σ : am_M} {t i : Nat} {b : Nat → Nat} {p : Ps} {K : am_K} (ht : tp σ t b) (hc : pcr σ p) (hit : i ≤ t) (h3 : σ 6 0 3 = 0) (h5 : σ 6 0 5 = nI (tkK b t i)) (h6 : σ 6 0 6 = nI (tkS b t i)) (h7 : σ 6 0 7 = nI (tkE b t i)) (h0 : ∀ c q, lineR b t p i = .inl (c, q) → ∀ τ, fc σ τ → τ 6 0 2 = σ 6 0 2 → τ 6 0 3 = nI c → τ 6 0 4 = nI q → K (some (.inl (0 : Int32))) τ) (h1 : ∀ p' e', lineR b t p i = .inr (p', e') → ∀ τ, fc σ τ → τ 6 0 2 = σ 6 0 2 → τ 6 0 3 = 0 → pcr τ p' → τ 6 0 7 = nI e' → K (some (.inl (1 : Int32))) τ) : sX1_takeLine [.inr (.inr (6, 0))] σ K := by
  have k4 : tkK b t i ≤ 4 := by
    unfold tkK
    repeat' split
    all_goals decide
  have eb := tkE_b (b := b) hit
  unfold lineR at h0 h1
  generalize tkS b t i = s at h0 h1 h6 eb
  generalize tkE b t i = e at h0 h1 h7 eb
  obtain ⟨hse, het, -⟩ := eb
  refine ⟨am_le rfl, fun X hX => b_tl0 hX ?_⟩
  rw [h5, show (nI (tkK b t i) = (1 : Int32) ↔ tkK b t i = 1) from nI_eq (b := 1) (by omega) (by decide), h6]
  refine ⟨fun c1 => ?_, fun c1 => ?_⟩
  · rw [if_neg (fun q => q c1)] at h0 h1
    refine tX1_isWord ht (by decide) h6 h7 hse het (b_tl24 hX _ ?_)
    rw [bI_0]
    refine ⟨fun d0 => ?_, fun d0 => ?_⟩
    · refine tX1_isWord ht (by decide) h6 h7 hse het (b_tl38 hX _ ?_)
      rw [bI_0]
      refine ⟨fun d1 => ?_, fun d1 => ?_⟩
      · refine tX1_isWord ht (by decide) h6 h7 hse het (b_tl52 hX _ ?_)
        rw [bI_0]
        refine ⟨fun d2 => ?_, fun d2 => ?_⟩
        · refine tX1_kindNamed ht h6 h7 hse het (b_tl65 hX _ ?_)
          have hn := nm_le b s e
          by_cases c5 : nm b s e < 5
          · rw [if_pos c5] at h0 h1 ⊢
            exact tX1_takeOne (t := t) (b := b) (s := s) (e := e) ht hc (by omega) h3 h6 h7 het (fun c q hr τ f1 g2 g3 g4 => b_tl68 hX _ ⟨rfl, h0 c q hr τ f1 g2 g3 g4⟩) (fun p' e' hr τ f1 g2 g3 g4 g5 => b_tl68 hX _ ⟨rfl, h1 p' e' hr τ f1 g2 g3 g4 g5⟩)
          · rw [if_neg c5] at h0 h1 ⊢
            have n8 : nm b s e = 8 := by
              apply Classical.byContradiction
              intro q
              have w := nm_wi (b := b) (s := s) (e := e) (by omega)
              rcases (by omega : nm b s e = 5 ∨ nm b s e = 6 ∨ nm b s e = 7) with g | g | g <;> rw [g] at w
              · exact absurd (w.symm.trans d0) (by decide)
              · exact absurd (w.symm.trans d1) (by decide)
              · exact absurd (w.symm.trans d2) (by decide)
            rw [n8, if_neg (by decide), if_neg (by decide), if_neg (by decide)] at h0
            refine ⟨am_le rfl, fun Y hY => b_to0 hY _ ⟨fun _ => b_tl68 hX _ ⟨rfl, h0 2 s rfl _ (fc_u6 (fc_u6 fc_refl)) rfl rfl ?_⟩, fun q => absurd rfl q⟩⟩
            rw [h6]
            rfl
        · have e7 : nm b s e = 7 := nm_of (n := 7) (by decide) ((Bool.eq_false_or_eq_true _).resolve_right d2)
          rw [e7, if_neg (by decide), if_neg (by decide), if_neg (by decide), if_pos rfl] at h0 h1
          exact tX1_takeHere (t := t) (b := b) (e := e) ht hc h3 h7 het (fun c q hr τ f1 g2 g3 g4 => b_tl59 hX _ ⟨rfl, h0 c q hr τ f1 g2 g3 g4⟩) (fun p' e' hr τ f1 g2 g3 g4 g5 => b_tl59 hX _ ⟨rfl, h1 p' e' hr τ f1 g2 g3 g4 g5⟩)
      · have e7 : nm b s e = 6 := nm_of (n := 6) (by decide) ((Bool.eq_false_or_eq_true _).resolve_right d1)
        rw [e7, if_neg (by decide), if_neg (by decide), if_pos rfl] at h0 h1
        exact tX1_takeCosts (t := t) (b := b) (s := s) (e := e) ht hc h3 h6 h7 het (fun c q hr τ f1 g2 g3 g4 => b_tl45 hX _ ⟨rfl, h0 c q hr τ f1 g2 g3 g4⟩) (fun p' e' hr τ f1 g2 g3 g4 g5 => b_tl45 hX _ ⟨rfl, h1 p' e' hr τ f1 g2 g3 g4 g5⟩)
    · have e7 : nm b s e = 5 := nm_of (n := 5) (by decide) ((Bool.eq_false_or_eq_true _).resolve_right d0)
      rw [e7, if_neg (by decide), if_pos rfl] at h0 h1
      exact tX1_takeSeats (t := t) (b := b) (s := s) (e := e) ht hc h3 h6 h7 het (fun c q hr τ f1 g2 g3 g4 => b_tl31 hX _ ⟨rfl, h0 c q hr τ f1 g2 g3 g4⟩) (fun p' e' hr τ f1 g2 g3 g4 g5 => b_tl31 hX _ ⟨rfl, h1 p' e' hr τ f1 g2 g3 g4 g5⟩)
  · rw [if_pos c1] at h0
    exact h0 2 s rfl _ (fc_u6 (fc_u6 fc_refl)) rfl rfl rfl
/-- what was told lies in its bounds -/
def pkP (p : Ps) : Prop := p.m ≤ 9 ∧ (∀ q, q < p.m → p.r q 0 ≤ 4 ∧ (∀ j, 1 ≤ j → j ≤ 3 → p.r q j ≤ 5) ∧ ∀ j, 4 ≤ j → j ≤ 5 → p.r q j ≤ 9) ∧ (2 ≤ p.pl ∧ p.pl ≤ 5) ∧ p.tc ≤ 9 ∧ p.lc ≤ 9 ∧ p.w < 512
def okR (t i : Nat) (x : (Nat × Nat) ⊕ (Ps × Nat)) : Prop := (∀ c q, x = .inl (c, q) → 1 ≤ c ∧ c ≤ 6 ∧ q ≤ t) ∧ ∀ p e, x = .inr (p, e) → pkP p ∧ i < e ∧ e ≤ t
theorem okR_f {t i c q : Nat} (h : 1 ≤ c ∧ c ≤ 6 ∧ q ≤ t) : okR t i (.inl (c, q)) := ⟨fun c' q' e => by
  have e := Sum.inl.inj e
  have e1 : c = c' := congrArg Prod.fst e
  have e2 : q = q' := congrArg Prod.snd e
  rw [← e1, ← e2]
  exact h, fun p e h' => by cases h'⟩
theorem okR_o {t i e : Nat} {p : Ps} (h : pkP p ∧ i < e ∧ e ≤ t) : okR t i (.inr (p, e)) := ⟨fun c' q' e => (by cases e), fun p' e' h' => by
  have e := Sum.inr.inj h'
  have e1 : p = p' := congrArg Prod.fst e
  have e2 : _ = e' := congrArg Prod.snd e
  rw [← e1, ← e2]
  exact h⟩
theorem f_c {c q t : Nat} (h1 : 1 ≤ c) (h2 : c ≤ 6) (h3 : q ≤ t) : 1 ≤ (c, q).1 ∧ (c, q).1 ≤ 6 ∧ (c, q).2 ≤ t := ⟨h1, h2, h3⟩
theorem nuR_c {b : Nat → Nat} {t lo hi sm i : Nat} {x : Nat × Nat} (hit : i ≤ t) (h : nuR b t lo hi sm i = .inl x) : 1 ≤ x.1 ∧ x.1 ≤ 6 ∧ x.2 ≤ t := by
  have sb := tkS_b (b := b) hit
  unfold nuR at h
  by_cases c0 : tkB b t i = true
  · rw [if_pos c0] at h
    rw [← Sum.inl.inj h]
    exact f_c (by decide) (by decide) sb.2
  rw [if_neg c0] at h
  by_cases c1 : tkK b t i = 2
  · rw [if_neg (fun q => q c1)] at h
    by_cases c2 : tkV b t i < lo ∨ hi < tkV b t i
    · rw [if_pos c2] at h
      rw [← Sum.inl.inj h]
      exact f_c (by decide) (by decide) sb.2
    rw [if_neg c2] at h
    by_cases c3 : sm.testBit (tkV b t i) = true
    · rw [if_pos c3] at h
      rw [← Sum.inl.inj h]
      exact f_c (by decide) (by decide) sb.2
    rw [if_neg c3] at h
    cases h
  · rw [if_pos c1] at h
    rw [← Sum.inl.inj h]
    exact f_c (by decide) (by decide) sb.2
theorem stR_c {b : Nat → Nat} {t i : Nat} {x : Nat × Nat} (hit : i ≤ t) (h : stR b t i = .inl x) : 1 ≤ x.1 ∧ x.1 ≤ 6 ∧ x.2 ≤ t := by
  have sb := tkS_b (b := b) hit
  unfold stR at h
  by_cases c0 : tkB b t i = true
  · rw [if_pos c0] at h
    rw [← Sum.inl.inj h]
    exact f_c (by decide) (by decide) sb.2
  rw [if_neg c0] at h
  by_cases c1 : tkK b t i = 3
  · rw [if_neg (fun q => q c1)] at h
    cases h
  · rw [if_pos c1] at h
    rw [← Sum.inl.inj h]
    exact f_c (by decide) (by decide) sb.2
theorem seR_ok {b : Nat → Nat} {t i s e : Nat} {p : Ps} (hp : pkP p) (hs : s ≤ t) (hie : i < e) (het : e ≤ t) : okR t i (seR b t p s e) := by
  unfold seR
  by_cases c : p.st = true
  · rw [if_pos c]
    exact okR_f ⟨by decide, by decide, hs⟩
  rw [if_neg c]
  cases hn : nuR b t 2 5 0 e with
  | inl x => exact okR_f (nuR_c het hn)
  | inr y =>
    obtain ⟨v, e1⟩ := y
    obtain ⟨n1, n2, n3, n4, n5, -⟩ := nuR_b hn het
    show okR t i (match stR b t e1 with | .inl x => .inl x | .inr e2 => .inr (mkP p.m p.r v p.tc p.lc p.w true p.ct, e2))
    cases hs2 : stR b t e1 with
    | inl x => exact okR_f (stR_c n4 hs2)
    | inr e2 =>
      obtain ⟨m1, m2⟩ := stR_b hs2 n4
      obtain ⟨q1, q2, q3, q4⟩ := hp
      exact okR_o ⟨⟨q1, q2, ⟨n1, n2⟩, q4⟩, by omega, m1⟩
theorem coR_ok {b : Nat → Nat} {t i s e : Nat} {p : Ps} (hp : pkP p) (hs : s ≤ t) (hie : i < e) (het : e ≤ t) : okR t i (coR b t p s e) := by
  unfold coR
  by_cases c : p.ct = true
  · rw [if_pos c]
    exact okR_f ⟨by decide, by decide, hs⟩
  rw [if_neg c]
  cases hn : nuR b t 0 9 0 e with
  | inl x => exact okR_f (nuR_c het hn)
  | inr y =>
    obtain ⟨v, e1⟩ := y
    obtain ⟨n1, n2, n3, n4, n5, -⟩ := nuR_b hn het
    show okR t i (match nuR b t 0 9 0 e1 with | .inl x => .inl x | .inr (v2, e2) => match stR b t e2 with | .inl x => .inl x | .inr e3 => .inr (mkP p.m p.r p.pl v v2 p.w p.st true, e3))
    cases hn2 : nuR b t 0 9 0 e1 with
    | inl x => exact okR_f (nuR_c n4 hn2)
    | inr y2 =>
      obtain ⟨v2, e2⟩ := y2
      obtain ⟨l1, l2, l3, l4, l5, -⟩ := nuR_b hn2 n4
      show okR t i (match stR b t e2 with | .inl x => .inl x | .inr e3 => .inr (mkP p.m p.r p.pl v v2 p.w p.st true, e3))
      cases hs2 : stR b t e2 with
      | inl x => exact okR_f (stR_c l4 hs2)
      | inr e3 =>
        obtain ⟨m1, m2⟩ := stR_b hs2 l4
        obtain ⟨q1, q2, q3, q4, q5, q6⟩ := hp
        exact okR_o ⟨⟨q1, q2, q3, n2, l2, q6⟩, by omega, m1⟩
theorem heR_ok {b : Nat → Nat} {t i e : Nat} {p : Ps} (hp : pkP p) (hie : i < e) (het : e ≤ t) : okR t i (heR b t p e) := by
  unfold heR
  cases hn : nuR b t 0 8 p.w e with
  | inl x => exact okR_f (nuR_c het hn)
  | inr y =>
    obtain ⟨v, e1⟩ := y
    obtain ⟨n1, n2, n3, n4, n5, -⟩ := nuR_b hn het
    show okR t i (match stR b t e1 with | .inl x => .inl x | .inr e2 => .inr (mkP p.m p.r p.pl p.tc p.lc (p.w ||| 2 ^ v) p.st p.ct, e2))
    cases hs2 : stR b t e1 with
    | inl x => exact okR_f (stR_c n4 hs2)
    | inr e2 =>
      obtain ⟨m1, m2⟩ := stR_b hs2 n4
      obtain ⟨q1, q2, q3, q4, q5, q6⟩ := hp
      exact okR_o ⟨⟨q1, q2, q3, q4, q5, Nat.or_lt_two_pow (n := 9) q6 (Nat.pow_lt_pow_right (by decide) (by omega))⟩, by omega, m1⟩
theorem on2_ok {b : Nat → Nat} {t i : Nat} {p : Ps} (hp : pkP p) (hm : p.m < 9) : ∀ d w f e, w + d = 6 → 1 ≤ w → i < e → e ≤ t → f 0 ≤ 4 → (∀ j, 1 ≤ j → j ≤ 3 → j < w → f j ≤ 5) → (∀ j, 4 ≤ j → j ≤ 5 → j < w → f j ≤ 9) → okR t i (on2 b t p d w f e)
  | 0, w, f, e, hw, hw1, hie, het, f0, f1, f2 => by
    unfold on2
    cases hs2 : stR b t e with
    | inl x => exact okR_f (stR_c het hs2)
    | inr e2 =>
      obtain ⟨m1, m2⟩ := stR_b hs2 het
      obtain ⟨q1, q2, q3, q4⟩ := hp
      refine okR_o ⟨⟨hm, fun q hq => ?_, q3, q4⟩, by omega, m1⟩
      show (if q = p.m then f else p.r q) 0 ≤ 4 ∧ (∀ j, 1 ≤ j → j ≤ 3 → (if q = p.m then f else p.r q) j ≤ 5) ∧ ∀ j, 4 ≤ j → j ≤ 5 → (if q = p.m then f else p.r q) j ≤ 9
      by_cases c : q = p.m
      · rw [if_pos c]
        exact ⟨f0, fun j j1 j2 => f1 j j1 j2 (by omega), fun j j1 j2 => f2 j j1 j2 (by omega)⟩
      · rw [if_neg c]
        have hq' : q < p.m + 1 := hq
        exact q2 q (by omega)
  | d + 1, w, f, e, hw, hw1, hie, het, f0, f1, f2 => by
    unfold on2
    cases hn : nuR b t 0 (if w ≤ 3 then 5 else 9) 0 e with
    | inl x => exact okR_f (nuR_c het hn)
    | inr y =>
      obtain ⟨v, e1⟩ := y
      obtain ⟨n1, n2, n3, n4, n5, -⟩ := nuR_b hn het
      show okR t i (on2 b t p d (w + 1) (fun j => if j = w then v else f j) e1)
      refine on2_ok hp hm d (w + 1) _ e1 (by omega) (by omega) (by omega) n4 ?_ (fun j j1 j2 j3 => ?_) (fun j j1 j2 j3 => ?_)
      · show (if 0 = w then v else f 0) ≤ 4
        rw [if_neg (by omega)]
        exact f0
      · show (if j = w then v else f j) ≤ 5
        by_cases c : j = w
        · rw [if_pos c]
          rw [if_pos (by omega)] at n2
          exact n2
        · rw [if_neg c]
          exact f1 j j1 j2 (by omega)
      · show (if j = w then v else f j) ≤ 9
        by_cases c : j = w
        · rw [if_pos c]
          rw [if_neg (by omega)] at n2
          exact n2
        · rw [if_neg c]
          exact f2 j j1 j2 (by omega)
theorem lineR_ok {b : Nat → Nat} {t i : Nat} {p : Ps} (hp : pkP p) (hit : i ≤ t) : okR t i (lineR b t p i) := by
  have sb := tkS_b (b := b) hit
  have eb := tkE_b (b := b) hit
  unfold lineR
  by_cases c1 : tkK b t i = 1
  · rw [if_neg (fun q => q c1)]
    have e3 := eb.2.2 (by omega)
    by_cases c5 : nm b (tkS b t i) (tkE b t i) < 5
    · rw [if_pos c5]
      unfold onR
      by_cases c9 : 9 ≤ p.m
      · rw [if_pos c9]
        exact okR_f ⟨by decide, by decide, sb.2⟩
      · rw [if_neg c9]
        refine on2_ok hp (by omega) 5 1 _ _ rfl (by decide) (by omega) eb.2.1 (by omega) (fun j j1 j2 j3 => absurd j3 (by omega)) (fun j j1 j2 j3 => absurd j3 (by omega))
    rw [if_neg c5]
    by_cases c6 : nm b (tkS b t i) (tkE b t i) = 5
    · rw [if_pos c6]
      exact seR_ok hp sb.2 (by omega) eb.2.1
    rw [if_neg c6]
    by_cases c7 : nm b (tkS b t i) (tkE b t i) = 6
    · rw [if_pos c7]
      exact coR_ok hp sb.2 (by omega) eb.2.1
    rw [if_neg c7]
    by_cases c8 : nm b (tkS b t i) (tkE b t i) = 7
    · rw [if_pos c8]
      exact heR_ok hp (by omega) eb.2.1
    rw [if_neg c8]
    exact okR_f ⟨by decide, by decide, sb.2⟩
  · rw [if_pos c1]
    exact okR_f ⟨by decide, by decide, sb.2⟩
/-- all lines; then who is here and is not there -/
def goR (b : Nat → Nat) (t : Nat) : Nat → Ps → Nat → Nat → (Nat × Nat) ⊕ (Ps × Nat)
  | 0, p, n, _ => .inr (p, n)
  | d + 1, p, n, i => if tkB b t i = true then .inl (1, tkS b t i) else if tkK b t i = 0 then .inr (p, n) else match lineR b t p i with
    | .inl x => .inl x
    | .inr (p', e) => goR b t d p' (n + 1) e
theorem goR_s (b : Nat → Nat) (t d : Nat) (p : Ps) (n i : Nat) : goR b t (d + 1) p n i = if tkB b t i = true then .inl (1, tkS b t i) else if tkK b t i = 0 then .inr (p, n) else match lineR b t p i with
    | .inl x => .inl x
    | .inr (p', e) => goR b t d p' (n + 1) e := rfl
theorem goR_ok {b : Nat → Nat} {t : Nat} : ∀ d p n i, pkP p → i ≤ t → t < i + d → (∀ c q, goR b t d p n i = .inl (c, q) → 1 ≤ c ∧ c ≤ 6 ∧ q ≤ t) ∧ ∀ p' n', goR b t d p n i = .inr (p', n') → pkP p' ∧ n' + i ≤ n + t
  | 0, p, n, i, hp, hit, hd => absurd hd (by omega)
  | d + 1, p, n, i, hp, hit, hd => by
    have sb := tkS_b (b := b) hit
    unfold goR
    by_cases c0 : tkB b t i = true
    · rw [if_pos c0]
      refine ⟨fun c q e => ?_, fun p' n' e => (by cases e)⟩
      have e := Sum.inl.inj e
      have e1 : 1 = c := congrArg Prod.fst e
      have e2 : tkS b t i = q := congrArg Prod.snd e
      omega
    rw [if_neg c0]
    by_cases c1 : tkK b t i = 0
    · rw [if_pos c1]
      refine ⟨fun c q e => (by cases e), fun p' n' e => ?_⟩
      have e := Sum.inr.inj e
      have e1 : p = p' := congrArg Prod.fst e
      have e2 : n = n' := congrArg Prod.snd e
      rw [← e1, ← e2]
      exact ⟨hp, by omega⟩
    rw [if_neg c1]
    obtain ⟨o1, o2⟩ := lineR_ok (b := b) hp hit
    cases hl : lineR b t p i with
    | inl x =>
      obtain ⟨c, q⟩ := x
      have := o1 c q hl
      refine ⟨fun c' q' e => ?_, fun p' n' e => (by cases e)⟩
      have e := Sum.inl.inj e
      have e1 : c = c' := congrArg Prod.fst e
      have e2 : q = q' := congrArg Prod.snd e
      omega
    | inr y =>
      obtain ⟨p', e⟩ := y
      obtain ⟨o3, o4, o5⟩ := o2 p' e hl
      obtain ⟨r1, r2⟩ := goR_ok (b := b) d p' (n + 1) e o3 o5 (by omega)
      refine ⟨r1, fun p2 n2 h2 => ?_⟩
      obtain ⟨r3, r4⟩ := r2 p2 n2 h2
      exact ⟨r3, by omega⟩
def p0P : Ps := mkP 0 (fun _ _ => 0) 3 1 1 0 false false
theorem p0_ok : pkP p0P := ⟨by decide, fun q hq => absurd hq (Nat.not_lt_zero q), by decide, by decide, by decide, by decide⟩
def finR (b : Nat → Nat) (t : Nat) : (Nat × Nat) ⊕ (Ps × Nat) := match goR b t 161 p0P 0 0 with
  | .inl x => .inl x
  | .inr (p, n) => if 2 ^ p.m ≤ p.w then .inl (6, t) else .inr (p, n)
theorem tX1_letWait {σ : am_M} {t : Nat} {b : Nat → Nat} {p : Ps} {K : am_K} (ht : tp σ t b) (hc : pcr σ p) (h3 : σ 6 0 3 = 0) (h0 : 2 ^ p.m ≤ p.w → ∀ τ, fc σ τ → τ 6 0 3 = 6 → τ 6 0 4 = nI t → K none τ) (h1 : ¬ 2 ^ p.m ≤ p.w → ∀ τ, fc σ τ → τ 6 0 3 = 0 → τ 6 0 2 = σ 6 0 2 → pcr τ p → (∀ q, q < p.m → τ 5 (9 * 4 + q) 6 = bI (p.w.testBit q)) → K none τ) : sX1_letWait [.inr (.inr (6, 0))] σ K := by
  obtain ⟨a1, a2, a3, b1, b2, b3, b4, b5, b6, b7, b8, b9⟩ := id hc
  have h2 : 2 ^ p.m ≤ 512 := Nat.pow_le_pow_right (n := 2) (by decide) a2
  refine ⟨am_le rfl, fun X hX => b_lt0 hX ?_⟩
  rw [b6, a1, q_one _ (by omega), nI_ltI (by omega) (by omega), ht.2.1]
  have loop : ∀ υ : am_M, fc σ υ → pcr υ p → υ 6 0 2 = σ 6 0 2 → (∀ τ, fc σ τ → τ 6 0 3 = υ 6 0 3 → τ 6 0 4 = υ 6 0 4 → τ 6 0 2 = σ 6 0 2 → pcr τ p → (∀ q, q < p.m → τ 5 (9 * 4 + q) 6 = bI (p.w.testBit q)) → K none τ) → X 30 [some (.inr (.inr (6, 0))), some (.inl (0 : Int32))] [] υ := by
    intro υ f1 g1 g2 hK
    refine q_dn (W := fun q => ∀ τ, fc σ τ → τ 6 = υ 6 → pcr τ p → (∀ q', q' < q → τ 5 (9 * 4 + q') 6 = bI (p.w.testBit q')) → X 30 [some (.inr (.inr (6, 0))), some (.inl (nI q))] [] τ) (n := p.m) (fun q hq IH τ f2 e6 g3 ha => ?_) (fun τ f2 e6 g3 ha => ?_) 0 (Nat.zero_le _) υ f1 rfl g1 (fun q' hq' => absurd hq' (Nat.not_lt_zero q'))
    · obtain ⟨k1, k2, k3, k4⟩ := id g3
      refine b_lt30 hX _ ?_
      rw [k1, nI_leI (by omega) (by omega), k4.2.2.2.2.2.1, q_bitu (by omega) (by omega), q_ite0, nI_clamp (by omega), show nI q + (1 : Int32) = nI (q + 1) from nI_add q 1]
      have next : ∀ v : Int32, v = bI (p.w.testBit q) → X 30 [some (.inr (.inr (6, 0))), some (.inl (nI (q + 1)))] [] (am_u τ 5 (9 * 4 + q) 6 v) := fun v hv => by
        refine IH _ (fc_u5 f2 (by omega) (by omega)) e6 ⟨k1, k2, fun q' j hq' hj => ?_, k4⟩ (fun q' hq' => ?_)
        · rw [show am_u τ 5 (9 * 4 + q) 6 v 5 (9 * 4 + q') j = τ 5 (9 * 4 + q') j by unfold am_u; simp [show ¬ j = 6 by omega]]
          exact k3 q' j hq' hj
        · by_cases c : q' = q
          · rw [c, am_u_s, hv]
          · rw [am_u_i (by omega)]
            exact ha q' (by omega)
      refine ⟨fun w => absurd w (by omega), fun _ => ⟨q_in (by omega) (by decide), fun c => next 0 (by rw [c]; rfl), fun c => next 1 (by rw [(Bool.eq_false_or_eq_true _).resolve_right c]; rfl)⟩⟩
    · obtain ⟨k1, k2, k3, k4⟩ := id g3
      exact b_lt30 hX _ ⟨fun _ => hK τ f2 (by rw [e6]) (by rw [e6]) (by rw [e6]; exact g2) g3 ha, fun w => absurd (by rw [k1]; exact nI_le (Nat.le_refl _) (by omega)) w⟩
  refine ⟨fun c => loop σ fc_refl hc rfl (fun τ f1 g3 g4 g2 g5 g6 => h1 (by omega) τ f1 (g3.trans h3) g2 g5 g6), fun c => ?_⟩
  refine loop _ (fc_u6 (fc_u6 fc_refl)) hc rfl (fun τ f1 g3 g4 g2 g5 g6 => h0 (by omega) τ f1 g3 g4)
theorem tX1_tellAll {σ : am_M} {t : Nat} {b : Nat → Nat} {K : am_K} (ht : tp σ t b) (h0 : ∀ c q, finR b t = .inl (c, q) → 1 ≤ c → c ≤ 6 → q ≤ 160 → ∀ τ, fc σ τ → τ 6 0 3 = nI c → τ 6 0 4 = nI q → K none τ) (h1 : ∀ p n, finR b t = .inr (p, n) → pkP p → ¬ 2 ^ p.m ≤ p.w → ∀ τ, fc σ τ → τ 6 0 3 = 0 → τ 6 0 2 = nI n → pcr τ p → (∀ q, q < p.m → τ 5 (9 * 4 + q) 6 = bI (p.w.testBit q)) → K none τ) : sX1_tellAll [.inr (.inr (6, 0))] σ K := by
  have t160 := ht.1
  have gok := goR_ok (b := b) (t := t) 161 p0P 0 0 p0_ok (Nat.zero_le _) (by omega)
  unfold finR at h0 h1
  refine ⟨am_le rfl, fun X hX => b_te0 hX ?_⟩
  have bad : ∀ (c q : Nat) (v : Int32) (τ : am_M), goR b t 161 p0P 0 0 = .inl (c, q) → fc σ τ → τ 6 0 3 = nI c → τ 6 0 4 = nI q → X 53 [some (.inr (.inr (6, 0))), some (.inl v)] [] τ := fun c q v τ hg f1 g3 g4 => by
    have ok := gok.1 c q hg
    refine am_fo hX (ls := [some (.inr (.inr (6, 0))), none]) ⟨rfl, trivial⟩ (b_te53 hX ⟨fun w => absurd w ?_, fun _ => b_te64 hX (h0 c q ?_ ok.1 ok.2.1 (by omega) τ f1 g3 g4)⟩)
    · rw [g3]
      exact nI_ne0 (by omega) (by omega)
    · simp only [hg]
  have good : ∀ (p : Ps) (n : Nat) (v : Int32) (τ : am_M), goR b t 161 p0P 0 0 = .inr (p, n) → fc σ τ → τ 6 0 3 = 0 → τ 6 0 2 = nI n → pcr τ p → X 53 [some (.inr (.inr (6, 0))), some (.inl v)] [] τ := fun p n v τ hg f1 g3 g2 gp => by
    have ok := gok.2 p n hg
    have trans : ∀ {υ : am_M}, fc τ υ → fc σ υ := fun {υ} f2 => ⟨fun k a b c => by rw [f2.1 k a b c, f1.1 k a b c], fun c hc => by rw [f2.2.1 c hc, f1.2.1 c hc], fun i hi => by rw [f2.2.2 i hi, f1.2.2 i hi]⟩
    refine am_fo hX (ls := [some (.inr (.inr (6, 0))), none]) ⟨rfl, trivial⟩ (b_te53 hX ⟨fun _ => tX1_letWait (t := t) (b := b) (fc_tp f1 ht) gp g3 (fun c υ f2 u3 u4 => b_te64 hX (h0 6 t ?_ (by decide) (by decide) t160 υ (trans f2) u3 u4)) (fun c υ f2 u3 u2 up uw => b_te64 hX (h1 p n ?_ ok.1 c υ (trans f2) u3 (u2.trans g2) up uw)), fun w => absurd g3 w⟩)
    · simp only [hg, if_pos c]
    · simp only [hg, if_neg c]
  have loop : ∀ d p n i τ, d ≤ 161 → n + d = 161 → goR b t 161 p0P 0 0 = goR b t d p n i → pkP p → i ≤ t → t < i + d → fc σ τ → τ 6 0 2 = nI n → τ 6 0 3 = 0 → τ 6 0 7 = nI i → pcr τ p → X 6 [some (.inr (.inr (6, 0))), some (.inl (nI n))] [] τ := by
    intro d
    induction d with
    | zero =>
      intro p n i τ _ _ _ _ hit hd
      omega
    | succ d ih =>
      intro p n i τ hd1 hnd hg hp hit hd f1 g2 g3 g7 gp
      refine b_te6 hX _ ⟨fun w => absurd w ?_, fun _ => ?_⟩
      · rw [show ((160 : Int32) < nI n ↔ 160 < n) from nI_ltI (a := 160) (by decide) (by omega)]
        omega
      rw [goR_s b t d p n i] at hg
      refine tX1_takeToken (t := t) (b := b) (i := i) (fc_tp f1 ht) g7 hit (fun c0 υ dd u3 u5 u6 u7 => b_te17 hX _ _ ⟨fun w => absurd w (by decide), fun _ => ?_⟩) (fun c0 υ dd u3 u4 => b_te17 hX _ _ ⟨fun _ => ?_, fun w => absurd rfl w⟩)
      · rw [if_neg (by rw [c0]; decide)] at hg
        have k4 : tkK b t i ≤ 4 := by
          unfold tkK
          repeat' split
          all_goals decide
        rw [u5, show (nI (tkK b t i) = (0 : Int32) ↔ tkK b t i = 0) from nI_eq (b := 0) (by omega) (by decide)]
        refine ⟨fun c1 => ?_, fun c1 => ?_⟩
        · rw [if_pos c1] at hg
          exact good p n _ υ hg (fc_d6 f1 dd) (u3.trans g3) ((dd.2 2 (by decide)).trans g2) (pcr_d6 dd gp)
        · rw [if_neg c1] at hg
          obtain ⟨o1, o2⟩ := lineR_ok (b := b) hp hit
          have tr : ∀ {ω : am_M}, fc υ ω → fc σ ω := fun {ω} f2 => ⟨fun k a b c => by rw [f2.1 k a b c, (fc_d6 f1 dd).1 k a b c], fun c hc => by rw [f2.2.1 c hc, (fc_d6 f1 dd).2.1 c hc], fun i hi => by rw [f2.2.2 i hi, (fc_d6 f1 dd).2.2 i hi]⟩
          refine tX1_takeLine (t := t) (b := b) (i := i) (d6_tp dd (fc_tp f1 ht)) (pcr_d6 dd gp) hit (u3.trans g3) u5 u6 u7 (fun c q hl ω f2 w2 w3 w4 => b_te31 hX _ _ ⟨fun _ => ?_, fun w => absurd rfl w⟩) (fun p' e hl ω f2 w2 w3 wp w7 => b_te31 hX _ _ ⟨fun w => absurd w (by decide), fun _ => ?_⟩)
          · simp only [hl] at hg
            exact bad c q _ ω hg (tr f2) w3 w4
          · simp only [hl] at hg
            obtain ⟨o3, o4, o5⟩ := o2 p' e hl
            rw [w2, dd.2 2 (by decide), g2, show nI n + (1 : Int32) = nI (n + 1) from nI_add n 1]
            exact ih p' (n + 1) e _ (by omega) (by omega) hg o3 o5 (by omega) (fc_u6 (tr f2)) rfl w3 w7 wp
      · rw [if_pos c0] at hg
        exact bad 1 _ _ υ hg (fc_d6 f1 dd) u3 u4
  refine loop 161 p0P 0 0 _ (Nat.le_refl _) rfl rfl p0_ok (Nat.zero_le _) (by omega) (fc_u6 (fc_u6 (fc_u6 (fc_u6 (fc_u6 (fc_u6 (fc_u6 (fc_u3 (fc_u3 (fc_u3 (fc_u3 (fc_u3 (fc_u3 fc_refl))))))))))))) rfl rfl rfl ⟨rfl, by decide, fun q j hq => absurd hq (Nat.not_lt_zero q), rfl, rfl, rfl, rfl, rfl, rfl, by decide, rfl, rfl⟩
