/-! the text: whole lines, to the class -/
/-- what a text told so far: how many, their rows, places, costs, who is here, was it told -/
def Ps : Type := Nat × (Nat → Nat → Nat) × Nat × Nat × Nat × Nat × Bool × Bool
def Ps.m (p : Ps) : Nat := p.1
def Ps.r (p : Ps) : Nat → Nat → Nat := p.2.1
def Ps.pl (p : Ps) : Nat := p.2.2.1
def Ps.tc (p : Ps) : Nat := p.2.2.2.1
def Ps.lc (p : Ps) : Nat := p.2.2.2.2.1
def Ps.w (p : Ps) : Nat := p.2.2.2.2.2.1
def Ps.st (p : Ps) : Bool := p.2.2.2.2.2.2.1
def Ps.ct (p : Ps) : Bool := p.2.2.2.2.2.2.2
def mkP (m : Nat) (r : Nat → Nat → Nat) (pl tc lc w : Nat) (st ct : Bool) : Ps := (m, r, pl, tc, lc, w, st, ct)
/-- only the reader and its trial were written -/
def fc (σ τ : am_M) : Prop := (∀ k, k ≠ 3 → k ≠ 5 → k ≠ 6 → τ k = σ k) ∧ (∀ c, c ≠ 4 → τ 3 c = σ 3 c) ∧ ∀ i, i < 36 → τ 5 i = σ 5 i
theorem fc_refl {σ : am_M} : fc σ σ := ⟨fun _ _ _ _ => rfl, fun _ _ => rfl, fun _ _ => rfl⟩
theorem fc_d6 {σ τ υ : am_M} (h : fc σ τ) (d : d6 τ υ) : fc σ υ := ⟨fun k a b c => by rw [d.1 k c, h.1 k a b c], fun c hc => by rw [d.1 3 (by decide), h.2.1 c hc], fun i hi => by rw [d.1 5 (by decide), h.2.2 i hi]⟩
theorem fc_u6 {σ τ : am_M} {j : Nat} {v : Int32} (h : fc σ τ) : fc σ (am_u τ 6 0 j v) := ⟨fun k a b c => by rw [am_u_k c, h.1 k a b c], fun c hc => by rw [am_u_k (by decide), h.2.1 c hc], fun i hi => by rw [am_u_k (by decide), h.2.2 i hi]⟩
theorem fc_u3 {σ τ : am_M} {j : Nat} {v : Int32} (h : fc σ τ) : fc σ (am_u τ 3 4 j v) := ⟨fun k a b c => by rw [am_u_k a, h.1 k a b c], fun c hc => by
  funext x
  rw [am_u_i hc, h.2.1 c hc], fun i hi => by rw [am_u_k (by decide), h.2.2 i hi]⟩
theorem fc_u5 {σ τ : am_M} {i j : Nat} {v : Int32} (h : fc σ τ) (h1 : 36 ≤ i) (h2 : i < 45) : fc σ (am_u τ 5 i j v) := ⟨fun k a b c => by rw [am_u_k b, h.1 k a b c], fun c hc => by rw [am_u_k (by decide), h.2.1 c hc], fun i' hi => by
  funext x
  rw [am_u_i (by omega), h.2.2 i' hi]⟩
theorem fc_tp {σ τ : am_M} {t : Nat} {b : Nat → Nat} (h : fc σ τ) (h2 : tp σ t b) : tp τ t b := by
  unfold tp
  rw [h.1 1 (by decide) (by decide) (by decide), h.1 2 (by decide) (by decide) (by decide)]
  exact h2
/-- what was told so far, to the class -/
def pcb (τ : am_M) (p : Ps) : Prop := τ 3 4 2 = nI p.pl ∧ τ 3 4 3 = nI p.tc ∧ τ 3 4 4 = nI p.lc ∧ τ 3 4 5 = 0 ∧ τ 3 4 6 = 0 ∧ τ 6 0 8 = nI p.w ∧ p.w < 512 ∧ τ 6 0 9 = bI p.st ∧ τ 6 0 10 = bI p.ct
def pcr (τ : am_M) (p : Ps) : Prop := τ 3 4 1 = nI p.m ∧ p.m ≤ 9 ∧ (∀ q j, q < p.m → j < 6 → τ 5 (9 * 4 + q) j = nI (p.r q j)) ∧ pcb τ p
theorem pcb_d6 {τ υ : am_M} {p : Ps} (d : d6 τ υ) (h : pcb τ p) : pcb υ p := by
  unfold pcb
  rw [d.1 3 (by decide), d.2 8 (by decide), d.2 9 (by decide), d.2 10 (by decide)]
  exact h
theorem pcr_d6 {τ υ : am_M} {p : Ps} (d : d6 τ υ) (h : pcr τ p) : pcr υ p := by
  obtain ⟨a, b, c, e⟩ := h
  refine ⟨by rw [d.1 3 (by decide)]; exact a, b, by rw [d.1 5 (by decide)]; exact c, pcb_d6 d e⟩
/-- a line: seats, cost, here, one -/
def seR (b : Nat → Nat) (t : Nat) (p : Ps) (s e : Nat) : (Nat × Nat) ⊕ (Ps × Nat) := if p.st = true then .inl (4, s) else match nuR b t 2 5 0 e with
  | .inl x => .inl x
  | .inr (v, e1) => match stR b t e1 with
    | .inl x => .inl x
    | .inr e2 => .inr ((mkP p.m p.r (v) p.tc p.lc p.w (true) p.ct), e2)
def coR (b : Nat → Nat) (t : Nat) (p : Ps) (s e : Nat) : (Nat × Nat) ⊕ (Ps × Nat) := if p.ct = true then .inl (4, s) else match nuR b t 0 9 0 e with
  | .inl x => .inl x
  | .inr (v, e1) => match nuR b t 0 9 0 e1 with
    | .inl x => .inl x
    | .inr (v2, e2) => match stR b t e2 with
      | .inl x => .inl x
      | .inr e3 => .inr ((mkP p.m p.r p.pl (v) (v2) p.w p.st (true)), e3)
def heR (b : Nat → Nat) (t : Nat) (p : Ps) (e : Nat) : (Nat × Nat) ⊕ (Ps × Nat) := match nuR b t 0 8 p.w e with
  | .inl x => .inl x
  | .inr (v, e1) => match stR b t e1 with
    | .inl x => .inl x
    | .inr e2 => .inr ((mkP p.m p.r p.pl p.tc p.lc (p.w ||| 2 ^ v) p.st p.ct), e2)
def on2 (b : Nat → Nat) (t : Nat) (p : Ps) : Nat → Nat → (Nat → Nat) → Nat → (Nat × Nat) ⊕ (Ps × Nat)
  | 0, _, f, e => match stR b t e with
    | .inl x => .inl x
    | .inr e2 => .inr ((mkP (p.m + 1) (fun q => if q = p.m then f else p.r q) p.pl p.tc p.lc p.w p.st p.ct), e2)
  | d + 1, w, f, e => match nuR b t 0 (if w ≤ 3 then 5 else 9) 0 e with
    | .inl x => .inl x
    | .inr (v, e1) => on2 b t p d (w + 1) (fun j => if j = w then v else f j) e1
def onR (b : Nat → Nat) (t : Nat) (p : Ps) (k s e : Nat) : (Nat × Nat) ⊕ (Ps × Nat) := if 9 ≤ p.m then .inl (5, s) else on2 b t p 5 1 (fun _ => k) e
def lineR (b : Nat → Nat) (t : Nat) (p : Ps) (i : Nat) : (Nat × Nat) ⊕ (Ps × Nat) := if ¬ tkK b t i = 1 then .inl (2, tkS b t i) else if nm b (tkS b t i) (tkE b t i) < 5 then onR b t p (nm b (tkS b t i) (tkE b t i)) (tkS b t i) (tkE b t i) else if nm b (tkS b t i) (tkE b t i) = 5 then seR b t p (tkS b t i) (tkE b t i) else if nm b (tkS b t i) (tkE b t i) = 6 then coR b t p (tkS b t i) (tkE b t i) else if nm b (tkS b t i) (tkE b t i) = 7 then heR b t p (tkE b t i) else .inl (2, tkS b t i)
theorem nuR_0 {b : Nat → Nat} {t lo hi sm i : Nat} {x : Nat × Nat} (h : nuR b t lo hi 0 i = .inl x) : nuR b t lo hi sm i = .inl x := by
  unfold nuR at h ⊢
  by_cases c0 : tkB b t i = true
  · rw [if_pos c0] at h ⊢
    exact h
  rw [if_neg c0] at h ⊢
  by_cases c1 : tkK b t i = 2
  · rw [if_neg (fun q => q c1)] at h ⊢
    by_cases c2 : tkV b t i < lo ∨ hi < tkV b t i
    · rw [if_pos c2] at h ⊢
      exact h
    rw [if_neg c2, if_neg (by rw [Nat.zero_testBit]; decide)] at h
    cases h
  · rw [if_pos c1] at h ⊢
    exact h
theorem nuR_1 {b : Nat → Nat} {t lo hi sm i x e : Nat} (h : nuR b t lo hi 0 i = .inr (x, e)) : nuR b t lo hi sm i = if sm.testBit x = true then .inl (4, tkS b t i) else .inr (x, e) := by
  unfold nuR at h ⊢
  by_cases c0 : tkB b t i = true
  · rw [if_pos c0] at h
    cases h
  rw [if_neg c0] at h ⊢
  by_cases c1 : tkK b t i = 2
  · rw [if_neg (fun q => q c1)] at h ⊢
    by_cases c2 : tkV b t i < lo ∨ hi < tkV b t i
    · rw [if_pos c2] at h
      cases h
    rw [if_neg c2] at h ⊢
    rw [if_neg (by rw [Nat.zero_testBit]; decide)] at h
    have h' := Sum.inr.inj h
    have h1 : tkV b t i = x := congrArg Prod.fst h'
    have h2 : tkE b t i = e := congrArg Prod.snd h'
    rw [h1, h2]
  · rw [if_pos c1] at h
    cases h
theorem tX1_takeSeats {σ : am_M} {t s e : Nat} {b : Nat → Nat} {p : Ps} {K : am_K} (ht : tp σ t b) (hc : pcr σ p) (h3 : σ 6 0 3 = 0) (h6 : σ 6 0 6 = nI s) (h7 : σ 6 0 7 = nI e) (het : e ≤ t) (h0 : ∀ c q, seR b t p s e = .inl (c, q) → ∀ τ, fc σ τ → τ 6 0 2 = σ 6 0 2 → τ 6 0 3 = nI c → τ 6 0 4 = nI q → K (some (.inl (0 : Int32))) τ) (h1 : ∀ p' e', seR b t p s e = .inr (p', e') → ∀ τ, fc σ τ → τ 6 0 2 = σ 6 0 2 → τ 6 0 3 = 0 → pcr τ p' → τ 6 0 7 = nI e' → K (some (.inl (1 : Int32))) τ) : sX1_takeSeats [.inr (.inr (6, 0))] σ K := by
  obtain ⟨a1, a2, a3, b1, b2, b3, b4, b5, b6, b7, b8, b9⟩ := id hc
  refine ⟨am_le rfl, fun X hX => b_ta0 hX ?_⟩
  rw [b8, bI_0, h6]
  refine ⟨fun c => ?_, fun c => h0 4 s ?_ _ (fc_u6 (fc_u6 fc_refl)) rfl rfl rfl⟩
  · have hc1 : pcr (am_u σ 6 0 9 (1 : Int32)) (mkP p.m p.r p.pl p.tc p.lc p.w (true) p.ct) := ⟨a1, a2, a3, b1, b2, b3, b4, b5, b6, b7, rfl, b9⟩
    have f1 : fc σ (am_u σ 6 0 9 (1 : Int32)) := fc_u6 fc_refl
    refine tX1_takeNumber (lo := 2) (hi := 5) (i := e) (b := b) (t := t) ht h7 het (by decide) (by decide) (fun c' q hn τ dd e3 e4 => b_ta28 hX _ ⟨fun _ => h0 c' q ?_ τ (fc_d6 f1 dd) (dd.2 2 (by decide)) e3 e4, fun w => absurd rfl w⟩) (fun x e1 hn τ dd e3 e6 e7 => b_ta28 hX _ ⟨fun w => absurd w (by decide), fun _ => ?_⟩)
    · simp only [seR, c, hn, Bool.false_eq_true, if_false]
    · obtain ⟨n1, n2, n3, n4, n5, n6, n7, n8⟩ := nuR_b hn het
      refine tX1_number (d6_tp dd ht) e6 e7 n6 (b_ta41 hX _ ?_)
      rw [← n7]
      obtain ⟨g1, g2, g3, g4⟩ := pcr_d6 dd hc1
      have hc2 : pcr (am_u τ 3 4 2 (nI x)) (mkP p.m p.r (x) p.tc p.lc p.w (true) p.ct) := ⟨g1, g2, g3, rfl, g4.2⟩
      have f2 : fc σ (am_u τ 3 4 2 (nI x)) := fc_u3 (fc_d6 f1 dd)
      refine tX1_takeStop (t := t) (b := b) (i := e1) (fc_tp f2 ht) (by rw [n8]; exact e7) n4 (fun c' q hs υ d2 u3 u4 => b_ta48 hX _ ⟨rfl, h0 c' q ?_ υ (fc_d6 f2 d2) ((d2.2 2 (by decide)).trans (dd.2 2 (by decide))) u3 u4⟩) (fun e2 hs υ d2 u3 u7 => b_ta48 hX _ ⟨rfl, h1 _ e2 ?_ υ (fc_d6 f2 d2) ((d2.2 2 (by decide)).trans (dd.2 2 (by decide))) (u3.trans (e3.trans h3)) (pcr_d6 d2 hc2) u7⟩)
      · simp only [seR, c, hn, hs, Bool.false_eq_true, if_false]
      · simp only [seR, c, hn, hs, Bool.false_eq_true, if_false]
  · unfold seR
    rw [if_pos (by simpa using c)]
theorem tX1_takeCosts {σ : am_M} {t s e : Nat} {b : Nat → Nat} {p : Ps} {K : am_K} (ht : tp σ t b) (hc : pcr σ p) (h3 : σ 6 0 3 = 0) (h6 : σ 6 0 6 = nI s) (h7 : σ 6 0 7 = nI e) (het : e ≤ t) (h0 : ∀ c q, coR b t p s e = .inl (c, q) → ∀ τ, fc σ τ → τ 6 0 2 = σ 6 0 2 → τ 6 0 3 = nI c → τ 6 0 4 = nI q → K (some (.inl (0 : Int32))) τ) (h1 : ∀ p' e', coR b t p s e = .inr (p', e') → ∀ τ, fc σ τ → τ 6 0 2 = σ 6 0 2 → τ 6 0 3 = 0 → pcr τ p' → τ 6 0 7 = nI e' → K (some (.inl (1 : Int32))) τ) : sX1_takeCosts [.inr (.inr (6, 0))] σ K := by
  obtain ⟨a1, a2, a3, b1, b2, b3, b4, b5, b6, b7, b8, b9⟩ := id hc
  refine ⟨am_le rfl, fun X hX => b_tc0 hX ?_⟩
  rw [b9, bI_0, h6]
  refine ⟨fun c => ?_, fun c => h0 4 s ?_ _ (fc_u6 (fc_u6 fc_refl)) rfl rfl rfl⟩
  · have hc1 : pcr (am_u σ 6 0 10 (1 : Int32)) (mkP p.m p.r p.pl p.tc p.lc p.w p.st (true)) := ⟨a1, a2, a3, b1, b2, b3, b4, b5, b6, b7, b8, rfl⟩
    have f1 : fc σ (am_u σ 6 0 10 (1 : Int32)) := fc_u6 fc_refl
    refine tX1_takeNumber (lo := 0) (hi := 9) (i := e) (b := b) (t := t) ht h7 het (by decide) (by decide) (fun c' q hn τ dd e3 e4 => b_tc29 hX _ ⟨fun _ => h0 c' q ?_ τ (fc_d6 f1 dd) (dd.2 2 (by decide)) e3 e4, fun w => absurd rfl w⟩) (fun x e1 hn τ dd e3 e6 e7 => b_tc29 hX _ ⟨fun w => absurd w (by decide), fun _ => ?_⟩)
    · simp only [coR, c, hn, Bool.false_eq_true, if_false]
    · obtain ⟨n1, n2, n3, n4, n5, n6, n7, n8⟩ := nuR_b hn het
      refine tX1_number (d6_tp dd ht) e6 e7 n6 (b_tc42 hX _ ?_)
      rw [← n7]
      obtain ⟨g1, g2, g3, g4, g5⟩ := pcr_d6 dd hc1
      have hc2 : pcr (am_u τ 3 4 3 (nI x)) (mkP p.m p.r p.pl (x) p.lc p.w p.st (true)) := ⟨g1, g2, g3, g4, rfl, g5.2⟩
      have f2 : fc σ (am_u τ 3 4 3 (nI x)) := fc_u3 (fc_d6 f1 dd)
      refine tX1_takeNumber (lo := 0) (hi := 9) (i := e1) (b := b) (t := t) (fc_tp f2 ht) (by rw [n8]; exact e7) n4 (by decide) (by decide) (fun c' q hn2 υ d2 u3 u4 => b_tc52 hX _ ⟨fun _ => h0 c' q ?_ υ (fc_d6 f2 d2) ((d2.2 2 (by decide)).trans (dd.2 2 (by decide))) u3 u4, fun w => absurd rfl w⟩) (fun x2 e2 hn2 υ d2 u3 u6 u7 => b_tc52 hX _ ⟨fun w => absurd w (by decide), fun _ => ?_⟩)
      · simp only [coR, c, hn, hn2, Bool.false_eq_true, if_false]
      · obtain ⟨m1, m2, m3, m4, m5, m6, m7, m8⟩ := nuR_b hn2 n4
        refine tX1_number (d6_tp d2 (fc_tp f2 ht)) u6 u7 m6 (b_tc65 hX _ ?_)
        rw [← m7]
        obtain ⟨k1, k2, k3, k4, k5, k6⟩ := pcr_d6 d2 hc2
        have hc3 : pcr (am_u υ 3 4 4 (nI x2)) (mkP p.m p.r p.pl (x) (x2) p.w p.st (true)) := ⟨k1, k2, k3, k4, k5, rfl, k6.2⟩
        have f3 : fc σ (am_u υ 3 4 4 (nI x2)) := fc_u3 (fc_d6 f2 d2)
        refine tX1_takeStop (t := t) (b := b) (i := e2) (fc_tp f3 ht) (by rw [m8]; exact u7) m4 (fun c' q hs ω d3 w3 w4 => b_tc72 hX _ ⟨rfl, h0 c' q ?_ ω (fc_d6 f3 d3) ((d3.2 2 (by decide)).trans ((d2.2 2 (by decide)).trans (dd.2 2 (by decide)))) w3 w4⟩) (fun e3' hs ω d3 w3 w7 => b_tc72 hX _ ⟨rfl, h1 _ e3' ?_ ω (fc_d6 f3 d3) ((d3.2 2 (by decide)).trans ((d2.2 2 (by decide)).trans (dd.2 2 (by decide)))) (w3.trans (u3.trans (e3.trans h3))) (pcr_d6 d3 hc3) w7⟩)
        · simp only [coR, c, hn, hn2, hs, Bool.false_eq_true, if_false]
        · simp only [coR, c, hn, hn2, hs, Bool.false_eq_true, if_false]
  · unfold coR
    rw [if_pos (by simpa using c)]
theorem tX1_takeHere {σ : am_M} {t e : Nat} {b : Nat → Nat} {p : Ps} {K : am_K} (ht : tp σ t b) (hc : pcr σ p) (h3 : σ 6 0 3 = 0) (h7 : σ 6 0 7 = nI e) (het : e ≤ t) (h0 : ∀ c q, heR b t p e = .inl (c, q) → ∀ τ, fc σ τ → τ 6 0 2 = σ 6 0 2 → τ 6 0 3 = nI c → τ 6 0 4 = nI q → K (some (.inl (0 : Int32))) τ) (h1 : ∀ p' e', heR b t p e = .inr (p', e') → ∀ τ, fc σ τ → τ 6 0 2 = σ 6 0 2 → τ 6 0 3 = 0 → pcr τ p' → τ 6 0 7 = nI e' → K (some (.inl (1 : Int32))) τ) : sX1_takeHere [.inr (.inr (6, 0))] σ K := by
  refine ⟨am_le rfl, fun X hX => b_th0 hX ?_⟩
  refine tX1_takeNumber (lo := 0) (hi := 8) (i := e) (b := b) (t := t) ht h7 het (by decide) (by decide) (fun c' q hn τ dd e3 e4 => b_th7 hX _ ⟨fun _ => h0 c' q ?_ τ (fc_d6 fc_refl dd) (dd.2 2 (by decide)) e3 e4, fun w => absurd rfl w⟩) (fun x e1 hn τ dd e3 e6 e7 => b_th7 hX _ ⟨fun w => absurd w (by decide), fun _ => ?_⟩)
  · simp only [heR, nuR_0 hn]
  · obtain ⟨n1, n2, n3, n4, n5, n6, n7, n8⟩ := nuR_b hn het
    refine tX1_number (d6_tp dd ht) e6 e7 n6 (b_th16 hX _ ?_)
    rw [← n7]
    obtain ⟨a1, a2, a3, b1, b2, b3, b4, b5, b6, b7, b8, b9⟩ := pcr_d6 dd hc
    have n1' := nuR_1 (sm := p.w) hn
    rw [b6, q_bitu (by omega) (by omega), q_ite0, q_one x (by omega), q_or, e6]
    refine ⟨fun c => ?_, fun c => ?_⟩
    · rw [c, if_neg (by decide)] at n1'
      have hw : p.w ||| 2 ^ x < 512 := Nat.or_lt_two_pow (n := 9) b7 (Nat.pow_lt_pow_right (by decide) (by omega))
      have hc2 : pcr (am_u τ 6 0 8 (nI (p.w ||| 2 ^ x))) (mkP p.m p.r p.pl p.tc p.lc (p.w ||| 2 ^ x) p.st p.ct) := ⟨a1, a2, a3, b1, b2, b3, b4, b5, rfl, hw, b8, b9⟩
      have f2 : fc σ (am_u τ 6 0 8 (nI (p.w ||| 2 ^ x))) := fc_u6 (fc_d6 fc_refl dd)
      refine tX1_takeStop (t := t) (b := b) (i := e1) (fc_tp f2 ht) (by rw [n8]; exact e7) n4 (fun c' q hs υ d2 u3 u4 => b_th54 hX _ _ ⟨rfl, h0 c' q ?_ υ (fc_d6 f2 d2) ((d2.2 2 (by decide)).trans (dd.2 2 (by decide))) u3 u4⟩) (fun e2 hs υ d2 u3 u7 => b_th54 hX _ _ ⟨rfl, h1 _ e2 ?_ υ (fc_d6 f2 d2) ((d2.2 2 (by decide)).trans (dd.2 2 (by decide))) (u3.trans (e3.trans h3)) (pcr_d6 d2 hc2) u7⟩)
      · simp only [heR, n1', hs]
      · simp only [heR, n1', hs]
    · rw [if_pos (by simpa using c)] at n1'
      refine h0 4 (tkS b t e) ?_ _ (fc_u6 (fc_u6 (fc_d6 fc_refl dd))) (dd.2 2 (by decide)) rfl rfl
      simp only [heR, n1']
theorem tX1_takeOne {σ : am_M} {t s e k : Nat} {b : Nat → Nat} {p : Ps} {K : am_K} (ht : tp σ t b) (hc : pcr σ p) (hk : k ≤ 4) (h3 : σ 6 0 3 = 0) (h6 : σ 6 0 6 = nI s) (h7 : σ 6 0 7 = nI e) (het : e ≤ t) (h0 : ∀ c q, onR b t p k s e = .inl (c, q) → ∀ τ, fc σ τ → τ 6 0 2 = σ 6 0 2 → τ 6 0 3 = nI c → τ 6 0 4 = nI q → K (some (.inl (0 : Int32))) τ) (h1 : ∀ p' e', onR b t p k s e = .inr (p', e') → ∀ τ, fc σ τ → τ 6 0 2 = σ 6 0 2 → τ 6 0 3 = 0 → pcr τ p' → τ 6 0 7 = nI e' → K (some (.inl (1 : Int32))) τ) : sX1_takeOne [.inr (.inr (6, 0)), .inl (nI k)] σ K := by
  obtain ⟨a1, a2, a3, bb⟩ := id hc
  refine ⟨am_le rfl, fun X hX => b_to0 hX _ ⟨fun q => absurd q (q_m4 (by omega)), fun _ => ?_⟩⟩
  rw [a1, show (nI p.m < (9 : Int32) ↔ p.m < 9) from nI_ltI (b := 9) (by omega) (by decide), h6, nI_clamp (by omega), show nI p.m + (1 : Int32) = nI (p.m + 1) from nI_add _ 1]
  unfold onR at h0 h1
  refine ⟨fun c => ⟨q_in c (by decide), ?_⟩, fun c => h0 5 s (if_pos (by omega)) _ (fc_u6 (fc_u6 fc_refl)) rfl rfl rfl⟩
  rw [if_neg (by omega)] at h0 h1
  have loop : ∀ d w f e τ, w + d = 6 → 1 ≤ w → on2 b t p 5 1 (fun _ => k) e = on2 b t p 5 1 (fun _ => k) e → e ≤ t → fc σ τ → τ 6 0 2 = σ 6 0 2 → τ 6 0 3 = 0 → τ 6 0 7 = nI e → τ 3 4 1 = nI (p.m + 1) → (∀ q j, q < p.m → j < 6 → τ 5 (9 * 4 + q) j = nI (p.r q j)) → (∀ j, j < w → τ 5 (9 * 4 + p.m) j = nI (f j)) → pcb τ p → (∀ c q, on2 b t p d w f e = .inl (c, q) → ∀ τ, fc σ τ → τ 6 0 2 = σ 6 0 2 → τ 6 0 3 = nI c → τ 6 0 4 = nI q → K (some (.inl (0 : Int32))) τ) → (∀ p' e', on2 b t p d w f e = .inr (p', e') → ∀ τ, fc σ τ → τ 6 0 2 = σ 6 0 2 → τ 6 0 3 = 0 → pcr τ p' → τ 6 0 7 = nI e' → K (some (.inl (1 : Int32))) τ) → X 73 [some (.inr (.inr (6, 0))), some (.inl (nI k)), some (.inr (.inr (5, 9 * 4 + p.m))), some (.inl (nI w))] [] τ := by
    intro d
    induction d with
    | zero =>
      intro w f e τ hw hw1 _ het f1 e2 e3 e7 g1 g3 g4 gb h0 h1
      have hw6 : w = 6 := by omega
      subst hw6
      refine b_to73 hX _ _ _ ⟨fun _ => ?_, fun q => absurd (by decide) q⟩
      have hc2 : pcr τ (mkP (p.m + 1) (fun q => if q = p.m then f else p.r q) p.pl p.tc p.lc p.w p.st p.ct) := ⟨g1, c, fun q j hq hj => by
        show τ 5 (9 * 4 + q) j = nI ((if q = p.m then f else p.r q) j)
        by_cases cq : q = p.m
        · rw [if_pos cq, cq]
          exact g4 j hj
        · rw [if_neg cq]
          have hq' : q < p.m + 1 := hq
          exact g3 q j (by omega) hj, gb⟩
      refine tX1_takeStop (t := t) (b := b) (i := e) (fc_tp f1 ht) e7 het (fun c' q hs υ d2 u3 u4 => b_to116 hX _ _ _ _ ⟨rfl, h0 c' q ?_ υ (fc_d6 f1 d2) ((d2.2 2 (by decide)).trans e2) u3 u4⟩) (fun e2' hs υ d2 u3 u7 => b_to116 hX _ _ _ _ ⟨rfl, h1 _ e2' ?_ υ (fc_d6 f1 d2) ((d2.2 2 (by decide)).trans e2) (u3.trans e3) (pcr_d6 d2 hc2) u7⟩)
      · simp only [on2, hs]
      · simp only [on2, hs]
    | succ d ih =>
      intro w f e τ hw hw1 _ het f1 e2 e3 e7 g1 g3 g4 gb h0 h1
      refine b_to73 hX _ _ _ ?_
      rw [show ((5 : Int32) < nI w ↔ 5 < w) from nI_ltI (a := 5) (by decide) (by omega), show ((3 : Int32) < nI w ↔ 3 < w) from nI_ltI (a := 3) (by decide) (by omega)]
      refine ⟨fun q => absurd q (by omega), fun _ => ?_⟩
      have main : ∀ hi : Nat, hi ≤ 9 → hi = (if w ≤ 3 then 5 else 9) → sX1_takeNumber [.inr (.inr (6, 0)), .inl (nI 0), .inl (nI hi)] τ (fun vv tt => X 94 [some (.inr (.inr (6, 0))), some (.inl (nI k)), some (.inr (.inr (5, 9 * 4 + p.m))), some (.inl (nI w))] (vv.toList ++ []) tt) := by
        intro hi hi9 ehi
        refine tX1_takeNumber (i := e) (b := b) (t := t) (fc_tp f1 ht) e7 het (by decide) (by omega) (fun c' q hn υ dd u3 u4 => b_to94 hX _ _ _ _ ⟨fun _ => h0 c' q ?_ υ (fc_d6 f1 dd) ((dd.2 2 (by decide)).trans e2) u3 u4, fun w => absurd rfl w⟩) (fun x e1 hn υ dd u3 u6 u7 => b_to94 hX _ _ _ _ ⟨fun w => absurd w (by decide), fun _ => ?_⟩)
        · rw [ehi] at hn
          simp only [on2, hn]
        · obtain ⟨n1, n2, n3, n4, n5, n6, n7, n8⟩ := nuR_b hn het
          refine tX1_number (d6_tp dd (fc_tp f1 ht)) u6 u7 n6 (b_to105 hX _ _ _ _ ?_)
          rw [← n7, nI_clamp (by omega), show nI w + (1 : Int32) = nI (w + 1) from nI_add w 1]
          have e5 : υ 5 = τ 5 := dd.1 5 (by decide)
          have eo : on2 b t p (d + 1) w f e = on2 b t p d (w + 1) (fun j => if j = w then x else f j) e1 := by
            rw [ehi] at hn
            simp only [on2, hn]
          rw [eo] at h0 h1
          have gb' : pcb υ p := pcb_d6 dd gb
          refine ⟨q_in (by omega) (by decide), ih (w + 1) (fun j => if j = w then x else f j) e1 _ (by omega) (by omega) rfl n4 (fc_u5 (fc_d6 f1 dd) (by omega) (by omega)) ((dd.2 2 (by decide)).trans e2) (u3.trans e3) (by rw [n8]; exact u7) ?_ (fun q j hq hj => ?_) (fun j hj => ?_) gb' h0 h1⟩
          · show υ 3 4 1 = _
            rw [dd.1 3 (by decide)]
            exact g1
          · rw [am_u_i (by omega), e5]
            exact g3 q j hq hj
          · by_cases cj : j = w
            · rw [cj, am_u_s, if_pos rfl]
            · rw [am_u_j cj, e5, g4 j (by omega)]
              show _ = nI (if j = w then x else f j)
              rw [if_neg cj]
      refine ⟨fun c9 => main 9 (by decide) (by rw [if_neg (by omega)]), fun c9 => main 5 (by decide) (by rw [if_pos (by omega)])⟩
  refine loop 5 1 (fun _ => k) e _ rfl (by decide) rfl het (fc_u5 (fc_u3 fc_refl) (by omega) (by omega)) rfl h3 h7 rfl (fun q j hq hj => ?_) (fun j hj => ?_) bb h0 h1
  · rw [am_u_i (by omega)]
    exact a3 q j hq hj
  · rw [show j = 0 by omega, am_u_s]
