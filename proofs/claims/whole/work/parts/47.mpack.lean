/-! packing, walked: the reference -/
set_option maxRecDepth 100000 in
set_option maxHeartbeats 400000 in
theorem b_lm0 {K : Option am_V → am_M → Prop} {X : Nat → am_L → List am_V → am_M → Prop} (hX : am_cl eX7_layMost lX7_layMost none K X) {σ : am_M} (z : Nat) (h : X 2 [some (.inr (.inr (20, 0))), some (.inl (nI z)), some (.inl (0 : Int32)), none, none] [] σ) : X 0 [some (.inr (.inr (20, 0))), some (.inl (nI z)), none, none, none] [] σ := am_run_ok emX7_layMost hX [2] 400 (show X 2 [some (.inr (.inr (20, 0))), some (.inl (nI z)), some (.inl (0 : Int32)), none, none] [] σ from h)
set_option maxRecDepth 100000 in
set_option maxHeartbeats 400000 in
theorem b_lm2 {K : Option am_V → am_M → Prop} {X : Nat → am_L → List am_V → am_M → Prop} (hX : am_cl eX7_layMost lX7_layMost none K X) {σ : am_M} (z s : Nat) (h : ((((1 : Int32) <<< ((σ 20 0 1) &&& 31)) ≤ (nI s)) → K none σ) ∧ (¬ (((1 : Int32) <<< ((σ 20 0 1) &&& 31)) ≤ (nI s)) → (vp_in (nI s) 512) ∧ ((((nI s) = (0 : Int32)) → X 47 [some (.inr (.inr (20, 0))), some (.inl (nI z)), some (.inl (nI s)), some (.inl ((nI s) &&& (-(nI s)))), some (.inl (nI s))] [] (am_u σ 26 0 (nI s).toNatClampNeg (0 : Int32))) ∧ (¬ ((nI s) = (0 : Int32)) → (vp_in ((nI s) &&& (((nI s) &&& (-(nI s))) ^^^ (-1 : Int32))) 512) ∧ ((vp_in (nI s) 512) ∧ (X 47 [some (.inr (.inr (20, 0))), some (.inl (nI z)), some (.inl (nI s)), some (.inl ((nI s) &&& (-(nI s)))), some (.inl (nI s))] [] (am_u (am_u σ 26 0 (nI s).toNatClampNeg (0 : Int32)) 26 0 (nI s).toNatClampNeg ((am_u σ 26 0 (nI s).toNatClampNeg (0 : Int32)) 26 0 ((nI s) &&& (((nI s) &&& (-(nI s))) ^^^ (-1 : Int32))).toNatClampNeg)))))))) : X 2 [some (.inr (.inr (20, 0))), some (.inl (nI z)), some (.inl (nI s)), none, none] [] σ := am_run_ok emX7_layMost hX [47] 400 (show ((((1 : Int32) <<< ((σ 20 0 1) &&& 31)) ≤ (nI s)) → K none σ) ∧ (¬ (((1 : Int32) <<< ((σ 20 0 1) &&& 31)) ≤ (nI s)) → (vp_in (nI s) 512) ∧ ((((nI s) = (0 : Int32)) → X 47 [some (.inr (.inr (20, 0))), some (.inl (nI z)), some (.inl (nI s)), some (.inl ((nI s) &&& (-(nI s)))), some (.inl (nI s))] [] (am_u σ 26 0 (nI s).toNatClampNeg (0 : Int32))) ∧ (¬ ((nI s) = (0 : Int32)) → (vp_in ((nI s) &&& (((nI s) &&& (-(nI s))) ^^^ (-1 : Int32))) 512) ∧ ((vp_in (nI s) 512) ∧ (X 47 [some (.inr (.inr (20, 0))), some (.inl (nI z)), some (.inl (nI s)), some (.inl ((nI s) &&& (-(nI s)))), some (.inl (nI s))] [] (am_u (am_u σ 26 0 (nI s).toNatClampNeg (0 : Int32)) 26 0 (nI s).toNatClampNeg ((am_u σ 26 0 (nI s).toNatClampNeg (0 : Int32)) 26 0 ((nI s) &&& (((nI s) &&& (-(nI s))) ^^^ (-1 : Int32))).toNatClampNeg))))))) from ⟨fun q0 => (h.1 q0), fun q0 => ⟨(h.2 q0).1, ⟨fun q1 => ((h.2 q0).2.1 q1), fun q1 => ⟨((h.2 q0).2.2 q1).1, ⟨((h.2 q0).2.2 q1).2.1, ((h.2 q0).2.2 q1).2.2⟩⟩⟩⟩⟩)
set_option maxRecDepth 100000 in
set_option maxHeartbeats 400000 in
theorem b_lm47 {K : Option am_V → am_M → Prop} {X : Nat → am_L → List am_V → am_M → Prop} (hX : am_cl eX7_layMost lX7_layMost none K X) {σ : am_M} (z s f t : Nat) (h : (((nI t) = (0 : Int32)) → X 129 [some (.inr (.inr (20, 0))), some (.inl (nI z)), some (.inl (nI s)), some (.inl (nI f)), some (.inl (nI t))] [] σ) ∧ (¬ ((nI t) = (0 : Int32)) → ((((nI t) &&& (nI f)) = (0 : Int32)) → X 118 [some (.inr (.inr (20, 0))), some (.inl (nI z)), some (.inl (nI s)), some (.inl (nI f)), some (.inl (nI t))] [] σ) ∧ (¬ (((nI t) &&& (nI f)) = (0 : Int32)) → (t < 512) ∧ ((((nI (q_pop t 9)) = (nI z)) → (vp_in ((nI s) &&& ((nI t) ^^^ (-1 : Int32))) 512) ∧ ((vp_in (nI s) 512) ∧ (((((1 : Int32) + (σ 26 0 ((nI s) &&& ((nI t) ^^^ (-1 : Int32))).toNatClampNeg)) ≤ (σ 26 0 (nI s).toNatClampNeg)) → X 118 [some (.inr (.inr (20, 0))), some (.inl (nI z)), some (.inl (nI s)), some (.inl (nI f)), some (.inl (nI t))] [] σ) ∧ (¬ (((1 : Int32) + (σ 26 0 ((nI s) &&& ((nI t) ^^^ (-1 : Int32))).toNatClampNeg)) ≤ (σ 26 0 (nI s).toNatClampNeg)) → (m_ok σ) ∧ ((t < 512) ∧ (((p_un (m_r σ 0) (m_n σ) t = true) → (vp_in ((nI s) &&& ((nI t) ^^^ (-1 : Int32))) 512) ∧ ((vp_in (nI s) 512) ∧ (X 118 [some (.inr (.inr (20, 0))), some (.inl (nI z)), some (.inl (nI s)), some (.inl (nI f)), some (.inl (nI t))] [] (am_u σ 26 0 (nI s).toNatClampNeg ((1 : Int32) + (σ 26 0 ((nI s) &&& ((nI t) ^^^ (-1 : Int32))).toNatClampNeg)))))) ∧ (¬ (p_un (m_r σ 0) (m_n σ) t = true) → X 118 [some (.inr (.inr (20, 0))), some (.inl (nI z)), some (.inl (nI s)), some (.inl (nI f)), some (.inl (nI t))] [] σ))))))) ∧ (¬ ((nI (q_pop t 9)) = (nI z)) → X 118 [some (.inr (.inr (20, 0))), some (.inl (nI z)), some (.inl (nI s)), some (.inl (nI f)), some (.inl (nI t))] [] σ))))) : X 47 [some (.inr (.inr (20, 0))), some (.inl (nI z)), some (.inl (nI s)), some (.inl (nI f)), some (.inl (nI t))] [] σ := am_run_ok emX7_layMost hX [118, 129] 400 (show (((nI t) = (0 : Int32)) → X 129 [some (.inr (.inr (20, 0))), some (.inl (nI z)), some (.inl (nI s)), some (.inl (nI f)), some (.inl (nI t))] [] σ) ∧ (¬ ((nI t) = (0 : Int32)) → ((((nI t) &&& (nI f)) = (0 : Int32)) → X 118 [some (.inr (.inr (20, 0))), some (.inl (nI z)), some (.inl (nI s)), some (.inl (nI f)), some (.inl (nI t))] [] σ) ∧ (¬ (((nI t) &&& (nI f)) = (0 : Int32)) → 1 ≤ 1 ∧ 0 ≤ 8 ∧ sX7_bitsOf [.inl (nI t)] σ (fun vv tt => am_run eX7_layMost lX7_layMost none K X [118, 129] 392 64 [some (.inr (.inr (20, 0))), some (.inl (nI z)), some (.inl (nI s)), some (.inl (nI f)), some (.inl (nI t))] (vv.toList ++ []) tt))) from ⟨fun q0 => (h.1 q0), fun q0 => ⟨fun q1 => ((h.2 q0).1 q1), fun q1 => ⟨am_le rfl, am_le rfl, uX7_bitsOf (⟨((h.2 q0).2 q1).1, (show (((nI (q_pop t 9)) = (nI z)) → (vp_in ((nI s) &&& ((nI t) ^^^ (-1 : Int32))) 512) ∧ ((vp_in (nI s) 512) ∧ (((((1 : Int32) + (σ 26 0 ((nI s) &&& ((nI t) ^^^ (-1 : Int32))).toNatClampNeg)) ≤ (σ 26 0 (nI s).toNatClampNeg)) → X 118 [some (.inr (.inr (20, 0))), some (.inl (nI z)), some (.inl (nI s)), some (.inl (nI f)), some (.inl (nI t))] [] σ) ∧ (¬ (((1 : Int32) + (σ 26 0 ((nI s) &&& ((nI t) ^^^ (-1 : Int32))).toNatClampNeg)) ≤ (σ 26 0 (nI s).toNatClampNeg)) → 2 ≤ 2 ∧ 0 ≤ 8 ∧ True ∧ sX7_isUnlike [.inr (.inr (20, 0)), .inl (nI t)] σ (fun vv tt => am_run eX7_layMost lX7_layMost none K X [118, 129] 372 96 [some (.inr (.inr (20, 0))), some (.inl (nI z)), some (.inl (nI s)), some (.inl (nI f)), some (.inl (nI t))] (vv.toList ++ []) tt))))) ∧ (¬ ((nI (q_pop t 9)) = (nI z)) → X 118 [some (.inr (.inr (20, 0))), some (.inl (nI z)), some (.inl (nI s)), some (.inl (nI f)), some (.inl (nI t))] [] σ) from ⟨fun q2 => ⟨(((h.2 q0).2 q1).2.1 q2).1, ⟨(((h.2 q0).2 q1).2.1 q2).2.1, ⟨fun q3 => ((((h.2 q0).2 q1).2.1 q2).2.2.1 q3), fun q3 => ⟨am_le rfl, am_le rfl, trivial, wX7_isUnlike (S := t) (⟨((((h.2 q0).2 q1).2.1 q2).2.2.2 q3).1, ⟨((((h.2 q0).2 q1).2.1 q2).2.2.2 q3).2.1, ⟨fun q4 => (show (((1 : Int32) = (0 : Int32)) → _) ∧ (¬ ((1 : Int32) = (0 : Int32)) → (vp_in ((nI s) &&& ((nI t) ^^^ (-1 : Int32))) 512) ∧ ((vp_in (nI s) 512) ∧ (X 118 [some (.inr (.inr (20, 0))), some (.inl (nI z)), some (.inl (nI s)), some (.inl (nI f)), some (.inl (nI t))] [] (am_u σ 26 0 (nI s).toNatClampNeg ((1 : Int32) + (σ 26 0 ((nI s) &&& ((nI t) ^^^ (-1 : Int32))).toNatClampNeg)))))) from ⟨fun q => absurd q (by decide), fun _ => ⟨(((((h.2 q0).2 q1).2.1 q2).2.2.2 q3).2.2.1 q4).1, ⟨(((((h.2 q0).2 q1).2.1 q2).2.2.2 q3).2.2.1 q4).2.1, (((((h.2 q0).2 q1).2.1 q2).2.2.2 q3).2.2.1 q4).2.2⟩⟩⟩), fun q4 => (show (((0 : Int32) = (0 : Int32)) → X 118 [some (.inr (.inr (20, 0))), some (.inl (nI z)), some (.inl (nI s)), some (.inl (nI f)), some (.inl (nI t))] [] σ) ∧ (¬ ((0 : Int32) = (0 : Int32)) → _) from ⟨fun _ => (((((h.2 q0).2 q1).2.1 q2).2.2.2 q3).2.2.2 q4), fun q => absurd (by decide) q⟩)⟩⟩⟩)⟩⟩⟩⟩, fun q2 => (((h.2 q0).2 q1).2.2 q2)⟩)⟩)⟩⟩⟩)
set_option maxRecDepth 100000 in
set_option maxHeartbeats 400000 in
theorem b_lm118 {K : Option am_V → am_M → Prop} {X : Nat → am_L → List am_V → am_M → Prop} (hX : am_cl eX7_layMost lX7_layMost none K X) {σ : am_M} (z s f t : Nat) (h : X 47 [some (.inr (.inr (20, 0))), some (.inl (nI z)), some (.inl (nI s)), some (.inl (nI f)), some (.inl (((nI t) - (1 : Int32)) &&& (nI s)))] [] σ) : X 118 [some (.inr (.inr (20, 0))), some (.inl (nI z)), some (.inl (nI s)), some (.inl (nI f)), some (.inl (nI t))] [] σ := am_run_ok emX7_layMost hX [47] 400 (show X 47 [some (.inr (.inr (20, 0))), some (.inl (nI z)), some (.inl (nI s)), some (.inl (nI f)), some (.inl (((nI t) - (1 : Int32)) &&& (nI s)))] [] σ from h)
set_option maxRecDepth 100000 in
set_option maxHeartbeats 400000 in
theorem b_lm129 {K : Option am_V → am_M → Prop} {X : Nat → am_L → List am_V → am_M → Prop} (hX : am_cl eX7_layMost lX7_layMost none K X) {σ : am_M} (z s : Nat) (h : X 2 [some (.inr (.inr (20, 0))), some (.inl (nI z)), some (.inl ((nI s) + (1 : Int32))), none, none] [] σ) : X 129 [some (.inr (.inr (20, 0))), some (.inl (nI z)), some (.inl (nI s)), none, none] [] σ := am_run_ok emX7_layMost hX [2] 400 (show X 2 [some (.inr (.inr (20, 0))), some (.inl (nI z)), some (.inl ((nI s) + (1 : Int32))), none, none] [] σ from h)
theorem q_low_ok : ∀ S, S < 512 → 0 < S → nI S &&& (-nI S) = nI (2 ^ q_low S) ∧ S.testBit (q_low S) = true ∧ q_low S < 9 := by decide +kernel
theorem q_a2 {t j : Nat} : t &&& 2 ^ j = 0 ↔ t.testBit j = false := by
  constructor
  · intro h
    have h1 : (t &&& 2 ^ j).testBit j = false := by rw [h]; simp
    rw [Nat.testBit_and, Nat.testBit_two_pow] at h1
    simpa using h1
  · intro h
    apply Nat.eq_of_testBit_eq
    intro i
    rw [Nat.testBit_and, Nat.testBit_two_pow, Nat.zero_testBit]
    by_cases c : j = i
    · rw [← c, h]
      rfl
    · simp [c]
/-- an unlike set of a size -/
def p_bt (r : Rw) (n z S : Nat) : Bool := decide (q_pop S 9 = z) && p_un r n S
theorem p_bt_0 {r : Rw} {n z : Nat} (hz : 1 ≤ z) : p_bt r n z 0 = false := by
  unfold p_bt
  rw [q_pop_0]
  simp
  omega
set_option maxHeartbeats 2000000 in
theorem tX7_layMost {σ : am_M} {z : Nat} {K : am_K} (ho : m_ok σ) (hz1 : 1 ≤ z) (hz : z ≤ 9) (h : ∀ τ : am_M, (∀ k, k ≠ 26 → τ k = σ k) → (∀ Q, Q < 2 ^ m_n σ → ∃ v, mx (p_bt (m_r σ 0) (m_n σ) z) Q v ∧ τ 26 0 Q = nI v) → K none τ) : sX7_layMost [.inr (.inr (20, 0)), .inl (nI z)] σ K := by
  obtain ⟨hn, h9⟩ := m_ok_e ho
  have hP0 := p_bt_0 (r := m_r σ 0) (n := m_n σ) hz1
  generalize hG : p_bt (m_r σ 0) (m_n σ) z = P at h hP0
  have hPs : ∀ S, P S = (decide (q_pop S 9 = z) && p_un (m_r σ 0) (m_n σ) S) := fun S => by rw [← hG]; rfl
  have h2 : 2 ^ m_n σ ≤ 512 := Nat.pow_le_pow_right (n := 2) (by decide) h9
  refine ⟨am_le rfl, fun X hX => b_lm0 hX z ?_⟩
  refine q_dn (W := fun s => ∀ τ : am_M, (∀ k, k ≠ 26 → τ k = σ k) → (∀ Q, Q < s → ∃ v, mx P Q v ∧ τ 26 0 Q = nI v) → X 2 [some (.inr (.inr (20, 0))), some (.inl (nI z)), some (.inl (nI s)), none, none] [] τ) (n := 2 ^ m_n σ) (fun s hs ih τ f1 f2 => ?_) (fun τ f1 f2 => ?_) 0 (Nat.zero_le _) σ (fun _ _ => rfl) (fun Q hQ => absurd hQ (Nat.not_lt_zero Q))
  · have g1 : τ 20 0 1 = nI (m_n σ) := by rw [f1 20 (by decide), hn]
    have vs : vp_in (nI s) 512 := q_in (by omega) (by decide)
    -- behind the inner loop
    have fin : ∀ (τ' : am_M) (v : Nat) (x y : Option am_V), (∀ k, k ≠ 26 → τ' k = σ k) → (∀ Q, Q < s → τ' 26 0 Q = τ 26 0 Q) → τ' 26 0 s = nI v → mx P s v → X 129 [some (.inr (.inr (20, 0))), some (.inl (nI z)), some (.inl (nI s)), x, y] [] τ' := by
      intro τ' v x y k1 k2 k3 hm
      refine am_fo hX (ls := [some (.inr (.inr (20, 0))), some (.inl (nI z)), some (.inl (nI s)), none, none]) ⟨rfl, rfl, rfl, trivial⟩ (b_lm129 hX z s ?_)
      rw [show nI s + (1 : Int32) = nI (s + 1) from nI_1 s]
      refine ih τ' k1 (fun Q hQ => ?_)
      by_cases c : Q = s
      · rw [c]
        exact ⟨v, hm, k3⟩
      · obtain ⟨w, m1, m2⟩ := f2 Q (by omega)
        exact ⟨w, m1, by rw [k2 Q (by omega), m2]⟩
    refine b_lm2 hX z s ?_
    rw [g1, q_one _ (by omega), nI_clamp (by omega)]
    refine ⟨fun q => absurd q (nI_ge hs (by omega)), fun _ => ⟨vs, ?_⟩⟩
    rw [q_z (by omega)]
    refine ⟨fun a => ?_, fun a => ?_⟩
    · subst a
      refine b_lm47 hX z 0 0 0 ⟨fun _ => fin _ 0 _ _ (fun k hk => by rw [am_u_k hk, f1 k hk]) (fun Q hQ => absurd hQ (Nat.not_lt_zero Q)) am_u_s (mx_0 hP0), fun q => absurd rfl q⟩
    · obtain ⟨lo1, lo2, lo3⟩ := q_low_ok s (by omega) (by omega)
      rw [lo1, q_dfI]
      have hq0 : q_df s (2 ^ q_low s) < s := q_df_lt lo2 (by rw [Nat.testBit_two_pow]; simp)
      obtain ⟨v0, m0, w0⟩ := f2 _ hq0
      have hv0 := mx_le hP0 m0
      rw [nI_clamp (by omega), am_u_j (j := s) (j' := q_df s (2 ^ q_low s)) (by omega), w0]
      refine ⟨q_in (by omega) (by decide), vs, ?_⟩
      -- the inner loop, over the parts of s from above
      have loop : ∀ t, q_df t s = 0 → ∀ (τ' : am_M) (v : Nat), v ≤ 512 → (∀ k, k ≠ 26 → τ' k = σ k) → (∀ Q, Q < s → τ' 26 0 Q = τ 26 0 Q) → τ' 26 0 s = nI v → v0 ≤ v → (∀ S, P S = true → q_df S s = 0 → S.testBit (q_low s) = true → t < S → ∃ w, mx P (q_df s S) w ∧ w + 1 ≤ v) → (v = v0 ∨ ∃ S w, P S = true ∧ q_df S s = 0 ∧ mx P (q_df s S) w ∧ v = w + 1) → X 47 [some (.inr (.inr (20, 0))), some (.inl (nI z)), some (.inl (nI s)), some (.inl (nI (2 ^ q_low s))), some (.inl (nI t))] [] τ' := by
        intro t
        induction t using Nat.strongRecOn with
        | ind t iht =>
          intro hts τ' v hv k1 k2 k3 hle hall hat
          have htl := q_sub_le hts
          have gt1 : m_ok τ' := by
            unfold m_ok
            rw [k1 20 (by decide)]
            exact ho
          have gt2 : m_n τ' = m_n σ := by
            unfold m_n
            rw [k1 20 (by decide)]
          have gt3 : m_r τ' 0 = m_r σ 0 := by
            unfold m_r
            rw [k1 21 (by decide)]
          -- the next part
          have next : ∀ (τ2 : am_M) (v2 : Nat), 0 < t → v2 ≤ 512 → (∀ k, k ≠ 26 → τ2 k = σ k) → (∀ Q, Q < s → τ2 26 0 Q = τ 26 0 Q) → τ2 26 0 s = nI v2 → v0 ≤ v2 → (∀ S, P S = true → q_df S s = 0 → S.testBit (q_low s) = true → t ≤ S → ∃ w, mx P (q_df s S) w ∧ w + 1 ≤ v2) → (v2 = v0 ∨ ∃ S w, P S = true ∧ q_df S s = 0 ∧ mx P (q_df s S) w ∧ v2 = w + 1) → X 118 [some (.inr (.inr (20, 0))), some (.inl (nI z)), some (.inl (nI s)), some (.inl (nI (2 ^ q_low s))), some (.inl (nI t))] [] τ2 := by
            intro τ2 v2 ht0 hv2 k1' k2' k3' hle' hall' hat'
            refine b_lm118 hX z s (2 ^ q_low s) t ?_
            rw [show nI t - (1 : Int32) = nI (t - 1) from pk_sub (b := 1) ht0, q_and]
            have hlt : (t - 1) &&& s < t := Nat.lt_of_le_of_lt Nat.and_le_left (by omega)
            refine iht _ hlt (q_df_0.mpr fun i hi => ?_) τ2 v2 hv2 k1' k2' k3' hle' (fun S s1 s2 s3 s4 => hall' S s1 s2 s3 ?_) hat'
            · rw [Nat.testBit_and] at hi
              simp at hi
              exact hi.2
            · rcases Nat.lt_or_ge S t with q | q
              · have := q_part t s S hts s2 q
                omega
              · exact q
          refine b_lm47 hX z s (2 ^ q_low s) t ?_
          have ha5 : t &&& 2 ^ q_low s < 512 := Nat.lt_of_le_of_lt Nat.and_le_left (by omega)
          have hp9 := q_pop_le t 9
          have hdl := q_df_le s t
          rw [q_z (by omega), q_and, q_z ha5, q_a2, nI_eq (by omega) (by omega), q_dfI, nI_clamp (by omega), gt2, gt3]
          have vd : vp_in (nI (q_df s t)) 512 := q_in (by omega) (by decide)
          refine ⟨fun c => fin τ' v _ _ k1 k2 k3 ?_, fun c => ⟨fun d => ?_, fun d => ⟨by omega, fun e => ⟨vd, vs, ?_⟩, fun e => ?_⟩⟩⟩
          · refine mx_step lo2 m0 hle (fun S s1 s2 s3 => hall S s1 s2 s3 ?_) hat
            have : S ≠ 0 := fun q => by rw [q, hP0] at s1; cases s1
            omega
          · refine next τ' v (by omega) hv k1 k2 k3 hle (fun S s1 s2 s3 s4 => ?_) hat
            by_cases q : S = t
            · rw [q, d] at s3
              cases s3
            · exact hall S s1 s2 s3 (by omega)
          · have d' : t.testBit (q_low s) = true := by simpa using d
            have hlt2 : q_df s t < s := q_df_lt lo2 d'
            obtain ⟨w, mw, ww⟩ := f2 _ hlt2
            have hwl := mx_le hP0 mw
            rw [nI_clamp (by omega), k2 _ hlt2, ww, k3, show (1 : Int32) + nI w = nI (1 + w) from nI_add 1 w, nI_leI (by omega) (by omega)]
            refine ⟨fun q => next τ' v (by omega) hv k1 k2 k3 hle (fun S s1 s2 s3 s4 => ?_) hat, fun q => ⟨gt1, by omega, fun u => ⟨vd, vs, ?_⟩, fun u => next τ' v (by omega) hv k1 k2 k3 hle (fun S s1 s2 s3 s4 => ?_) hat⟩⟩
            · by_cases q' : S = t
              · rw [q']
                exact ⟨w, mw, by omega⟩
              · exact hall S s1 s2 s3 (by omega)
            · have hgood : P t = true := by
                rw [hPs]
                simp [e, u]
              refine next _ (1 + w) (by omega) (by omega) (fun k hk => by rw [am_u_k hk, k1 k hk]) (fun Q hQ => by rw [am_u_j (by omega), k2 Q hQ]) am_u_s (by omega) (fun S s1 s2 s3 s4 => ?_) (Or.inr ⟨t, w, hgood, hts, mw, by omega⟩)
              by_cases q' : S = t
              · rw [q']
                exact ⟨w, mw, by omega⟩
              · obtain ⟨w', m', l'⟩ := hall S s1 s2 s3 (by omega)
                exact ⟨w', m', by omega⟩
            · by_cases q' : S = t
              · rw [q', hPs] at s1
                simp [u] at s1
              · exact hall S s1 s2 s3 (by omega)
          · refine next τ' v (by omega) hv k1 k2 k3 hle (fun S s1 s2 s3 s4 => ?_) hat
            by_cases q' : S = t
            · rw [q', hPs] at s1
              simp [e] at s1
            · exact hall S s1 s2 s3 (by omega)
      refine loop s (q_sub_refl s) _ v0 (by omega) (fun k hk => by rw [am_u_k hk, am_u_k hk, f1 k hk]) (fun Q hQ => by rw [am_u_j (by omega), am_u_j (by omega)]) am_u_s (Nat.le_refl _) (fun S s1 s2 s3 s4 => ?_) (Or.inl rfl)
      have := q_sub_le s2
      omega
  · refine b_lm2 hX z (2 ^ m_n σ) ⟨fun _ => h τ f1 f2, fun q => absurd ?_ q⟩
    rw [f1 20 (by decide), hn, q_one _ (by omega)]
    exact nI_le (Nat.le_refl _) (by omega)
