/-! pairs: the text's bytes, what was seen, plain changes -/
theorem pr_feed {σ : am_M} {a : Int32} (hI : Inv σ) : pairI sX6_feed sX7_feed [.inl a] σ := by
  obtain ⟨n, pl, h9, a1, a2, a3, a4, ⟨t, t1, t2, t3, t4⟩, a6, a7, a8⟩ := id hI
  refine tX6_feed ⟨fun b => ⟨_, rfl, tX7_feed (by simp [b, hI])⟩, fun b => ⟨fun d => ⟨_, rfl, tX7_feed (by simp [b, d, hI])⟩, fun d => ?_⟩⟩
  obtain ⟨c, hc, rfl⟩ := q_0b (b := 127) rfl (by decide) b d
  rw [t2, show (nI t < (160 : Int32) ↔ t < 160) from nI_ltI (b := 160) (by omega) (by decide), nI_clamp (by omega), show nI t + (1 : Int32) = nI (t + 1) from nI_1 t]
  refine ⟨fun e => ⟨q_in e (by decide), _, rfl, tX7_feed ?_⟩, fun e => ⟨_, rfl, tX7_feed ?_⟩⟩
  · have e7 : am_u (am_u σ 2 0 t (vp_nar .byte (nI c).toInt8.toInt32)) 1 0 1 (nI (t + 1)) 20 0 7 = nI t := t3
    rw [e7, show (nI t = (160 : Int32) ↔ t = 160) from nI_eq (b := 160) (by omega) (by decide), nI_clamp (by omega), show nI t + (1 : Int32) = nI (t + 1) from nI_1 t]
    refine ⟨fun q => absurd q b, fun _ => ⟨fun q => absurd q d, fun _ => ⟨fun q => absurd q (by omega), fun _ => ⟨q_in e (by decide), rfl, n, pl, h9, a1, ?_, ?_, ?_, ⟨t + 1, by omega, rfl, rfl, fun i hi => ?_⟩, ?_, ?_, ?_⟩⟩⟩⟩
    · exact cm_cg rfl (fun _ _ => rfl) (fun _ _ _ => rfl) h9 a2
    · exact iv_img_cg h9 rfl rfl (fun _ _ => rfl) (fun _ _ => rfl) (fun _ _ _ => rfl) a3
    · exact iv_seen_cg rfl rfl rfl rfl rfl a4
    · have hb : vp_nar .byte (nI c).toInt8.toInt32 = nI c := by
        rw [vp_nar_byte]
        have : ∀ c, c ≤ 127 → (nI c).toInt8.toInt32.toInt8.toInt32 = nI c := by decide +kernel
        exact this c hc
      rw [hb]
      by_cases z : i = t
      · subst z
        show am_u σ 2 0 i (nI c) 2 0 i = am_u _ 23 0 i (nI c) 23 0 i ∧ q_lim (am_u σ 2 0 i (nI c) 2 0 i) 127
        rw [am_u_s, am_u_s]
        exact ⟨rfl, q_lim_n hc (by decide)⟩
      · show am_u σ 2 0 t (nI c) 2 0 i = am_u (am_u (am_u σ 2 0 t (nI c)) 1 0 1 (nI (t + 1))) 23 0 t (nI c) 23 0 i ∧ q_lim (am_u σ 2 0 t (nI c) 2 0 i) 127
        rw [am_u_j z, am_u_j z]
        exact t4 i (by omega)
    · exact iv_sheet_cg rfl rfl rfl rfl rfl a6
    · exact iv_word_cg rfl rfl a7
    · exact iv_flt_cg rfl rfl rfl a8
  · have e' : t = 160 := by omega
    rw [t3, e']
    refine ⟨fun q => absurd q b, fun _ => ⟨fun q => absurd q d, fun _ => ⟨fun _ => ⟨rfl, hI⟩, fun q => absurd rfl q⟩⟩⟩
theorem pr_end {σ : am_M} {a : Int32} (hI : Inv σ) : pairI sX6_end sX7_end [.inl a] σ := by
  obtain ⟨n, pl, h9, a1, a2, a3, a4, ⟨t, t1, t2, t3, t4⟩, a6, a7, a8⟩ := id hI
  refine tX6_end ?_
  rw [t2]
  refine ⟨fun b => ⟨_, rfl, tX7_end ⟨fun _ => ⟨rfl, hI⟩, fun q => absurd b q⟩⟩, fun b => ⟨fun d => ⟨_, rfl, tX7_end ⟨fun q => absurd q b, fun _ => ⟨fun _ => ⟨rfl, hI⟩, fun q => absurd (by rw [t3]; exact d) q⟩⟩⟩, fun d => ⟨_, rfl, tX7_end ?_⟩⟩⟩
  obtain ⟨c, hc, rfl⟩ := q_0b (b := t) rfl (by omega) b d
  have e7 : am_u σ 1 0 1 (nI c) 20 0 7 = nI t := t3
  rw [e7]
  refine ⟨fun q => absurd q b, fun _ => ⟨fun q => absurd q d, fun _ => ⟨rfl, n, pl, h9, a1, cm_cg rfl (fun _ _ => rfl) (fun _ _ _ => rfl) h9 a2, iv_img_cg h9 rfl rfl (fun _ _ => rfl) (fun _ _ => rfl) (fun _ _ _ => rfl) a3, iv_seen_cg rfl rfl rfl rfl rfl a4, ⟨c, by omega, rfl, rfl, fun i hi => t4 i (by omega)⟩, iv_sheet_cg rfl rfl rfl rfl rfl a6, iv_word_cg rfl rfl a7, iv_flt_cg rfl rfl rfl a8⟩⟩⟩
theorem pr_fault {σ : am_M} (hI : Inv σ) : pairI sX6_fault sX7_fault [] σ := by
  obtain ⟨n, pl, h9, a1, a2, a3, a4, a5, a6, a7, a8⟩ := id hI
  refine tX6_fault ⟨_, rfl, tX7_fault ⟨by rw [a8.1], hI⟩⟩
theorem pr_torn {σ : am_M} (hI : Inv σ) : pairI sX6_torn sX7_torn [] σ := by
  obtain ⟨n, pl, h9, a1, a2, a3, a4, a5, a6, a7, a8⟩ := id hI
  refine tX6_torn ⟨_, rfl, tX7_torn ⟨by rw [a8.2], hI⟩⟩
theorem pr_forget {σ : am_M} {a : Int32} (hI : Inv σ) : pairI sX6_forget sX7_forget [.inl a] σ := by
  obtain ⟨n, pl, h9, a1, a2, a3, ⟨m, m1, m2, m3, m4⟩, a5, a6, a7, a8⟩ := id hI
  refine tX6_forget ?_
  rw [m2]
  refine ⟨fun b => ⟨_, rfl, tX7_forget ⟨fun _ => ⟨rfl, hI⟩, fun q => absurd b q⟩⟩, fun b => ⟨fun d => ⟨_, rfl, tX7_forget ⟨fun q => absurd q b, fun _ => ⟨fun _ => ⟨rfl, hI⟩, fun q => absurd (by rw [m3]; exact d) q⟩⟩⟩, fun d => ⟨_, rfl, tX7_forget ?_⟩⟩⟩
  obtain ⟨c, hc, rfl⟩ := q_0b (b := m) rfl (by omega) b d
  have e7 : am_u σ 11 0 2 (nI c) 20 0 23 = nI m := m3
  rw [e7]
  refine ⟨fun q => absurd q b, fun _ => ⟨fun q => absurd q d, fun _ => ⟨rfl, n, pl, h9, a1, cm_cg rfl (fun _ _ => rfl) (fun _ _ _ => rfl) h9 a2, iv_img_cg h9 rfl rfl (fun _ _ => rfl) (fun _ _ => rfl) (fun _ _ _ => rfl) a3, ⟨c, by omega, rfl, rfl, fun k hk => m4 k (by omega)⟩, iv_tape_cg rfl rfl rfl rfl a5, iv_sheet_cg rfl rfl rfl rfl rfl a6, iv_word_cg rfl rfl a7, iv_flt_cg rfl rfl rfl a8⟩⟩⟩
