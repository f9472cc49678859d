/-! the law: its loop, its start (laid by gen/mklaw2.py) -/
theorem lw_off (n : Nat) (h : n < 39) : (#[172, 195, 218, 231, 244, 267, 300, 323, 366, 399, 432, 455, 488, 511, 534, 557, 580, 613, 636, 659, 682, 705, 728, 751, 774, 807, 830, 864, 898, 947, 970, 993, 1036, 1059, 1082, 1125, 1168, 1221, 1234] : Array Int)[n]? = some (([172, 195, 218, 231, 244, 267, 300, 323, 366, 399, 432, 455, 488, 511, 534, 557, 580, 613, 636, 659, 682, 705, 728, 751, 774, 807, 830, 864, 898, 947, 970, 993, 1036, 1059, 1082, 1125, 1168, 1221, 1234] : List Int).getD n 0) := by
  have : ∀ n, n < 39 → (#[172, 195, 218, 231, 244, 267, 300, 323, 366, 399, 432, 455, 488, 511, 534, 557, 580, 613, 636, 659, 682, 705, 728, 751, 774, 807, 830, 864, 898, 947, 970, 993, 1036, 1059, 1082, 1125, 1168, 1221, 1234] : Array Int)[n]? = some (([172, 195, 218, 231, 244, 267, 300, 323, 366, 399, 432, 455, 488, 511, 534, 557, 580, 613, 636, 659, 682, 705, 728, 751, 774, 807, 830, 864, 898, 947, 970, 993, 1036, 1059, 1082, 1125, 1168, 1221, 1234] : List Int).getD n 0) := by decide +kernel
  exact this n h
theorem lw_tg : ∀ z, z < 39 → ((32 : Nat) : Int) + ([172, 195, 218, 231, 244, 267, 300, 323, 366, 399, 432, 455, 488, 511, 534, 557, 580, 613, 636, 659, 682, 705, 728, 751, 774, 807, 830, 864, 898, 947, 970, 993, 1036, 1059, 1082, 1125, 1168, 1221, 1234] : List Int).getD z 0 = ((32 + ([172, 195, 218, 231, 244, 267, 300, 323, 366, 399, 432, 455, 488, 511, 534, 557, 580, 613, 636, 659, 682, 705, 728, 751, 774, 807, 830, 864, 898, 947, 970, 993, 1036, 1059, 1082, 1125, 1168, 1221, 1234] : List Nat).getD z 0 : Nat) : Int) := by decide +kernel
set_option maxHeartbeats 4000000 in
set_option maxRecDepth 100000 in
theorem law_loop {p : Program} {l : Launch} {e : Env} {s : State} {m : MethodId} {below : List Frame} {meth : Method} {c : Code} {dC : Nat → ClassId} {dI : Nat → Nat → Nat} {dA : Nat → ClassId} {ad : Nat → Nat → Nat} {adV : Nat → Nat} {b L : Nat} {xs : Nat → Int32} (hL : L ≤ 2560) (hG : lw_G p s m meth c dC dI dA ad adV b L xs) : ∀ (n i : Nat), i ≤ L + 5 → L + 5 < i + n → ∀ (σ : am_M) (H : Heap) (locs : List Loc) (ls : Array Slot), Inv σ → va_P (dC, dI) vwCl (am_w ad dA σ) H → va_S (NW s.heap.size) s.heap H locs → lv_has ls 4 [(0, .ref b), (1, .ref (ad 0 0)), (2, .ref (ad 20 0)), (3, .int (nI i))] → W p l e room_1 s m #[Value.ref b] below meth c H locs 600000 7302250 (lw_Z below #[Value.ref b] s) (F0 m 18 ls []) := by
  obtain ⟨hx, hb, hr, hml, hown, hts, hX, hbl, hlocks, hgv⟩ := id hG.1
  have hbA : ¬ NW s.heap.size b := Nat.not_le.mpr hbl
  intro n
  induction n with
  | zero =>
    intro i h1 h2
    omega
  | succ n ih =>
    intro i hi hin σ H locs ls hI hP hS hl
    refine lv_iload_n hx hb (lw_d0 6 rfl (by decide)) rfl (lv_at hl 3 rfl) ?_
    refine lv_aload_n hx hb (lw_d0 7 rfl (by decide)) rfl (lv_at hl 0 rfl) ?_
    refine va_slen hx hb hX hbl hbA hS (lw_d0 8 rfl (by decide)) ?_
    refine lv_iconst (v := 5) hx hb (lw_d0 9 rfl (by decide)) (by decide) ?_
    refine lv_isub hx hb (lw_d0 10 rfl (by decide)) ?_
    have cmp : Int32.ofNat L - (5 : Int32) < nI i ↔ L < i + 5 := by
      show nI L - nI 5 < nI i ↔ _
      rw [Int32.lt_iff_toInt_lt, pk_sub_toInt (by omega) (by decide), nI_toInt (by omega)]
      have : ((5 : Nat) : Int) = 5 := rfl
      omega
    refine lv_icmp_gt (tgt := 1295) hx hb (lw_d0 11 rfl (by decide)) (by decide) (fun c1 => ?_) (fun c1 => ?_)
    · refine lv_iconst (v := 1) hx hb (lw_d8 63 rfl (by decide)) (by decide) ?_
      refine va_forget (fun q hq => hS.2.2 q hq) ?_
      exact lw_ret hx hb hr hlocks (lw_d8 64 rfl (by decide))
    · have hlt : i + 5 ≤ L := by
        rcases Nat.lt_or_ge L (i + 5) with q | q
        · exact absurd (cmp.2 q) c1
        · exact q
      have hk : ∀ j : Nat, j < 5 → vp_in (nI i + nI j) L := fun j hj => by
        rw [nI_add]
        exact vp_in_nI (by omega) (by omega)
      have h0 : vp_in (nI i) L := vp_in_nI (by omega) (by omega)
      have h1 : vp_in (nI i + 1) L := hk 1 (by decide)
      have h2 : vp_in (nI i + 2) L := hk 2 (by decide)
      have h3 : vp_in (nI i + 3) L := hk 3 (by decide)
      have h4 : vp_in (nI i + 4) L := hk 4 (by decide)
      refine lv_aload_n hx hb (lw_d0 12 rfl (by decide)) rfl (lv_at hl 0 rfl) ?_
      refine lv_iload_n hx hb (lw_d0 13 rfl (by decide)) rfl (lv_at hl 3 rfl) ?_
      refine va_sld hx hb hX hbl hbA hS h0 (lw_d0 14 rfl (by decide)) ?_
      refine lv_bipush (v := 63) hx hb (lw_d0 15 rfl (by decide)) (by decide) ?_
      refine lv_iand hx hb (lw_d0 16 rfl (by decide)) ?_
      have next : ∀ (τ : am_M) (H1 : Heap) (locs1 : List Loc), Inv τ → va_P (dC, dI) vwCl (am_w ad dA τ) H1 → va_S (NW s.heap.size) s.heap H1 locs1 → W p l e room_1 s m #[Value.ref b] below meth c H1 locs1 600000 7302250 (lw_Z below #[Value.ref b] s) (F0 m 1289 ls []) := fun τ H1 locs1 hI2 hP2 hS2 => by
        refine lv_iinc (v := nI (i + 5)) (lv' := [(3, .int (nI (i + 5))), (0, .ref b), (1, .ref (ad 0 0)), (2, .ref (ad 20 0))]) hx hb (lw_d8 61 rfl (by decide)) hl (k := 3) rfl (nI_add i 5) (by decide) rfl (fun ls hl => ?_)
        refine lv_goto (tgt := 18) hx hb (lw_d8 62 rfl (by decide)) (by decide) ?_
        exact ih (i + 5) (by omega) (by omega) τ H1 locs1 ls hI2 hP2 hS2 (lv_sub hl [1, 2, 3, 0] rfl)
      obtain ⟨z, hz, ez⟩ := pk_andE (xs (nI i).toNatClampNeg) (m := 63) 6 (by decide)
      rw [ez]
      obtain ⟨len, hsw⟩ := lw_sw
      have zi : (nI z).toInt = (z : Int) := nI_toInt (by omega)
      rcases Nat.lt_or_ge z 39 with hz2 | hz2
      · refine lv_tableIn (off := ([172, 195, 218, 231, 244, 267, 300, 323, 366, 399, 432, 455, 488, 511, 534, 557, 580, 613, 636, 659, 682, 705, 728, 751, 774, 807, 830, 864, 898, 947, 970, 993, 1036, 1059, 1082, 1125, 1168, 1221, 1234] : List Int).getD z 0) (tgt := (32 + ([172, 195, 218, 231, 244, 267, 300, 323, 366, 399, 432, 455, 488, 511, 534, 557, 580, 613, 636, 659, 682, 705, 728, 751, 774, 807, 830, 864, 898, 947, 970, 993, 1036, 1059, 1082, 1125, 1168, 1221, 1234] : List Nat).getD z 0)) hx hb hsw (by rw [zi]; omega) (by rw [zi]; omega) (by rw [zi]; show _ = _; rw [show ((z : Int) - 0).toNat = z by omega]; exact lw_off z hz2) (lw_tg z hz2) ?_
        rcases (by omega : z = 0 ∨ z = 1 ∨ z = 2 ∨ z = 3 ∨ z = 4 ∨ z = 5 ∨ z = 6 ∨ z = 7 ∨ z = 8 ∨ z = 9 ∨ z = 10 ∨ z = 11 ∨ z = 12 ∨ z = 13 ∨ z = 14 ∨ z = 15 ∨ z = 16 ∨ z = 17 ∨ z = 18 ∨ z = 19 ∨ z = 20 ∨ z = 21 ∨ z = 22 ∨ z = 23 ∨ z = 24 ∨ z = 25 ∨ z = 26 ∨ z = 27 ∨ z = 28 ∨ z = 29 ∨ z = 30 ∨ z = 31 ∨ z = 32 ∨ z = 33 ∨ z = 34 ∨ z = 35 ∨ z = 36 ∨ z = 37 ∨ z = 38) with rfl | rfl | rfl | rfl | rfl | rfl | rfl | rfl | rfl | rfl | rfl | rfl | rfl | rfl | rfl | rfl | rfl | rfl | rfl | rfl | rfl | rfl | rfl | rfl | rfl | rfl | rfl | rfl | rfl | rfl | rfl | rfl | rfl | rfl | rfl | rfl | rfl | rfl | rfl
        · exact lc_0 hG h1 h2 h3 h4 hI hP hS hl next
        · exact lc_1 hG h1 h2 h3 h4 hI hP hS hl next
        · exact lc_2 hG h1 h2 h3 h4 hI hP hS hl next
        · exact lc_3 hG h1 h2 h3 h4 hI hP hS hl next
        · exact lc_4 hG h1 h2 h3 h4 hI hP hS hl next
        · exact lc_5 hG h1 h2 h3 h4 hI hP hS hl next
        · exact lc_6 hG h1 h2 h3 h4 hI hP hS hl next
        · exact lc_7 hG h1 h2 h3 h4 hI hP hS hl next
        · exact lc_8 hG h1 h2 h3 h4 hI hP hS hl next
        · exact lc_9 hG h1 h2 h3 h4 hI hP hS hl next
        · exact lc_10 hG h1 h2 h3 h4 hI hP hS hl next
        · exact lc_11 hG h1 h2 h3 h4 hI hP hS hl next
        · exact lc_12 hG h1 h2 h3 h4 hI hP hS hl next
        · exact lc_13 hG h1 h2 h3 h4 hI hP hS hl next
        · exact lc_14 hG h1 h2 h3 h4 hI hP hS hl next
        · exact lc_15 hG h1 h2 h3 h4 hI hP hS hl next
        · exact lc_16 hG h1 h2 h3 h4 hI hP hS hl next
        · exact lc_17 hG h1 h2 h3 h4 hI hP hS hl next
        · exact lc_18 hG h1 h2 h3 h4 hI hP hS hl next
        · exact lc_19 hG h1 h2 h3 h4 hI hP hS hl next
        · exact lc_20 hG h1 h2 h3 h4 hI hP hS hl next
        · exact lc_21 hG h1 h2 h3 h4 hI hP hS hl next
        · exact lc_22 hG h1 h2 h3 h4 hI hP hS hl next
        · exact lc_23 hG h1 h2 h3 h4 hI hP hS hl next
        · exact lc_24 hG h1 h2 h3 h4 hI hP hS hl next
        · exact lc_25 hG h1 h2 h3 h4 hI hP hS hl next
        · exact lc_26 hG h1 h2 h3 h4 hI hP hS hl next
        · exact lc_27 hG h1 h2 h3 h4 hI hP hS hl next
        · exact lc_28 hG h1 h2 h3 h4 hI hP hS hl next
        · exact lc_29 hG h1 h2 h3 h4 hI hP hS hl next
        · exact lc_30 hG h1 h2 h3 h4 hI hP hS hl next
        · exact lc_31 hG h1 h2 h3 h4 hI hP hS hl next
        · exact lc_32 hG h1 h2 h3 h4 hI hP hS hl next
        · exact lc_33 hG h1 h2 h3 h4 hI hP hS hl next
        · exact lc_34 hG h1 h2 h3 h4 hI hP hS hl next
        · exact lc_35 hG h1 h2 h3 h4 hI hP hS hl next
        · exact lc_36 hG h1 h2 h3 h4 hI hP hS hl next
        · exact lc_37 hG h1 h2 h3 h4 hI hP hS hl next
        · exact lc_38 hG h1 h2 h3 h4 hI hP hS hl next
      · refine lv_tableOut (tgt := 1289) hx hb hsw (Or.inr (by rw [zi]; omega)) (by decide) ?_
        exact next σ H locs hI hP hS
