/-! the law's cases (laid by gen/mklaw.py) -/
set_option maxHeartbeats 4000000 in
set_option maxRecDepth 100000 in
theorem lc_0 {p : Program} {l : Launch} {e : Env} {s : State} {m : MethodId} {below : List Frame} {meth : Method} {c : Code} {dC : Nat → ClassId} {dI : Nat → Nat → Nat} {dA : Nat → ClassId} {ad : Nat → Nat → Nat} {adV : Nat → Nat} {b L : Nat} {xs : Nat → Int32} (hG : lw_G p s m meth c dC dI dA ad adV b L xs) {x3 : Int32} (h1 : vp_in (x3 + 1) L) (h2 : vp_in (x3 + 2) L) (h3 : vp_in (x3 + 3) L) (h4 : vp_in (x3 + 4) L) {σ : am_M} (hI : Inv σ) {H : Heap} {locs : List Loc} (hP : va_P (dC, dI) vwCl (am_w ad dA σ) H) (hS : va_S (NW s.heap.size) s.heap H locs) {ls : Array Slot} (hl : lv_has ls 4 [(0, .ref b), (1, .ref (ad 0 0)), (2, .ref (ad 20 0)), (3, .int x3)]) (kk : ∀ (τ : am_M) (H1 : Heap) (locs1 : List Loc), Inv τ → va_P (dC, dI) vwCl (am_w ad dA τ) H1 → va_S (NW s.heap.size) s.heap H1 locs1 → W p l e room_1 s m #[Value.ref b] below meth c H1 locs1 600000 7302250 (lw_Z below #[Value.ref b] s) (F0 m 1289 ls [])) : W p l e room_1 s m #[Value.ref b] below meth c H locs 600000 7302250 (lw_Z below #[Value.ref b] s) (F0 m 204 ls []) := by
  obtain ⟨hx, hb, hr, hml, hown, hts, hX, hbl, hlocks, hgv⟩ := id hG.1
  have hbA : ¬ NW s.heap.size b := Nat.not_le.mpr hbl
  refine lv_aload_n hx hb (lw_d0 18 rfl (by decide)) rfl (lv_at hl 1 rfl) ?_
  refine lv_aload_n hx hb (lw_d0 19 rfl (by decide)) rfl (lv_at hl 0 rfl) ?_
  refine lv_iload_n hx hb (lw_d0 20 rfl (by decide)) rfl (lv_at hl 3 rfl) ?_
  refine lv_iconst (v := 1) hx hb (lw_d0 21 rfl (by decide)) (by decide) ?_
  refine lv_iadd hx hb (lw_d0 22 rfl (by decide)) ?_
  refine va_sld hx hb hX hbl hbA hS h1 (lw_d0 23 rfl (by decide)) ?_
  refine lw_call (n := 1) 0 6 [.inl (xs (x3 + 1).toNatClampNeg)] [] hG snX6_feed (am_lG iw_40 iw_41 iw_42 wd_162 iw_43) rfl rfl (by decide) (by decide) rfl rfl (by decide +kernel) ⟨Nat.le_of_ble_eq_true rfl, Nat.le_of_ble_eq_true rfl⟩ rfl (am_okIs [xs (x3 + 1).toNatClampNeg]) (pr_feed hI) am_k1 hP hS hl.1 (Nat.le_of_ble_eq_true rfl) (lw_d0 24 rfl (by decide)) (fun v τ0 H locs hKv hP hS => ?_)
  obtain ⟨r, hr0, hf⟩ := hKv
  cases hr0
  refine lv_aload_n hx hb (lw_d0 25 rfl (by decide)) rfl (lv_at hl 2 rfl) ?_
  refine lv_aload_n hx hb (lw_d0 26 rfl (by decide)) rfl (lv_at hl 0 rfl) ?_
  refine lv_iload_n hx hb (lw_d0 27 rfl (by decide)) rfl (lv_at hl 3 rfl) ?_
  refine lv_iconst (v := 1) hx hb (lw_d0 28 rfl (by decide)) (by decide) ?_
  refine lv_iadd hx hb (lw_d0 29 rfl (by decide)) ?_
  refine va_sld hx hb hX hbl hbA hS h1 (lw_d0 30 rfl (by decide)) ?_
  refine lw_call (n := 1) 20 7 [.inl (xs (x3 + 1).toNatClampNeg)] [.int r] hG snX7_feed (am_lG iw_44 iw_45 iw_46 wd_459 iw_47) rfl rfl (by decide) (by decide) rfl rfl (by decide +kernel) ⟨Nat.le_of_ble_eq_true rfl, Nat.le_of_ble_eq_true rfl⟩ rfl (am_okIs [xs (x3 + 1).toNatClampNeg]) (hf) am_k2 hP hS hl.1 (Nat.le_of_ble_eq_true rfl) (lw_d0 31 rfl (by decide)) (fun v τ1 H locs hKv hP hS => ?_)
  obtain ⟨hr0, hI⟩ := hKv
  cases hr0
  refine lv_icmp_eq (tgt := 1289) hx hb (lw_d0 32 rfl (by decide)) (by decide) (fun _ => kk _ _ _ hI hP hS) (fun h => absurd rfl h)
set_option maxHeartbeats 4000000 in
set_option maxRecDepth 100000 in
theorem lc_1 {p : Program} {l : Launch} {e : Env} {s : State} {m : MethodId} {below : List Frame} {meth : Method} {c : Code} {dC : Nat → ClassId} {dI : Nat → Nat → Nat} {dA : Nat → ClassId} {ad : Nat → Nat → Nat} {adV : Nat → Nat} {b L : Nat} {xs : Nat → Int32} (hG : lw_G p s m meth c dC dI dA ad adV b L xs) {x3 : Int32} (h1 : vp_in (x3 + 1) L) (h2 : vp_in (x3 + 2) L) (h3 : vp_in (x3 + 3) L) (h4 : vp_in (x3 + 4) L) {σ : am_M} (hI : Inv σ) {H : Heap} {locs : List Loc} (hP : va_P (dC, dI) vwCl (am_w ad dA σ) H) (hS : va_S (NW s.heap.size) s.heap H locs) {ls : Array Slot} (hl : lv_has ls 4 [(0, .ref b), (1, .ref (ad 0 0)), (2, .ref (ad 20 0)), (3, .int x3)]) (kk : ∀ (τ : am_M) (H1 : Heap) (locs1 : List Loc), Inv τ → va_P (dC, dI) vwCl (am_w ad dA τ) H1 → va_S (NW s.heap.size) s.heap H1 locs1 → W p l e room_1 s m #[Value.ref b] below meth c H1 locs1 600000 7302250 (lw_Z below #[Value.ref b] s) (F0 m 1289 ls [])) : W p l e room_1 s m #[Value.ref b] below meth c H locs 600000 7302250 (lw_Z below #[Value.ref b] s) (F0 m 227 ls []) := by
  obtain ⟨hx, hb, hr, hml, hown, hts, hX, hbl, hlocks, hgv⟩ := id hG.1
  have hbA : ¬ NW s.heap.size b := Nat.not_le.mpr hbl
  refine lv_aload_n hx hb (lw_d0 35 rfl (by decide)) rfl (lv_at hl 1 rfl) ?_
  refine lv_aload_n hx hb (lw_d0 36 rfl (by decide)) rfl (lv_at hl 0 rfl) ?_
  refine lv_iload_n hx hb (lw_d0 37 rfl (by decide)) rfl (lv_at hl 3 rfl) ?_
  refine lv_iconst (v := 1) hx hb (lw_d0 38 rfl (by decide)) (by decide) ?_
  refine lv_iadd hx hb (lw_d0 39 rfl (by decide)) ?_
  refine va_sld hx hb hX hbl hbA hS h1 (lw_d0 40 rfl (by decide)) ?_
  refine lw_call (n := 1) 0 6 [.inl (xs (x3 + 1).toNatClampNeg)] [] hG snX6_end (am_lG iw_48 iw_49 iw_50 wd_162 iw_51) rfl rfl (by decide) (by decide) rfl rfl (by decide +kernel) ⟨Nat.le_of_ble_eq_true rfl, Nat.le_of_ble_eq_true rfl⟩ rfl (am_okIs [xs (x3 + 1).toNatClampNeg]) (pr_end hI) am_k1 hP hS hl.1 (Nat.le_of_ble_eq_true rfl) (lw_d0 41 rfl (by decide)) (fun v τ0 H locs hKv hP hS => ?_)
  obtain ⟨r, hr0, hf⟩ := hKv
  cases hr0
  refine lv_aload_n hx hb (lw_d0 42 rfl (by decide)) rfl (lv_at hl 2 rfl) ?_
  refine lv_aload_n hx hb (lw_d0 43 rfl (by decide)) rfl (lv_at hl 0 rfl) ?_
  refine lv_iload_n hx hb (lw_d0 44 rfl (by decide)) rfl (lv_at hl 3 rfl) ?_
  refine lv_iconst (v := 1) hx hb (lw_d0 45 rfl (by decide)) (by decide) ?_
  refine lv_iadd hx hb (lw_d0 46 rfl (by decide)) ?_
  refine va_sld hx hb hX hbl hbA hS h1 (lw_d0 47 rfl (by decide)) ?_
  refine lw_call (n := 1) 20 7 [.inl (xs (x3 + 1).toNatClampNeg)] [.int r] hG snX7_end (am_lG iw_52 iw_53 iw_54 wd_459 iw_55) rfl rfl (by decide) (by decide) rfl rfl (by decide +kernel) ⟨Nat.le_of_ble_eq_true rfl, Nat.le_of_ble_eq_true rfl⟩ rfl (am_okIs [xs (x3 + 1).toNatClampNeg]) (hf) am_k2 hP hS hl.1 (Nat.le_of_ble_eq_true rfl) (lw_d0 48 rfl (by decide)) (fun v τ1 H locs hKv hP hS => ?_)
  obtain ⟨hr0, hI⟩ := hKv
  cases hr0
  refine lv_icmp_eq (tgt := 1289) hx hb (lw_d0 49 rfl (by decide)) (by decide) (fun _ => kk _ _ _ hI hP hS) (fun h => absurd rfl h)
set_option maxHeartbeats 4000000 in
set_option maxRecDepth 100000 in
theorem lc_2 {p : Program} {l : Launch} {e : Env} {s : State} {m : MethodId} {below : List Frame} {meth : Method} {c : Code} {dC : Nat → ClassId} {dI : Nat → Nat → Nat} {dA : Nat → ClassId} {ad : Nat → Nat → Nat} {adV : Nat → Nat} {b L : Nat} {xs : Nat → Int32} (hG : lw_G p s m meth c dC dI dA ad adV b L xs) {x3 : Int32} (h1 : vp_in (x3 + 1) L) (h2 : vp_in (x3 + 2) L) (h3 : vp_in (x3 + 3) L) (h4 : vp_in (x3 + 4) L) {σ : am_M} (hI : Inv σ) {H : Heap} {locs : List Loc} (hP : va_P (dC, dI) vwCl (am_w ad dA σ) H) (hS : va_S (NW s.heap.size) s.heap H locs) {ls : Array Slot} (hl : lv_has ls 4 [(0, .ref b), (1, .ref (ad 0 0)), (2, .ref (ad 20 0)), (3, .int x3)]) (kk : ∀ (τ : am_M) (H1 : Heap) (locs1 : List Loc), Inv τ → va_P (dC, dI) vwCl (am_w ad dA τ) H1 → va_S (NW s.heap.size) s.heap H1 locs1 → W p l e room_1 s m #[Value.ref b] below meth c H1 locs1 600000 7302250 (lw_Z below #[Value.ref b] s) (F0 m 1289 ls [])) : W p l e room_1 s m #[Value.ref b] below meth c H locs 600000 7302250 (lw_Z below #[Value.ref b] s) (F0 m 250 ls []) := by
  obtain ⟨hx, hb, hr, hml, hown, hts, hX, hbl, hlocks, hgv⟩ := id hG.1
  have hbA : ¬ NW s.heap.size b := Nat.not_le.mpr hbl
  refine lv_aload_n hx hb (lw_d0 52 rfl (by decide)) rfl (lv_at hl 1 rfl) ?_
  refine lw_call (n := 0) 0 6 [] [] hG snX6_text (am_lG iw_56 iw_57 iw_58 wd_162 iw_59) rfl rfl (by decide) (by decide) rfl rfl (by decide +kernel) ⟨Nat.le_of_ble_eq_true rfl, Nat.le_of_ble_eq_true rfl⟩ rfl (am_okIs []) (pr_text hI) am_k1 hP hS hl.1 (Nat.le_of_ble_eq_true rfl) (lw_d0 53 rfl (by decide)) (fun v τ0 H locs hKv hP hS => ?_)
  obtain ⟨r, hr0, hf⟩ := hKv
  cases hr0
  refine lv_aload_n hx hb (lw_d0 54 rfl (by decide)) rfl (lv_at hl 2 rfl) ?_
  refine lw_call (n := 0) 20 7 [] [.int r] hG snX7_text (am_lG iw_60 iw_61 iw_62 wd_459 iw_63) rfl rfl (by decide) (by decide) rfl rfl (by decide +kernel) ⟨Nat.le_of_ble_eq_true rfl, Nat.le_of_ble_eq_true rfl⟩ rfl (am_okIs []) (hf) am_k2 hP hS hl.1 (Nat.le_of_ble_eq_true rfl) (lw_d0 55 rfl (by decide)) (fun v τ1 H locs hKv hP hS => ?_)
  obtain ⟨hr0, hI⟩ := hKv
  cases hr0
  refine lv_icmp_eq (tgt := 1289) hx hb (lw_d0 56 rfl (by decide)) (by decide) (fun _ => kk _ _ _ hI hP hS) (fun h => absurd rfl h)
set_option maxHeartbeats 4000000 in
set_option maxRecDepth 100000 in
theorem lc_3 {p : Program} {l : Launch} {e : Env} {s : State} {m : MethodId} {below : List Frame} {meth : Method} {c : Code} {dC : Nat → ClassId} {dI : Nat → Nat → Nat} {dA : Nat → ClassId} {ad : Nat → Nat → Nat} {adV : Nat → Nat} {b L : Nat} {xs : Nat → Int32} (hG : lw_G p s m meth c dC dI dA ad adV b L xs) {x3 : Int32} (h1 : vp_in (x3 + 1) L) (h2 : vp_in (x3 + 2) L) (h3 : vp_in (x3 + 3) L) (h4 : vp_in (x3 + 4) L) {σ : am_M} (hI : Inv σ) {H : Heap} {locs : List Loc} (hP : va_P (dC, dI) vwCl (am_w ad dA σ) H) (hS : va_S (NW s.heap.size) s.heap H locs) {ls : Array Slot} (hl : lv_has ls 4 [(0, .ref b), (1, .ref (ad 0 0)), (2, .ref (ad 20 0)), (3, .int x3)]) (kk : ∀ (τ : am_M) (H1 : Heap) (locs1 : List Loc), Inv τ → va_P (dC, dI) vwCl (am_w ad dA τ) H1 → va_S (NW s.heap.size) s.heap H1 locs1 → W p l e room_1 s m #[Value.ref b] below meth c H1 locs1 600000 7302250 (lw_Z below #[Value.ref b] s) (F0 m 1289 ls [])) : W p l e room_1 s m #[Value.ref b] below meth c H locs 600000 7302250 (lw_Z below #[Value.ref b] s) (F0 m 263 ls []) := by
  obtain ⟨hx, hb, hr, hml, hown, hts, hX, hbl, hlocks, hgv⟩ := id hG.1
  have hbA : ¬ NW s.heap.size b := Nat.not_le.mpr hbl
  refine lv_aload_n hx hb (lw_d0 59 rfl (by decide)) rfl (lv_at hl 1 rfl) ?_
  refine lw_call (n := 0) 0 6 [] [] hG snX6_fault (am_lG iw_64 iw_65 iw_66 wd_162 iw_67) rfl rfl (by decide) (by decide) rfl rfl (by decide +kernel) ⟨Nat.le_of_ble_eq_true rfl, Nat.le_of_ble_eq_true rfl⟩ rfl (am_okIs []) (pr_fault hI) am_k1 hP hS hl.1 (Nat.le_of_ble_eq_true rfl) (lw_d0 60 rfl (by decide)) (fun v τ0 H locs hKv hP hS => ?_)
  obtain ⟨r, hr0, hf⟩ := hKv
  cases hr0
  refine lv_aload_n hx hb (lw_d0 61 rfl (by decide)) rfl (lv_at hl 2 rfl) ?_
  refine lw_call (n := 0) 20 7 [] [.int r] hG snX7_fault (am_lG iw_68 iw_69 iw_70 wd_459 iw_71) rfl rfl (by decide) (by decide) rfl rfl (by decide +kernel) ⟨Nat.le_of_ble_eq_true rfl, Nat.le_of_ble_eq_true rfl⟩ rfl (am_okIs []) (hf) am_k2 hP hS hl.1 (Nat.le_of_ble_eq_true rfl) (lw_d0 62 rfl (by decide)) (fun v τ1 H locs hKv hP hS => ?_)
  obtain ⟨hr0, hI⟩ := hKv
  cases hr0
  refine lv_icmp_eq (tgt := 1289) hx hb (lw_d0 63 rfl (by decide)) (by decide) (fun _ => kk _ _ _ hI hP hS) (fun h => absurd rfl h)
set_option maxHeartbeats 4000000 in
set_option maxRecDepth 100000 in
theorem lc_4 {p : Program} {l : Launch} {e : Env} {s : State} {m : MethodId} {below : List Frame} {meth : Method} {c : Code} {dC : Nat → ClassId} {dI : Nat → Nat → Nat} {dA : Nat → ClassId} {ad : Nat → Nat → Nat} {adV : Nat → Nat} {b L : Nat} {xs : Nat → Int32} (hG : lw_G p s m meth c dC dI dA ad adV b L xs) {x3 : Int32} (h1 : vp_in (x3 + 1) L) (h2 : vp_in (x3 + 2) L) (h3 : vp_in (x3 + 3) L) (h4 : vp_in (x3 + 4) L) {σ : am_M} (hI : Inv σ) {H : Heap} {locs : List Loc} (hP : va_P (dC, dI) vwCl (am_w ad dA σ) H) (hS : va_S (NW s.heap.size) s.heap H locs) {ls : Array Slot} (hl : lv_has ls 4 [(0, .ref b), (1, .ref (ad 0 0)), (2, .ref (ad 20 0)), (3, .int x3)]) (kk : ∀ (τ : am_M) (H1 : Heap) (locs1 : List Loc), Inv τ → va_P (dC, dI) vwCl (am_w ad dA τ) H1 → va_S (NW s.heap.size) s.heap H1 locs1 → W p l e room_1 s m #[Value.ref b] below meth c H1 locs1 600000 7302250 (lw_Z below #[Value.ref b] s) (F0 m 1289 ls [])) : W p l e room_1 s m #[Value.ref b] below meth c H locs 600000 7302250 (lw_Z below #[Value.ref b] s) (F0 m 276 ls []) := by
  obtain ⟨hx, hb, hr, hml, hown, hts, hX, hbl, hlocks, hgv⟩ := id hG.1
  have hbA : ¬ NW s.heap.size b := Nat.not_le.mpr hbl
  refine lv_aload_n hx hb (lw_d0 66 rfl (by decide)) rfl (lv_at hl 1 rfl) ?_
  refine lv_aload_n hx hb (lw_d0 67 rfl (by decide)) rfl (lv_at hl 0 rfl) ?_
  refine lv_iload_n hx hb (lw_d0 68 rfl (by decide)) rfl (lv_at hl 3 rfl) ?_
  refine lv_iconst (v := 1) hx hb (lw_d0 69 rfl (by decide)) (by decide) ?_
  refine lv_iadd hx hb (lw_d0 70 rfl (by decide)) ?_
  refine va_sld hx hb hX hbl hbA hS h1 (lw_d0 71 rfl (by decide)) ?_
  refine lw_call (n := 1) 0 6 [.inl (xs (x3 + 1).toNatClampNeg)] [] hG snX6_rule (am_lG iw_72 iw_73 iw_74 wd_162 iw_75) rfl rfl (by decide) (by decide) rfl rfl (by decide +kernel) ⟨Nat.le_of_ble_eq_true rfl, Nat.le_of_ble_eq_true rfl⟩ rfl (am_okIs [xs (x3 + 1).toNatClampNeg]) (pr_rule hI) am_k1 hP hS hl.1 (Nat.le_of_ble_eq_true rfl) (lw_d0 72 rfl (by decide)) (fun v τ0 H locs hKv hP hS => ?_)
  obtain ⟨r, hr0, hf⟩ := hKv
  cases hr0
  refine lv_aload_n hx hb (lw_d0 73 rfl (by decide)) rfl (lv_at hl 2 rfl) ?_
  refine lv_aload_n hx hb (lw_d0 74 rfl (by decide)) rfl (lv_at hl 0 rfl) ?_
  refine lv_iload_n hx hb (lw_d0 75 rfl (by decide)) rfl (lv_at hl 3 rfl) ?_
  refine lv_iconst (v := 1) hx hb (lw_d0 76 rfl (by decide)) (by decide) ?_
  refine lv_iadd hx hb (lw_d0 77 rfl (by decide)) ?_
  refine va_sld hx hb hX hbl hbA hS h1 (lw_d0 78 rfl (by decide)) ?_
  refine lw_call (n := 1) 20 7 [.inl (xs (x3 + 1).toNatClampNeg)] [.int r] hG snX7_rule (am_lG iw_76 iw_77 iw_78 wd_459 iw_79) rfl rfl (by decide) (by decide) rfl rfl (by decide +kernel) ⟨Nat.le_of_ble_eq_true rfl, Nat.le_of_ble_eq_true rfl⟩ rfl (am_okIs [xs (x3 + 1).toNatClampNeg]) (hf) am_k2 hP hS hl.1 (Nat.le_of_ble_eq_true rfl) (lw_d0 79 rfl (by decide)) (fun v τ1 H locs hKv hP hS => ?_)
  obtain ⟨hr0, hI⟩ := hKv
  cases hr0
  refine lv_icmp_eq (tgt := 1289) hx hb (lw_d0 80 rfl (by decide)) (by decide) (fun _ => kk _ _ _ hI hP hS) (fun h => absurd rfl h)
set_option maxHeartbeats 4000000 in
set_option maxRecDepth 100000 in
theorem lc_5 {p : Program} {l : Launch} {e : Env} {s : State} {m : MethodId} {below : List Frame} {meth : Method} {c : Code} {dC : Nat → ClassId} {dI : Nat → Nat → Nat} {dA : Nat → ClassId} {ad : Nat → Nat → Nat} {adV : Nat → Nat} {b L : Nat} {xs : Nat → Int32} (hG : lw_G p s m meth c dC dI dA ad adV b L xs) {x3 : Int32} (h1 : vp_in (x3 + 1) L) (h2 : vp_in (x3 + 2) L) (h3 : vp_in (x3 + 3) L) (h4 : vp_in (x3 + 4) L) {σ : am_M} (hI : Inv σ) {H : Heap} {locs : List Loc} (hP : va_P (dC, dI) vwCl (am_w ad dA σ) H) (hS : va_S (NW s.heap.size) s.heap H locs) {ls : Array Slot} (hl : lv_has ls 4 [(0, .ref b), (1, .ref (ad 0 0)), (2, .ref (ad 20 0)), (3, .int x3)]) (kk : ∀ (τ : am_M) (H1 : Heap) (locs1 : List Loc), Inv τ → va_P (dC, dI) vwCl (am_w ad dA τ) H1 → va_S (NW s.heap.size) s.heap H1 locs1 → W p l e room_1 s m #[Value.ref b] below meth c H1 locs1 600000 7302250 (lw_Z below #[Value.ref b] s) (F0 m 1289 ls [])) : W p l e room_1 s m #[Value.ref b] below meth c H locs 600000 7302250 (lw_Z below #[Value.ref b] s) (F0 m 299 ls []) := by
  obtain ⟨hx, hb, hr, hml, hown, hts, hX, hbl, hlocks, hgv⟩ := id hG.1
  have hbA : ¬ NW s.heap.size b := Nat.not_le.mpr hbl
  refine lv_aload_n hx hb (lw_d0 83 rfl (by decide)) rfl (lv_at hl 1 rfl) ?_
  refine lv_aload_n hx hb (lw_d0 84 rfl (by decide)) rfl (lv_at hl 0 rfl) ?_
  refine lv_iload_n hx hb (lw_d0 85 rfl (by decide)) rfl (lv_at hl 3 rfl) ?_
  refine lv_iconst (v := 1) hx hb (lw_d0 86 rfl (by decide)) (by decide) ?_
  refine lv_iadd hx hb (lw_d0 87 rfl (by decide)) ?_
  refine va_sld hx hb hX hbl hbA hS h1 (lw_d0 88 rfl (by decide)) ?_
  refine lv_aload_n hx hb (lw_d0 89 rfl (by decide)) rfl (lv_at hl 0 rfl) ?_
  refine lv_iload_n hx hb (lw_d0 90 rfl (by decide)) rfl (lv_at hl 3 rfl) ?_
  refine lv_iconst (v := 2) hx hb (lw_d0 91 rfl (by decide)) (by decide) ?_
  refine lv_iadd hx hb (lw_d0 92 rfl (by decide)) ?_
  refine va_sld hx hb hX hbl hbA hS h2 (lw_d0 93 rfl (by decide)) ?_
  refine lw_call (n := 2) 0 6 [.inl (xs (x3 + 1).toNatClampNeg), .inl (xs (x3 + 2).toNatClampNeg)] [] hG snX6_one (am_lG iw_80 iw_81 iw_82 wd_162 iw_83) rfl rfl (by decide) (by decide) rfl rfl (by decide +kernel) ⟨Nat.le_of_ble_eq_true rfl, Nat.le_of_ble_eq_true rfl⟩ rfl (am_okIs [xs (x3 + 1).toNatClampNeg, xs (x3 + 2).toNatClampNeg]) (pr_one hI) am_k1 hP hS hl.1 (Nat.le_of_ble_eq_true rfl) (lw_d0 94 rfl (by decide)) (fun v τ0 H locs hKv hP hS => ?_)
  obtain ⟨r, hr0, hf⟩ := hKv
  cases hr0
  refine lv_aload_n hx hb (lw_d0 95 rfl (by decide)) rfl (lv_at hl 2 rfl) ?_
  refine lv_aload_n hx hb (lw_d0 96 rfl (by decide)) rfl (lv_at hl 0 rfl) ?_
  refine lv_iload_n hx hb (lw_d0 97 rfl (by decide)) rfl (lv_at hl 3 rfl) ?_
  refine lv_iconst (v := 1) hx hb (lw_d0 98 rfl (by decide)) (by decide) ?_
  refine lv_iadd hx hb (lw_d0 99 rfl (by decide)) ?_
  refine va_sld hx hb hX hbl hbA hS h1 (lw_d1 0 rfl (by decide)) ?_
  refine lv_aload_n hx hb (lw_d1 1 rfl (by decide)) rfl (lv_at hl 0 rfl) ?_
  refine lv_iload_n hx hb (lw_d1 2 rfl (by decide)) rfl (lv_at hl 3 rfl) ?_
  refine lv_iconst (v := 2) hx hb (lw_d1 3 rfl (by decide)) (by decide) ?_
  refine lv_iadd hx hb (lw_d1 4 rfl (by decide)) ?_
  refine va_sld hx hb hX hbl hbA hS h2 (lw_d1 5 rfl (by decide)) ?_
  refine lw_call (n := 2) 20 7 [.inl (xs (x3 + 1).toNatClampNeg), .inl (xs (x3 + 2).toNatClampNeg)] [.int r] hG snX7_one (am_lG iw_84 iw_85 iw_86 wd_459 iw_87) rfl rfl (by decide) (by decide) rfl rfl (by decide +kernel) ⟨Nat.le_of_ble_eq_true rfl, Nat.le_of_ble_eq_true rfl⟩ rfl (am_okIs [xs (x3 + 1).toNatClampNeg, xs (x3 + 2).toNatClampNeg]) (hf) am_k2 hP hS hl.1 (Nat.le_of_ble_eq_true rfl) (lw_d1 6 rfl (by decide)) (fun v τ1 H locs hKv hP hS => ?_)
  obtain ⟨hr0, hI⟩ := hKv
  cases hr0
  refine lv_icmp_eq (tgt := 1289) hx hb (lw_d1 7 rfl (by decide)) (by decide) (fun _ => kk _ _ _ hI hP hS) (fun h => absurd rfl h)
set_option maxHeartbeats 4000000 in
set_option maxRecDepth 100000 in
theorem lc_6 {p : Program} {l : Launch} {e : Env} {s : State} {m : MethodId} {below : List Frame} {meth : Method} {c : Code} {dC : Nat → ClassId} {dI : Nat → Nat → Nat} {dA : Nat → ClassId} {ad : Nat → Nat → Nat} {adV : Nat → Nat} {b L : Nat} {xs : Nat → Int32} (hG : lw_G p s m meth c dC dI dA ad adV b L xs) {x3 : Int32} (h1 : vp_in (x3 + 1) L) (h2 : vp_in (x3 + 2) L) (h3 : vp_in (x3 + 3) L) (h4 : vp_in (x3 + 4) L) {σ : am_M} (hI : Inv σ) {H : Heap} {locs : List Loc} (hP : va_P (dC, dI) vwCl (am_w ad dA σ) H) (hS : va_S (NW s.heap.size) s.heap H locs) {ls : Array Slot} (hl : lv_has ls 4 [(0, .ref b), (1, .ref (ad 0 0)), (2, .ref (ad 20 0)), (3, .int x3)]) (kk : ∀ (τ : am_M) (H1 : Heap) (locs1 : List Loc), Inv τ → va_P (dC, dI) vwCl (am_w ad dA τ) H1 → va_S (NW s.heap.size) s.heap H1 locs1 → W p l e room_1 s m #[Value.ref b] below meth c H1 locs1 600000 7302250 (lw_Z below #[Value.ref b] s) (F0 m 1289 ls [])) : W p l e room_1 s m #[Value.ref b] below meth c H locs 600000 7302250 (lw_Z below #[Value.ref b] s) (F0 m 332 ls []) := by
  obtain ⟨hx, hb, hr, hml, hown, hts, hX, hbl, hlocks, hgv⟩ := id hG.1
  have hbA : ¬ NW s.heap.size b := Nat.not_le.mpr hbl
  refine lv_aload_n hx hb (lw_d1 10 rfl (by decide)) rfl (lv_at hl 1 rfl) ?_
  refine lv_aload_n hx hb (lw_d1 11 rfl (by decide)) rfl (lv_at hl 0 rfl) ?_
  refine lv_iload_n hx hb (lw_d1 12 rfl (by decide)) rfl (lv_at hl 3 rfl) ?_
  refine lv_iconst (v := 1) hx hb (lw_d1 13 rfl (by decide)) (by decide) ?_
  refine lv_iadd hx hb (lw_d1 14 rfl (by decide)) ?_
  refine va_sld hx hb hX hbl hbA hS h1 (lw_d1 15 rfl (by decide)) ?_
  refine lw_call (n := 1) 0 6 [.inl (xs (x3 + 1).toNatClampNeg)] [] hG snX6_alike (am_lG iw_88 iw_89 iw_90 wd_162 iw_91) rfl rfl (by decide) (by decide) rfl rfl (by decide +kernel) ⟨Nat.le_of_ble_eq_true rfl, Nat.le_of_ble_eq_true rfl⟩ rfl (am_okIs [xs (x3 + 1).toNatClampNeg]) (pr_alike hI) am_k1 hP hS hl.1 (Nat.le_of_ble_eq_true rfl) (lw_d1 16 rfl (by decide)) (fun v τ0 H locs hKv hP hS => ?_)
  obtain ⟨r, hr0, hf⟩ := hKv
  cases hr0
  refine lv_aload_n hx hb (lw_d1 17 rfl (by decide)) rfl (lv_at hl 2 rfl) ?_
  refine lv_aload_n hx hb (lw_d1 18 rfl (by decide)) rfl (lv_at hl 0 rfl) ?_
  refine lv_iload_n hx hb (lw_d1 19 rfl (by decide)) rfl (lv_at hl 3 rfl) ?_
  refine lv_iconst (v := 1) hx hb (lw_d1 20 rfl (by decide)) (by decide) ?_
  refine lv_iadd hx hb (lw_d1 21 rfl (by decide)) ?_
  refine va_sld hx hb hX hbl hbA hS h1 (lw_d1 22 rfl (by decide)) ?_
  refine lw_call (n := 1) 20 7 [.inl (xs (x3 + 1).toNatClampNeg)] [.int r] hG snX7_alike (am_lG iw_92 iw_93 iw_94 wd_459 iw_95) rfl rfl (by decide) (by decide) rfl rfl (by decide +kernel) ⟨Nat.le_of_ble_eq_true rfl, Nat.le_of_ble_eq_true rfl⟩ rfl (am_okIs [xs (x3 + 1).toNatClampNeg]) (hf) am_k2 hP hS hl.1 (Nat.le_of_ble_eq_true rfl) (lw_d1 23 rfl (by decide)) (fun v τ1 H locs hKv hP hS => ?_)
  obtain ⟨hr0, hI⟩ := hKv
  cases hr0
  refine lv_icmp_eq (tgt := 1289) hx hb (lw_d1 24 rfl (by decide)) (by decide) (fun _ => kk _ _ _ hI hP hS) (fun h => absurd rfl h)
set_option maxHeartbeats 4000000 in
set_option maxRecDepth 100000 in
theorem lc_7 {p : Program} {l : Launch} {e : Env} {s : State} {m : MethodId} {below : List Frame} {meth : Method} {c : Code} {dC : Nat → ClassId} {dI : Nat → Nat → Nat} {dA : Nat → ClassId} {ad : Nat → Nat → Nat} {adV : Nat → Nat} {b L : Nat} {xs : Nat → Int32} (hG : lw_G p s m meth c dC dI dA ad adV b L xs) {x3 : Int32} (h1 : vp_in (x3 + 1) L) (h2 : vp_in (x3 + 2) L) (h3 : vp_in (x3 + 3) L) (h4 : vp_in (x3 + 4) L) {σ : am_M} (hI : Inv σ) {H : Heap} {locs : List Loc} (hP : va_P (dC, dI) vwCl (am_w ad dA σ) H) (hS : va_S (NW s.heap.size) s.heap H locs) {ls : Array Slot} (hl : lv_has ls 4 [(0, .ref b), (1, .ref (ad 0 0)), (2, .ref (ad 20 0)), (3, .int x3)]) (kk : ∀ (τ : am_M) (H1 : Heap) (locs1 : List Loc), Inv τ → va_P (dC, dI) vwCl (am_w ad dA τ) H1 → va_S (NW s.heap.size) s.heap H1 locs1 → W p l e room_1 s m #[Value.ref b] below meth c H1 locs1 600000 7302250 (lw_Z below #[Value.ref b] s) (F0 m 1289 ls [])) : W p l e room_1 s m #[Value.ref b] below meth c H locs 600000 7302250 (lw_Z below #[Value.ref b] s) (F0 m 355 ls []) := by
  obtain ⟨hx, hb, hr, hml, hown, hts, hX, hbl, hlocks, hgv⟩ := id hG.1
  have hbA : ¬ NW s.heap.size b := Nat.not_le.mpr hbl
  refine lv_aload_n hx hb (lw_d1 27 rfl (by decide)) rfl (lv_at hl 1 rfl) ?_
  refine lv_aload_n hx hb (lw_d1 28 rfl (by decide)) rfl (lv_at hl 0 rfl) ?_
  refine lv_iload_n hx hb (lw_d1 29 rfl (by decide)) rfl (lv_at hl 3 rfl) ?_
  refine lv_iconst (v := 1) hx hb (lw_d1 30 rfl (by decide)) (by decide) ?_
  refine lv_iadd hx hb (lw_d1 31 rfl (by decide)) ?_
  refine va_sld hx hb hX hbl hbA hS h1 (lw_d1 32 rfl (by decide)) ?_
  refine lv_aload_n hx hb (lw_d1 33 rfl (by decide)) rfl (lv_at hl 0 rfl) ?_
  refine lv_iload_n hx hb (lw_d1 34 rfl (by decide)) rfl (lv_at hl 3 rfl) ?_
  refine lv_iconst (v := 2) hx hb (lw_d1 35 rfl (by decide)) (by decide) ?_
  refine lv_iadd hx hb (lw_d1 36 rfl (by decide)) ?_
  refine va_sld hx hb hX hbl hbA hS h2 (lw_d1 37 rfl (by decide)) ?_
  refine lv_aload_n hx hb (lw_d1 38 rfl (by decide)) rfl (lv_at hl 0 rfl) ?_
  refine lv_iload_n hx hb (lw_d1 39 rfl (by decide)) rfl (lv_at hl 3 rfl) ?_
  refine lv_iconst (v := 3) hx hb (lw_d1 40 rfl (by decide)) (by decide) ?_
  refine lv_iadd hx hb (lw_d1 41 rfl (by decide)) ?_
  refine va_sld hx hb hX hbl hbA hS h3 (lw_d1 42 rfl (by decide)) ?_
  refine lw_call (n := 3) 0 6 [.inl (xs (x3 + 1).toNatClampNeg), .inl (xs (x3 + 2).toNatClampNeg), .inl (xs (x3 + 3).toNatClampNeg)] [] hG snX6_turn (am_lG iw_96 iw_97 iw_98 wd_162 iw_99) rfl rfl (by decide) (by decide) rfl rfl (by decide +kernel) ⟨Nat.le_of_ble_eq_true rfl, Nat.le_of_ble_eq_true rfl⟩ rfl (am_okIs [xs (x3 + 1).toNatClampNeg, xs (x3 + 2).toNatClampNeg, xs (x3 + 3).toNatClampNeg]) (pr_turn hI) am_k1 hP hS hl.1 (Nat.le_of_ble_eq_true rfl) (lw_d1 43 rfl (by decide)) (fun v τ0 H locs hKv hP hS => ?_)
  obtain ⟨r, hr0, hf⟩ := hKv
  cases hr0
  refine lv_aload_n hx hb (lw_d1 44 rfl (by decide)) rfl (lv_at hl 2 rfl) ?_
  refine lv_aload_n hx hb (lw_d1 45 rfl (by decide)) rfl (lv_at hl 0 rfl) ?_
  refine lv_iload_n hx hb (lw_d1 46 rfl (by decide)) rfl (lv_at hl 3 rfl) ?_
  refine lv_iconst (v := 1) hx hb (lw_d1 47 rfl (by decide)) (by decide) ?_
  refine lv_iadd hx hb (lw_d1 48 rfl (by decide)) ?_
  refine va_sld hx hb hX hbl hbA hS h1 (lw_d1 49 rfl (by decide)) ?_
  refine lv_aload_n hx hb (lw_d1 50 rfl (by decide)) rfl (lv_at hl 0 rfl) ?_
  refine lv_iload_n hx hb (lw_d1 51 rfl (by decide)) rfl (lv_at hl 3 rfl) ?_
  refine lv_iconst (v := 2) hx hb (lw_d1 52 rfl (by decide)) (by decide) ?_
  refine lv_iadd hx hb (lw_d1 53 rfl (by decide)) ?_
  refine va_sld hx hb hX hbl hbA hS h2 (lw_d1 54 rfl (by decide)) ?_
  refine lv_aload_n hx hb (lw_d1 55 rfl (by decide)) rfl (lv_at hl 0 rfl) ?_
  refine lv_iload_n hx hb (lw_d1 56 rfl (by decide)) rfl (lv_at hl 3 rfl) ?_
  refine lv_iconst (v := 3) hx hb (lw_d1 57 rfl (by decide)) (by decide) ?_
  refine lv_iadd hx hb (lw_d1 58 rfl (by decide)) ?_
  refine va_sld hx hb hX hbl hbA hS h3 (lw_d1 59 rfl (by decide)) ?_
  refine lw_call (n := 3) 20 7 [.inl (xs (x3 + 1).toNatClampNeg), .inl (xs (x3 + 2).toNatClampNeg), .inl (xs (x3 + 3).toNatClampNeg)] [.int r] hG snX7_turn (am_lG iw_100 iw_101 iw_102 wd_459 iw_103) rfl rfl (by decide) (by decide) rfl rfl (by decide +kernel) ⟨Nat.le_of_ble_eq_true rfl, Nat.le_of_ble_eq_true rfl⟩ rfl (am_okIs [xs (x3 + 1).toNatClampNeg, xs (x3 + 2).toNatClampNeg, xs (x3 + 3).toNatClampNeg]) (hf) am_k2 hP hS hl.1 (Nat.le_of_ble_eq_true rfl) (lw_d1 60 rfl (by decide)) (fun v τ1 H locs hKv hP hS => ?_)
  obtain ⟨hr0, hI⟩ := hKv
  cases hr0
  refine lv_icmp_eq (tgt := 1289) hx hb (lw_d1 61 rfl (by decide)) (by decide) (fun _ => kk _ _ _ hI hP hS) (fun h => absurd rfl h)
set_option maxHeartbeats 4000000 in
set_option maxRecDepth 100000 in
theorem lc_8 {p : Program} {l : Launch} {e : Env} {s : State} {m : MethodId} {below : List Frame} {meth : Method} {c : Code} {dC : Nat → ClassId} {dI : Nat → Nat → Nat} {dA : Nat → ClassId} {ad : Nat → Nat → Nat} {adV : Nat → Nat} {b L : Nat} {xs : Nat → Int32} (hG : lw_G p s m meth c dC dI dA ad adV b L xs) {x3 : Int32} (h1 : vp_in (x3 + 1) L) (h2 : vp_in (x3 + 2) L) (h3 : vp_in (x3 + 3) L) (h4 : vp_in (x3 + 4) L) {σ : am_M} (hI : Inv σ) {H : Heap} {locs : List Loc} (hP : va_P (dC, dI) vwCl (am_w ad dA σ) H) (hS : va_S (NW s.heap.size) s.heap H locs) {ls : Array Slot} (hl : lv_has ls 4 [(0, .ref b), (1, .ref (ad 0 0)), (2, .ref (ad 20 0)), (3, .int x3)]) (kk : ∀ (τ : am_M) (H1 : Heap) (locs1 : List Loc), Inv τ → va_P (dC, dI) vwCl (am_w ad dA τ) H1 → va_S (NW s.heap.size) s.heap H1 locs1 → W p l e room_1 s m #[Value.ref b] below meth c H1 locs1 600000 7302250 (lw_Z below #[Value.ref b] s) (F0 m 1289 ls [])) : W p l e room_1 s m #[Value.ref b] below meth c H locs 600000 7302250 (lw_Z below #[Value.ref b] s) (F0 m 398 ls []) := by
  obtain ⟨hx, hb, hr, hml, hown, hts, hX, hbl, hlocks, hgv⟩ := id hG.1
  have hbA : ¬ NW s.heap.size b := Nat.not_le.mpr hbl
  refine lv_aload_n hx hb (lw_d1 64 rfl (by decide)) rfl (lv_at hl 1 rfl) ?_
  refine lv_aload_n hx hb (lw_d1 65 rfl (by decide)) rfl (lv_at hl 0 rfl) ?_
  refine lv_iload_n hx hb (lw_d1 66 rfl (by decide)) rfl (lv_at hl 3 rfl) ?_
  refine lv_iconst (v := 1) hx hb (lw_d1 67 rfl (by decide)) (by decide) ?_
  refine lv_iadd hx hb (lw_d1 68 rfl (by decide)) ?_
  refine va_sld hx hb hX hbl hbA hS h1 (lw_d1 69 rfl (by decide)) ?_
  refine lv_aload_n hx hb (lw_d1 70 rfl (by decide)) rfl (lv_at hl 0 rfl) ?_
  refine lv_iload_n hx hb (lw_d1 71 rfl (by decide)) rfl (lv_at hl 3 rfl) ?_
  refine lv_iconst (v := 2) hx hb (lw_d1 72 rfl (by decide)) (by decide) ?_
  refine lv_iadd hx hb (lw_d1 73 rfl (by decide)) ?_
  refine va_sld hx hb hX hbl hbA hS h2 (lw_d1 74 rfl (by decide)) ?_
  refine lw_call (n := 2) 0 6 [.inl (xs (x3 + 1).toNatClampNeg), .inl (xs (x3 + 2).toNatClampNeg)] [] hG snX6_teach (am_lG iw_104 iw_105 iw_106 wd_162 iw_107) rfl rfl (by decide) (by decide) rfl rfl (by decide +kernel) ⟨Nat.le_of_ble_eq_true rfl, Nat.le_of_ble_eq_true rfl⟩ rfl (am_okIs [xs (x3 + 1).toNatClampNeg, xs (x3 + 2).toNatClampNeg]) (pr_teach hI) am_k1 hP hS hl.1 (Nat.le_of_ble_eq_true rfl) (lw_d1 75 rfl (by decide)) (fun v τ0 H locs hKv hP hS => ?_)
  obtain ⟨r, hr0, hf⟩ := hKv
  cases hr0
  refine lv_aload_n hx hb (lw_d1 76 rfl (by decide)) rfl (lv_at hl 2 rfl) ?_
  refine lv_aload_n hx hb (lw_d1 77 rfl (by decide)) rfl (lv_at hl 0 rfl) ?_
  refine lv_iload_n hx hb (lw_d1 78 rfl (by decide)) rfl (lv_at hl 3 rfl) ?_
  refine lv_iconst (v := 1) hx hb (lw_d1 79 rfl (by decide)) (by decide) ?_
  refine lv_iadd hx hb (lw_d1 80 rfl (by decide)) ?_
  refine va_sld hx hb hX hbl hbA hS h1 (lw_d1 81 rfl (by decide)) ?_
  refine lv_aload_n hx hb (lw_d1 82 rfl (by decide)) rfl (lv_at hl 0 rfl) ?_
  refine lv_iload_n hx hb (lw_d1 83 rfl (by decide)) rfl (lv_at hl 3 rfl) ?_
  refine lv_iconst (v := 2) hx hb (lw_d1 84 rfl (by decide)) (by decide) ?_
  refine lv_iadd hx hb (lw_d1 85 rfl (by decide)) ?_
  refine va_sld hx hb hX hbl hbA hS h2 (lw_d1 86 rfl (by decide)) ?_
  refine lw_call (n := 2) 20 7 [.inl (xs (x3 + 1).toNatClampNeg), .inl (xs (x3 + 2).toNatClampNeg)] [.int r] hG snX7_teach (am_lG iw_108 iw_109 iw_110 wd_459 iw_111) rfl rfl (by decide) (by decide) rfl rfl (by decide +kernel) ⟨Nat.le_of_ble_eq_true rfl, Nat.le_of_ble_eq_true rfl⟩ rfl (am_okIs [xs (x3 + 1).toNatClampNeg, xs (x3 + 2).toNatClampNeg]) (hf) am_k2 hP hS hl.1 (Nat.le_of_ble_eq_true rfl) (lw_d1 87 rfl (by decide)) (fun v τ1 H locs hKv hP hS => ?_)
  obtain ⟨hr0, hI⟩ := hKv
  cases hr0
  refine lv_icmp_eq (tgt := 1289) hx hb (lw_d1 88 rfl (by decide)) (by decide) (fun _ => kk _ _ _ hI hP hS) (fun h => absurd rfl h)
set_option maxHeartbeats 4000000 in
set_option maxRecDepth 100000 in
theorem lc_9 {p : Program} {l : Launch} {e : Env} {s : State} {m : MethodId} {below : List Frame} {meth : Method} {c : Code} {dC : Nat → ClassId} {dI : Nat → Nat → Nat} {dA : Nat → ClassId} {ad : Nat → Nat → Nat} {adV : Nat → Nat} {b L : Nat} {xs : Nat → Int32} (hG : lw_G p s m meth c dC dI dA ad adV b L xs) {x3 : Int32} (h1 : vp_in (x3 + 1) L) (h2 : vp_in (x3 + 2) L) (h3 : vp_in (x3 + 3) L) (h4 : vp_in (x3 + 4) L) {σ : am_M} (hI : Inv σ) {H : Heap} {locs : List Loc} (hP : va_P (dC, dI) vwCl (am_w ad dA σ) H) (hS : va_S (NW s.heap.size) s.heap H locs) {ls : Array Slot} (hl : lv_has ls 4 [(0, .ref b), (1, .ref (ad 0 0)), (2, .ref (ad 20 0)), (3, .int x3)]) (kk : ∀ (τ : am_M) (H1 : Heap) (locs1 : List Loc), Inv τ → va_P (dC, dI) vwCl (am_w ad dA τ) H1 → va_S (NW s.heap.size) s.heap H1 locs1 → W p l e room_1 s m #[Value.ref b] below meth c H1 locs1 600000 7302250 (lw_Z below #[Value.ref b] s) (F0 m 1289 ls [])) : W p l e room_1 s m #[Value.ref b] below meth c H locs 600000 7302250 (lw_Z below #[Value.ref b] s) (F0 m 431 ls []) := by
  obtain ⟨hx, hb, hr, hml, hown, hts, hX, hbl, hlocks, hgv⟩ := id hG.1
  have hbA : ¬ NW s.heap.size b := Nat.not_le.mpr hbl
  refine lv_aload_n hx hb (lw_d1 91 rfl (by decide)) rfl (lv_at hl 1 rfl) ?_
  refine lv_aload_n hx hb (lw_d1 92 rfl (by decide)) rfl (lv_at hl 0 rfl) ?_
  refine lv_iload_n hx hb (lw_d1 93 rfl (by decide)) rfl (lv_at hl 3 rfl) ?_
  refine lv_iconst (v := 1) hx hb (lw_d1 94 rfl (by decide)) (by decide) ?_
  refine lv_iadd hx hb (lw_d1 95 rfl (by decide)) ?_
  refine va_sld hx hb hX hbl hbA hS h1 (lw_d1 96 rfl (by decide)) ?_
  refine lv_aload_n hx hb (lw_d1 97 rfl (by decide)) rfl (lv_at hl 0 rfl) ?_
  refine lv_iload_n hx hb (lw_d1 98 rfl (by decide)) rfl (lv_at hl 3 rfl) ?_
  refine lv_iconst (v := 2) hx hb (lw_d1 99 rfl (by decide)) (by decide) ?_
  refine lv_iadd hx hb (lw_d2 0 rfl (by decide)) ?_
  refine va_sld hx hb hX hbl hbA hS h2 (lw_d2 1 rfl (by decide)) ?_
  refine lw_call (n := 2) 0 6 [.inl (xs (x3 + 1).toNatClampNeg), .inl (xs (x3 + 2).toNatClampNeg)] [] hG snX6_calm (am_lG iw_112 iw_113 iw_114 wd_162 iw_115) rfl rfl (by decide) (by decide) rfl rfl (by decide +kernel) ⟨Nat.le_of_ble_eq_true rfl, Nat.le_of_ble_eq_true rfl⟩ rfl (am_okIs [xs (x3 + 1).toNatClampNeg, xs (x3 + 2).toNatClampNeg]) (pr_calm hI) am_k1 hP hS hl.1 (Nat.le_of_ble_eq_true rfl) (lw_d2 2 rfl (by decide)) (fun v τ0 H locs hKv hP hS => ?_)
  obtain ⟨r, hr0, hf⟩ := hKv
  cases hr0
  refine lv_aload_n hx hb (lw_d2 3 rfl (by decide)) rfl (lv_at hl 2 rfl) ?_
  refine lv_aload_n hx hb (lw_d2 4 rfl (by decide)) rfl (lv_at hl 0 rfl) ?_
  refine lv_iload_n hx hb (lw_d2 5 rfl (by decide)) rfl (lv_at hl 3 rfl) ?_
  refine lv_iconst (v := 1) hx hb (lw_d2 6 rfl (by decide)) (by decide) ?_
  refine lv_iadd hx hb (lw_d2 7 rfl (by decide)) ?_
  refine va_sld hx hb hX hbl hbA hS h1 (lw_d2 8 rfl (by decide)) ?_
  refine lv_aload_n hx hb (lw_d2 9 rfl (by decide)) rfl (lv_at hl 0 rfl) ?_
  refine lv_iload_n hx hb (lw_d2 10 rfl (by decide)) rfl (lv_at hl 3 rfl) ?_
  refine lv_iconst (v := 2) hx hb (lw_d2 11 rfl (by decide)) (by decide) ?_
  refine lv_iadd hx hb (lw_d2 12 rfl (by decide)) ?_
  refine va_sld hx hb hX hbl hbA hS h2 (lw_d2 13 rfl (by decide)) ?_
  refine lw_call (n := 2) 20 7 [.inl (xs (x3 + 1).toNatClampNeg), .inl (xs (x3 + 2).toNatClampNeg)] [.int r] hG snX7_calm (am_lG iw_116 iw_117 iw_118 wd_459 iw_119) rfl rfl (by decide) (by decide) rfl rfl (by decide +kernel) ⟨Nat.le_of_ble_eq_true rfl, Nat.le_of_ble_eq_true rfl⟩ rfl (am_okIs [xs (x3 + 1).toNatClampNeg, xs (x3 + 2).toNatClampNeg]) (hf) am_k2 hP hS hl.1 (Nat.le_of_ble_eq_true rfl) (lw_d2 14 rfl (by decide)) (fun v τ1 H locs hKv hP hS => ?_)
  obtain ⟨hr0, hI⟩ := hKv
  cases hr0
  refine lv_icmp_eq (tgt := 1289) hx hb (lw_d2 15 rfl (by decide)) (by decide) (fun _ => kk _ _ _ hI hP hS) (fun h => absurd rfl h)
set_option maxHeartbeats 4000000 in
set_option maxRecDepth 100000 in
theorem lc_10 {p : Program} {l : Launch} {e : Env} {s : State} {m : MethodId} {below : List Frame} {meth : Method} {c : Code} {dC : Nat → ClassId} {dI : Nat → Nat → Nat} {dA : Nat → ClassId} {ad : Nat → Nat → Nat} {adV : Nat → Nat} {b L : Nat} {xs : Nat → Int32} (hG : lw_G p s m meth c dC dI dA ad adV b L xs) {x3 : Int32} (h1 : vp_in (x3 + 1) L) (h2 : vp_in (x3 + 2) L) (h3 : vp_in (x3 + 3) L) (h4 : vp_in (x3 + 4) L) {σ : am_M} (hI : Inv σ) {H : Heap} {locs : List Loc} (hP : va_P (dC, dI) vwCl (am_w ad dA σ) H) (hS : va_S (NW s.heap.size) s.heap H locs) {ls : Array Slot} (hl : lv_has ls 4 [(0, .ref b), (1, .ref (ad 0 0)), (2, .ref (ad 20 0)), (3, .int x3)]) (kk : ∀ (τ : am_M) (H1 : Heap) (locs1 : List Loc), Inv τ → va_P (dC, dI) vwCl (am_w ad dA τ) H1 → va_S (NW s.heap.size) s.heap H1 locs1 → W p l e room_1 s m #[Value.ref b] below meth c H1 locs1 600000 7302250 (lw_Z below #[Value.ref b] s) (F0 m 1289 ls [])) : W p l e room_1 s m #[Value.ref b] below meth c H locs 600000 7302250 (lw_Z below #[Value.ref b] s) (F0 m 464 ls []) := by
  obtain ⟨hx, hb, hr, hml, hown, hts, hX, hbl, hlocks, hgv⟩ := id hG.1
  have hbA : ¬ NW s.heap.size b := Nat.not_le.mpr hbl
  refine lv_aload_n hx hb (lw_d2 18 rfl (by decide)) rfl (lv_at hl 1 rfl) ?_
  refine lv_aload_n hx hb (lw_d2 19 rfl (by decide)) rfl (lv_at hl 0 rfl) ?_
  refine lv_iload_n hx hb (lw_d2 20 rfl (by decide)) rfl (lv_at hl 3 rfl) ?_
  refine lv_iconst (v := 1) hx hb (lw_d2 21 rfl (by decide)) (by decide) ?_
  refine lv_iadd hx hb (lw_d2 22 rfl (by decide)) ?_
  refine va_sld hx hb hX hbl hbA hS h1 (lw_d2 23 rfl (by decide)) ?_
  refine lw_call (n := 1) 0 6 [.inl (xs (x3 + 1).toNatClampNeg)] [] hG snX6_seats (am_lG iw_120 iw_121 iw_122 wd_162 iw_123) rfl rfl (by decide) (by decide) rfl rfl (by decide +kernel) ⟨Nat.le_of_ble_eq_true rfl, Nat.le_of_ble_eq_true rfl⟩ rfl (am_okIs [xs (x3 + 1).toNatClampNeg]) (pr_seats hI) am_k1 hP hS hl.1 (Nat.le_of_ble_eq_true rfl) (lw_d2 24 rfl (by decide)) (fun v τ0 H locs hKv hP hS => ?_)
  obtain ⟨r, hr0, hf⟩ := hKv
  cases hr0
  refine lv_aload_n hx hb (lw_d2 25 rfl (by decide)) rfl (lv_at hl 2 rfl) ?_
  refine lv_aload_n hx hb (lw_d2 26 rfl (by decide)) rfl (lv_at hl 0 rfl) ?_
  refine lv_iload_n hx hb (lw_d2 27 rfl (by decide)) rfl (lv_at hl 3 rfl) ?_
  refine lv_iconst (v := 1) hx hb (lw_d2 28 rfl (by decide)) (by decide) ?_
  refine lv_iadd hx hb (lw_d2 29 rfl (by decide)) ?_
  refine va_sld hx hb hX hbl hbA hS h1 (lw_d2 30 rfl (by decide)) ?_
  refine lw_call (n := 1) 20 7 [.inl (xs (x3 + 1).toNatClampNeg)] [.int r] hG snX7_seats (am_lG iw_124 iw_125 iw_126 wd_459 iw_127) rfl rfl (by decide) (by decide) rfl rfl (by decide +kernel) ⟨Nat.le_of_ble_eq_true rfl, Nat.le_of_ble_eq_true rfl⟩ rfl (am_okIs [xs (x3 + 1).toNatClampNeg]) (hf) am_k2 hP hS hl.1 (Nat.le_of_ble_eq_true rfl) (lw_d2 31 rfl (by decide)) (fun v τ1 H locs hKv hP hS => ?_)
  obtain ⟨hr0, hI⟩ := hKv
  cases hr0
  refine lv_icmp_eq (tgt := 1289) hx hb (lw_d2 32 rfl (by decide)) (by decide) (fun _ => kk _ _ _ hI hP hS) (fun h => absurd rfl h)
set_option maxHeartbeats 4000000 in
set_option maxRecDepth 100000 in
theorem lc_11 {p : Program} {l : Launch} {e : Env} {s : State} {m : MethodId} {below : List Frame} {meth : Method} {c : Code} {dC : Nat → ClassId} {dI : Nat → Nat → Nat} {dA : Nat → ClassId} {ad : Nat → Nat → Nat} {adV : Nat → Nat} {b L : Nat} {xs : Nat → Int32} (hG : lw_G p s m meth c dC dI dA ad adV b L xs) {x3 : Int32} (h1 : vp_in (x3 + 1) L) (h2 : vp_in (x3 + 2) L) (h3 : vp_in (x3 + 3) L) (h4 : vp_in (x3 + 4) L) {σ : am_M} (hI : Inv σ) {H : Heap} {locs : List Loc} (hP : va_P (dC, dI) vwCl (am_w ad dA σ) H) (hS : va_S (NW s.heap.size) s.heap H locs) {ls : Array Slot} (hl : lv_has ls 4 [(0, .ref b), (1, .ref (ad 0 0)), (2, .ref (ad 20 0)), (3, .int x3)]) (kk : ∀ (τ : am_M) (H1 : Heap) (locs1 : List Loc), Inv τ → va_P (dC, dI) vwCl (am_w ad dA τ) H1 → va_S (NW s.heap.size) s.heap H1 locs1 → W p l e room_1 s m #[Value.ref b] below meth c H1 locs1 600000 7302250 (lw_Z below #[Value.ref b] s) (F0 m 1289 ls [])) : W p l e room_1 s m #[Value.ref b] below meth c H locs 600000 7302250 (lw_Z below #[Value.ref b] s) (F0 m 487 ls []) := by
  obtain ⟨hx, hb, hr, hml, hown, hts, hX, hbl, hlocks, hgv⟩ := id hG.1
  have hbA : ¬ NW s.heap.size b := Nat.not_le.mpr hbl
  refine lv_aload_n hx hb (lw_d2 35 rfl (by decide)) rfl (lv_at hl 1 rfl) ?_
  refine lv_aload_n hx hb (lw_d2 36 rfl (by decide)) rfl (lv_at hl 0 rfl) ?_
  refine lv_iload_n hx hb (lw_d2 37 rfl (by decide)) rfl (lv_at hl 3 rfl) ?_
  refine lv_iconst (v := 1) hx hb (lw_d2 38 rfl (by decide)) (by decide) ?_
  refine lv_iadd hx hb (lw_d2 39 rfl (by decide)) ?_
  refine va_sld hx hb hX hbl hbA hS h1 (lw_d2 40 rfl (by decide)) ?_
  refine lv_aload_n hx hb (lw_d2 41 rfl (by decide)) rfl (lv_at hl 0 rfl) ?_
  refine lv_iload_n hx hb (lw_d2 42 rfl (by decide)) rfl (lv_at hl 3 rfl) ?_
  refine lv_iconst (v := 2) hx hb (lw_d2 43 rfl (by decide)) (by decide) ?_
  refine lv_iadd hx hb (lw_d2 44 rfl (by decide)) ?_
  refine va_sld hx hb hX hbl hbA hS h2 (lw_d2 45 rfl (by decide)) ?_
  refine lw_call (n := 2) 0 6 [.inl (xs (x3 + 1).toNatClampNeg), .inl (xs (x3 + 2).toNatClampNeg)] [] hG snX6_price (am_lG iw_128 iw_129 iw_130 wd_162 iw_131) rfl rfl (by decide) (by decide) rfl rfl (by decide +kernel) ⟨Nat.le_of_ble_eq_true rfl, Nat.le_of_ble_eq_true rfl⟩ rfl (am_okIs [xs (x3 + 1).toNatClampNeg, xs (x3 + 2).toNatClampNeg]) (pr_price hI) am_k1 hP hS hl.1 (Nat.le_of_ble_eq_true rfl) (lw_d2 46 rfl (by decide)) (fun v τ0 H locs hKv hP hS => ?_)
  obtain ⟨r, hr0, hf⟩ := hKv
  cases hr0
  refine lv_aload_n hx hb (lw_d2 47 rfl (by decide)) rfl (lv_at hl 2 rfl) ?_
  refine lv_aload_n hx hb (lw_d2 48 rfl (by decide)) rfl (lv_at hl 0 rfl) ?_
  refine lv_iload_n hx hb (lw_d2 49 rfl (by decide)) rfl (lv_at hl 3 rfl) ?_
  refine lv_iconst (v := 1) hx hb (lw_d2 50 rfl (by decide)) (by decide) ?_
  refine lv_iadd hx hb (lw_d2 51 rfl (by decide)) ?_
  refine va_sld hx hb hX hbl hbA hS h1 (lw_d2 52 rfl (by decide)) ?_
  refine lv_aload_n hx hb (lw_d2 53 rfl (by decide)) rfl (lv_at hl 0 rfl) ?_
  refine lv_iload_n hx hb (lw_d2 54 rfl (by decide)) rfl (lv_at hl 3 rfl) ?_
  refine lv_iconst (v := 2) hx hb (lw_d2 55 rfl (by decide)) (by decide) ?_
  refine lv_iadd hx hb (lw_d2 56 rfl (by decide)) ?_
  refine va_sld hx hb hX hbl hbA hS h2 (lw_d2 57 rfl (by decide)) ?_
  refine lw_call (n := 2) 20 7 [.inl (xs (x3 + 1).toNatClampNeg), .inl (xs (x3 + 2).toNatClampNeg)] [.int r] hG snX7_price (am_lG iw_132 iw_133 iw_134 wd_459 iw_135) rfl rfl (by decide) (by decide) rfl rfl (by decide +kernel) ⟨Nat.le_of_ble_eq_true rfl, Nat.le_of_ble_eq_true rfl⟩ rfl (am_okIs [xs (x3 + 1).toNatClampNeg, xs (x3 + 2).toNatClampNeg]) (hf) am_k2 hP hS hl.1 (Nat.le_of_ble_eq_true rfl) (lw_d2 58 rfl (by decide)) (fun v τ1 H locs hKv hP hS => ?_)
  obtain ⟨hr0, hI⟩ := hKv
  cases hr0
  refine lv_icmp_eq (tgt := 1289) hx hb (lw_d2 59 rfl (by decide)) (by decide) (fun _ => kk _ _ _ hI hP hS) (fun h => absurd rfl h)
set_option maxHeartbeats 4000000 in
set_option maxRecDepth 100000 in
theorem lc_12 {p : Program} {l : Launch} {e : Env} {s : State} {m : MethodId} {below : List Frame} {meth : Method} {c : Code} {dC : Nat → ClassId} {dI : Nat → Nat → Nat} {dA : Nat → ClassId} {ad : Nat → Nat → Nat} {adV : Nat → Nat} {b L : Nat} {xs : Nat → Int32} (hG : lw_G p s m meth c dC dI dA ad adV b L xs) {x3 : Int32} (h1 : vp_in (x3 + 1) L) (h2 : vp_in (x3 + 2) L) (h3 : vp_in (x3 + 3) L) (h4 : vp_in (x3 + 4) L) {σ : am_M} (hI : Inv σ) {H : Heap} {locs : List Loc} (hP : va_P (dC, dI) vwCl (am_w ad dA σ) H) (hS : va_S (NW s.heap.size) s.heap H locs) {ls : Array Slot} (hl : lv_has ls 4 [(0, .ref b), (1, .ref (ad 0 0)), (2, .ref (ad 20 0)), (3, .int x3)]) (kk : ∀ (τ : am_M) (H1 : Heap) (locs1 : List Loc), Inv τ → va_P (dC, dI) vwCl (am_w ad dA τ) H1 → va_S (NW s.heap.size) s.heap H1 locs1 → W p l e room_1 s m #[Value.ref b] below meth c H1 locs1 600000 7302250 (lw_Z below #[Value.ref b] s) (F0 m 1289 ls [])) : W p l e room_1 s m #[Value.ref b] below meth c H locs 600000 7302250 (lw_Z below #[Value.ref b] s) (F0 m 520 ls []) := by
  obtain ⟨hx, hb, hr, hml, hown, hts, hX, hbl, hlocks, hgv⟩ := id hG.1
  have hbA : ¬ NW s.heap.size b := Nat.not_le.mpr hbl
  refine lv_aload_n hx hb (lw_d2 62 rfl (by decide)) rfl (lv_at hl 1 rfl) ?_
  refine lv_aload_n hx hb (lw_d2 63 rfl (by decide)) rfl (lv_at hl 0 rfl) ?_
  refine lv_iload_n hx hb (lw_d2 64 rfl (by decide)) rfl (lv_at hl 3 rfl) ?_
  refine lv_iconst (v := 1) hx hb (lw_d2 65 rfl (by decide)) (by decide) ?_
  refine lv_iadd hx hb (lw_d2 66 rfl (by decide)) ?_
  refine va_sld hx hb hX hbl hbA hS h1 (lw_d2 67 rfl (by decide)) ?_
  refine lw_call (n := 1) 0 6 [.inl (xs (x3 + 1).toNatClampNeg)] [] hG snX6_come (am_lG iw_136 iw_137 iw_138 wd_162 iw_139) rfl rfl (by decide) (by decide) rfl rfl (by decide +kernel) ⟨Nat.le_of_ble_eq_true rfl, Nat.le_of_ble_eq_true rfl⟩ rfl (am_okIs [xs (x3 + 1).toNatClampNeg]) (pr_come hI) am_k1 hP hS hl.1 (Nat.le_of_ble_eq_true rfl) (lw_d2 68 rfl (by decide)) (fun v τ0 H locs hKv hP hS => ?_)
  obtain ⟨r, hr0, hf⟩ := hKv
  cases hr0
  refine lv_aload_n hx hb (lw_d2 69 rfl (by decide)) rfl (lv_at hl 2 rfl) ?_
  refine lv_aload_n hx hb (lw_d2 70 rfl (by decide)) rfl (lv_at hl 0 rfl) ?_
  refine lv_iload_n hx hb (lw_d2 71 rfl (by decide)) rfl (lv_at hl 3 rfl) ?_
  refine lv_iconst (v := 1) hx hb (lw_d2 72 rfl (by decide)) (by decide) ?_
  refine lv_iadd hx hb (lw_d2 73 rfl (by decide)) ?_
  refine va_sld hx hb hX hbl hbA hS h1 (lw_d2 74 rfl (by decide)) ?_
  refine lw_call (n := 1) 20 7 [.inl (xs (x3 + 1).toNatClampNeg)] [.int r] hG snX7_come (am_lG iw_140 iw_141 iw_142 wd_459 iw_143) rfl rfl (by decide) (by decide) rfl rfl (by decide +kernel) ⟨Nat.le_of_ble_eq_true rfl, Nat.le_of_ble_eq_true rfl⟩ rfl (am_okIs [xs (x3 + 1).toNatClampNeg]) (hf) am_k2 hP hS hl.1 (Nat.le_of_ble_eq_true rfl) (lw_d2 75 rfl (by decide)) (fun v τ1 H locs hKv hP hS => ?_)
  obtain ⟨hr0, hI⟩ := hKv
  cases hr0
  refine lv_icmp_eq (tgt := 1289) hx hb (lw_d2 76 rfl (by decide)) (by decide) (fun _ => kk _ _ _ hI hP hS) (fun h => absurd rfl h)
set_option maxHeartbeats 4000000 in
set_option maxRecDepth 100000 in
theorem lc_13 {p : Program} {l : Launch} {e : Env} {s : State} {m : MethodId} {below : List Frame} {meth : Method} {c : Code} {dC : Nat → ClassId} {dI : Nat → Nat → Nat} {dA : Nat → ClassId} {ad : Nat → Nat → Nat} {adV : Nat → Nat} {b L : Nat} {xs : Nat → Int32} (hG : lw_G p s m meth c dC dI dA ad adV b L xs) {x3 : Int32} (h1 : vp_in (x3 + 1) L) (h2 : vp_in (x3 + 2) L) (h3 : vp_in (x3 + 3) L) (h4 : vp_in (x3 + 4) L) {σ : am_M} (hI : Inv σ) {H : Heap} {locs : List Loc} (hP : va_P (dC, dI) vwCl (am_w ad dA σ) H) (hS : va_S (NW s.heap.size) s.heap H locs) {ls : Array Slot} (hl : lv_has ls 4 [(0, .ref b), (1, .ref (ad 0 0)), (2, .ref (ad 20 0)), (3, .int x3)]) (kk : ∀ (τ : am_M) (H1 : Heap) (locs1 : List Loc), Inv τ → va_P (dC, dI) vwCl (am_w ad dA τ) H1 → va_S (NW s.heap.size) s.heap H1 locs1 → W p l e room_1 s m #[Value.ref b] below meth c H1 locs1 600000 7302250 (lw_Z below #[Value.ref b] s) (F0 m 1289 ls [])) : W p l e room_1 s m #[Value.ref b] below meth c H locs 600000 7302250 (lw_Z below #[Value.ref b] s) (F0 m 543 ls []) := by
  obtain ⟨hx, hb, hr, hml, hown, hts, hX, hbl, hlocks, hgv⟩ := id hG.1
  have hbA : ¬ NW s.heap.size b := Nat.not_le.mpr hbl
  refine lv_aload_n hx hb (lw_d2 79 rfl (by decide)) rfl (lv_at hl 1 rfl) ?_
  refine lv_aload_n hx hb (lw_d2 80 rfl (by decide)) rfl (lv_at hl 0 rfl) ?_
  refine lv_iload_n hx hb (lw_d2 81 rfl (by decide)) rfl (lv_at hl 3 rfl) ?_
  refine lv_iconst (v := 1) hx hb (lw_d2 82 rfl (by decide)) (by decide) ?_
  refine lv_iadd hx hb (lw_d2 83 rfl (by decide)) ?_
  refine va_sld hx hb hX hbl hbA hS h1 (lw_d2 84 rfl (by decide)) ?_
  refine lw_call (n := 1) 0 6 [.inl (xs (x3 + 1).toNatClampNeg)] [] hG snX6_leave (am_lG iw_144 iw_145 iw_146 wd_162 iw_147) rfl rfl (by decide) (by decide) rfl rfl (by decide +kernel) ⟨Nat.le_of_ble_eq_true rfl, Nat.le_of_ble_eq_true rfl⟩ rfl (am_okIs [xs (x3 + 1).toNatClampNeg]) (pr_leave hI) am_k1 hP hS hl.1 (Nat.le_of_ble_eq_true rfl) (lw_d2 85 rfl (by decide)) (fun v τ0 H locs hKv hP hS => ?_)
  obtain ⟨r, hr0, hf⟩ := hKv
  cases hr0
  refine lv_aload_n hx hb (lw_d2 86 rfl (by decide)) rfl (lv_at hl 2 rfl) ?_
  refine lv_aload_n hx hb (lw_d2 87 rfl (by decide)) rfl (lv_at hl 0 rfl) ?_
  refine lv_iload_n hx hb (lw_d2 88 rfl (by decide)) rfl (lv_at hl 3 rfl) ?_
  refine lv_iconst (v := 1) hx hb (lw_d2 89 rfl (by decide)) (by decide) ?_
  refine lv_iadd hx hb (lw_d2 90 rfl (by decide)) ?_
  refine va_sld hx hb hX hbl hbA hS h1 (lw_d2 91 rfl (by decide)) ?_
  refine lw_call (n := 1) 20 7 [.inl (xs (x3 + 1).toNatClampNeg)] [.int r] hG snX7_leave (am_lG iw_148 iw_149 iw_150 wd_459 iw_151) rfl rfl (by decide) (by decide) rfl rfl (by decide +kernel) ⟨Nat.le_of_ble_eq_true rfl, Nat.le_of_ble_eq_true rfl⟩ rfl (am_okIs [xs (x3 + 1).toNatClampNeg]) (hf) am_k2 hP hS hl.1 (Nat.le_of_ble_eq_true rfl) (lw_d2 92 rfl (by decide)) (fun v τ1 H locs hKv hP hS => ?_)
  obtain ⟨hr0, hI⟩ := hKv
  cases hr0
  refine lv_icmp_eq (tgt := 1289) hx hb (lw_d2 93 rfl (by decide)) (by decide) (fun _ => kk _ _ _ hI hP hS) (fun h => absurd rfl h)
set_option maxHeartbeats 4000000 in
set_option maxRecDepth 100000 in
theorem lc_14 {p : Program} {l : Launch} {e : Env} {s : State} {m : MethodId} {below : List Frame} {meth : Method} {c : Code} {dC : Nat → ClassId} {dI : Nat → Nat → Nat} {dA : Nat → ClassId} {ad : Nat → Nat → Nat} {adV : Nat → Nat} {b L : Nat} {xs : Nat → Int32} (hG : lw_G p s m meth c dC dI dA ad adV b L xs) {x3 : Int32} (h1 : vp_in (x3 + 1) L) (h2 : vp_in (x3 + 2) L) (h3 : vp_in (x3 + 3) L) (h4 : vp_in (x3 + 4) L) {σ : am_M} (hI : Inv σ) {H : Heap} {locs : List Loc} (hP : va_P (dC, dI) vwCl (am_w ad dA σ) H) (hS : va_S (NW s.heap.size) s.heap H locs) {ls : Array Slot} (hl : lv_has ls 4 [(0, .ref b), (1, .ref (ad 0 0)), (2, .ref (ad 20 0)), (3, .int x3)]) (kk : ∀ (τ : am_M) (H1 : Heap) (locs1 : List Loc), Inv τ → va_P (dC, dI) vwCl (am_w ad dA τ) H1 → va_S (NW s.heap.size) s.heap H1 locs1 → W p l e room_1 s m #[Value.ref b] below meth c H1 locs1 600000 7302250 (lw_Z below #[Value.ref b] s) (F0 m 1289 ls [])) : W p l e room_1 s m #[Value.ref b] below meth c H locs 600000 7302250 (lw_Z below #[Value.ref b] s) (F0 m 566 ls []) := by
  obtain ⟨hx, hb, hr, hml, hown, hts, hX, hbl, hlocks, hgv⟩ := id hG.1
  have hbA : ¬ NW s.heap.size b := Nat.not_le.mpr hbl
  refine lv_aload_n hx hb (lw_d2 96 rfl (by decide)) rfl (lv_at hl 1 rfl) ?_
  refine lv_aload_n hx hb (lw_d2 97 rfl (by decide)) rfl (lv_at hl 0 rfl) ?_
  refine lv_iload_n hx hb (lw_d2 98 rfl (by decide)) rfl (lv_at hl 3 rfl) ?_
  refine lv_iconst (v := 1) hx hb (lw_d2 99 rfl (by decide)) (by decide) ?_
  refine lv_iadd hx hb (lw_d3 0 rfl (by decide)) ?_
  refine va_sld hx hb hX hbl hbA hS h1 (lw_d3 1 rfl (by decide)) ?_
  refine lw_call (n := 1) 0 6 [.inl (xs (x3 + 1).toNatClampNeg)] [] hG snX6_board (am_lG iw_152 iw_153 iw_154 wd_162 iw_155) rfl rfl (by decide) (by decide) rfl rfl (by decide +kernel) ⟨Nat.le_of_ble_eq_true rfl, Nat.le_of_ble_eq_true rfl⟩ rfl (am_okIs [xs (x3 + 1).toNatClampNeg]) (pr_board hI) am_k1 hP hS hl.1 (Nat.le_of_ble_eq_true rfl) (lw_d3 2 rfl (by decide)) (fun v τ0 H locs hKv hP hS => ?_)
  obtain ⟨r, hr0, hf⟩ := hKv
  cases hr0
  refine lv_aload_n hx hb (lw_d3 3 rfl (by decide)) rfl (lv_at hl 2 rfl) ?_
  refine lv_aload_n hx hb (lw_d3 4 rfl (by decide)) rfl (lv_at hl 0 rfl) ?_
  refine lv_iload_n hx hb (lw_d3 5 rfl (by decide)) rfl (lv_at hl 3 rfl) ?_
  refine lv_iconst (v := 1) hx hb (lw_d3 6 rfl (by decide)) (by decide) ?_
  refine lv_iadd hx hb (lw_d3 7 rfl (by decide)) ?_
  refine va_sld hx hb hX hbl hbA hS h1 (lw_d3 8 rfl (by decide)) ?_
  refine lw_call (n := 1) 20 7 [.inl (xs (x3 + 1).toNatClampNeg)] [.int r] hG snX7_board (am_lG iw_156 iw_157 iw_158 wd_459 iw_159) rfl rfl (by decide) (by decide) rfl rfl (by decide +kernel) ⟨Nat.le_of_ble_eq_true rfl, Nat.le_of_ble_eq_true rfl⟩ rfl (am_okIs [xs (x3 + 1).toNatClampNeg]) (hf) am_k2 hP hS hl.1 (Nat.le_of_ble_eq_true rfl) (lw_d3 9 rfl (by decide)) (fun v τ1 H locs hKv hP hS => ?_)
  obtain ⟨hr0, hI⟩ := hKv
  cases hr0
  refine lv_icmp_eq (tgt := 1289) hx hb (lw_d3 10 rfl (by decide)) (by decide) (fun _ => kk _ _ _ hI hP hS) (fun h => absurd rfl h)
set_option maxHeartbeats 4000000 in
set_option maxRecDepth 100000 in
theorem lc_15 {p : Program} {l : Launch} {e : Env} {s : State} {m : MethodId} {below : List Frame} {meth : Method} {c : Code} {dC : Nat → ClassId} {dI : Nat → Nat → Nat} {dA : Nat → ClassId} {ad : Nat → Nat → Nat} {adV : Nat → Nat} {b L : Nat} {xs : Nat → Int32} (hG : lw_G p s m meth c dC dI dA ad adV b L xs) {x3 : Int32} (h1 : vp_in (x3 + 1) L) (h2 : vp_in (x3 + 2) L) (h3 : vp_in (x3 + 3) L) (h4 : vp_in (x3 + 4) L) {σ : am_M} (hI : Inv σ) {H : Heap} {locs : List Loc} (hP : va_P (dC, dI) vwCl (am_w ad dA σ) H) (hS : va_S (NW s.heap.size) s.heap H locs) {ls : Array Slot} (hl : lv_has ls 4 [(0, .ref b), (1, .ref (ad 0 0)), (2, .ref (ad 20 0)), (3, .int x3)]) (kk : ∀ (τ : am_M) (H1 : Heap) (locs1 : List Loc), Inv τ → va_P (dC, dI) vwCl (am_w ad dA τ) H1 → va_S (NW s.heap.size) s.heap H1 locs1 → W p l e room_1 s m #[Value.ref b] below meth c H1 locs1 600000 7302250 (lw_Z below #[Value.ref b] s) (F0 m 1289 ls [])) : W p l e room_1 s m #[Value.ref b] below meth c H locs 600000 7302250 (lw_Z below #[Value.ref b] s) (F0 m 589 ls []) := by
  obtain ⟨hx, hb, hr, hml, hown, hts, hX, hbl, hlocks, hgv⟩ := id hG.1
  have hbA : ¬ NW s.heap.size b := Nat.not_le.mpr hbl
  refine lv_aload_n hx hb (lw_d3 13 rfl (by decide)) rfl (lv_at hl 1 rfl) ?_
  refine lv_aload_n hx hb (lw_d3 14 rfl (by decide)) rfl (lv_at hl 0 rfl) ?_
  refine lv_iload_n hx hb (lw_d3 15 rfl (by decide)) rfl (lv_at hl 3 rfl) ?_
  refine lv_iconst (v := 1) hx hb (lw_d3 16 rfl (by decide)) (by decide) ?_
  refine lv_iadd hx hb (lw_d3 17 rfl (by decide)) ?_
  refine va_sld hx hb hX hbl hbA hS h1 (lw_d3 18 rfl (by decide)) ?_
  refine lw_call (n := 1) 0 6 [.inl (xs (x3 + 1).toNatClampNeg)] [] hG snX6_go (am_lG iw_160 iw_161 iw_162 wd_162 iw_163) rfl rfl (by decide) (by decide) rfl rfl (by decide +kernel) ⟨Nat.le_of_ble_eq_true rfl, Nat.le_of_ble_eq_true rfl⟩ rfl (am_okIs [xs (x3 + 1).toNatClampNeg]) (pr_go hI) am_k1 hP hS hl.1 (Nat.le_of_ble_eq_true rfl) (lw_d3 19 rfl (by decide)) (fun v τ0 H locs hKv hP hS => ?_)
  obtain ⟨r, hr0, hf⟩ := hKv
  cases hr0
  refine lv_aload_n hx hb (lw_d3 20 rfl (by decide)) rfl (lv_at hl 2 rfl) ?_
  refine lv_aload_n hx hb (lw_d3 21 rfl (by decide)) rfl (lv_at hl 0 rfl) ?_
  refine lv_iload_n hx hb (lw_d3 22 rfl (by decide)) rfl (lv_at hl 3 rfl) ?_
  refine lv_iconst (v := 1) hx hb (lw_d3 23 rfl (by decide)) (by decide) ?_
  refine lv_iadd hx hb (lw_d3 24 rfl (by decide)) ?_
  refine va_sld hx hb hX hbl hbA hS h1 (lw_d3 25 rfl (by decide)) ?_
  refine lw_call (n := 1) 20 7 [.inl (xs (x3 + 1).toNatClampNeg)] [.int r] hG snX7_go (am_lG iw_164 iw_165 iw_166 wd_459 iw_167) rfl rfl (by decide) (by decide) rfl rfl (by decide +kernel) ⟨Nat.le_of_ble_eq_true rfl, Nat.le_of_ble_eq_true rfl⟩ rfl (am_okIs [xs (x3 + 1).toNatClampNeg]) (hf) am_k2 hP hS hl.1 (Nat.le_of_ble_eq_true rfl) (lw_d3 26 rfl (by decide)) (fun v τ1 H locs hKv hP hS => ?_)
  obtain ⟨hr0, hI⟩ := hKv
  cases hr0
  refine lv_icmp_eq (tgt := 1289) hx hb (lw_d3 27 rfl (by decide)) (by decide) (fun _ => kk _ _ _ hI hP hS) (fun h => absurd rfl h)
set_option maxHeartbeats 4000000 in
set_option maxRecDepth 100000 in
theorem lc_16 {p : Program} {l : Launch} {e : Env} {s : State} {m : MethodId} {below : List Frame} {meth : Method} {c : Code} {dC : Nat → ClassId} {dI : Nat → Nat → Nat} {dA : Nat → ClassId} {ad : Nat → Nat → Nat} {adV : Nat → Nat} {b L : Nat} {xs : Nat → Int32} (hG : lw_G p s m meth c dC dI dA ad adV b L xs) {x3 : Int32} (h1 : vp_in (x3 + 1) L) (h2 : vp_in (x3 + 2) L) (h3 : vp_in (x3 + 3) L) (h4 : vp_in (x3 + 4) L) {σ : am_M} (hI : Inv σ) {H : Heap} {locs : List Loc} (hP : va_P (dC, dI) vwCl (am_w ad dA σ) H) (hS : va_S (NW s.heap.size) s.heap H locs) {ls : Array Slot} (hl : lv_has ls 4 [(0, .ref b), (1, .ref (ad 0 0)), (2, .ref (ad 20 0)), (3, .int x3)]) (kk : ∀ (τ : am_M) (H1 : Heap) (locs1 : List Loc), Inv τ → va_P (dC, dI) vwCl (am_w ad dA τ) H1 → va_S (NW s.heap.size) s.heap H1 locs1 → W p l e room_1 s m #[Value.ref b] below meth c H1 locs1 600000 7302250 (lw_Z below #[Value.ref b] s) (F0 m 1289 ls [])) : W p l e room_1 s m #[Value.ref b] below meth c H locs 600000 7302250 (lw_Z below #[Value.ref b] s) (F0 m 612 ls []) := by
  obtain ⟨hx, hb, hr, hml, hown, hts, hX, hbl, hlocks, hgv⟩ := id hG.1
  have hbA : ¬ NW s.heap.size b := Nat.not_le.mpr hbl
  refine lv_aload_n hx hb (lw_d3 30 rfl (by decide)) rfl (lv_at hl 1 rfl) ?_
  refine lv_aload_n hx hb (lw_d3 31 rfl (by decide)) rfl (lv_at hl 0 rfl) ?_
  refine lv_iload_n hx hb (lw_d3 32 rfl (by decide)) rfl (lv_at hl 3 rfl) ?_
  refine lv_iconst (v := 1) hx hb (lw_d3 33 rfl (by decide)) (by decide) ?_
  refine lv_iadd hx hb (lw_d3 34 rfl (by decide)) ?_
  refine va_sld hx hb hX hbl hbA hS h1 (lw_d3 35 rfl (by decide)) ?_
  refine lv_aload_n hx hb (lw_d3 36 rfl (by decide)) rfl (lv_at hl 0 rfl) ?_
  refine lv_iload_n hx hb (lw_d3 37 rfl (by decide)) rfl (lv_at hl 3 rfl) ?_
  refine lv_iconst (v := 2) hx hb (lw_d3 38 rfl (by decide)) (by decide) ?_
  refine lv_iadd hx hb (lw_d3 39 rfl (by decide)) ?_
  refine va_sld hx hb hX hbl hbA hS h2 (lw_d3 40 rfl (by decide)) ?_
  refine lw_call (n := 2) 0 6 [.inl (xs (x3 + 1).toNatClampNeg), .inl (xs (x3 + 2).toNatClampNeg)] [] hG snX6_ahead (am_lG iw_168 iw_169 iw_170 wd_162 iw_171) rfl rfl (by decide) (by decide) rfl rfl (by decide +kernel) ⟨Nat.le_of_ble_eq_true rfl, Nat.le_of_ble_eq_true rfl⟩ rfl (am_okIs [xs (x3 + 1).toNatClampNeg, xs (x3 + 2).toNatClampNeg]) (pr_ahead hI) am_k1 hP hS hl.1 (Nat.le_of_ble_eq_true rfl) (lw_d3 41 rfl (by decide)) (fun v τ0 H locs hKv hP hS => ?_)
  obtain ⟨r, hr0, hf⟩ := hKv
  cases hr0
  refine lv_aload_n hx hb (lw_d3 42 rfl (by decide)) rfl (lv_at hl 2 rfl) ?_
  refine lv_aload_n hx hb (lw_d3 43 rfl (by decide)) rfl (lv_at hl 0 rfl) ?_
  refine lv_iload_n hx hb (lw_d3 44 rfl (by decide)) rfl (lv_at hl 3 rfl) ?_
  refine lv_iconst (v := 1) hx hb (lw_d3 45 rfl (by decide)) (by decide) ?_
  refine lv_iadd hx hb (lw_d3 46 rfl (by decide)) ?_
  refine va_sld hx hb hX hbl hbA hS h1 (lw_d3 47 rfl (by decide)) ?_
  refine lv_aload_n hx hb (lw_d3 48 rfl (by decide)) rfl (lv_at hl 0 rfl) ?_
  refine lv_iload_n hx hb (lw_d3 49 rfl (by decide)) rfl (lv_at hl 3 rfl) ?_
  refine lv_iconst (v := 2) hx hb (lw_d3 50 rfl (by decide)) (by decide) ?_
  refine lv_iadd hx hb (lw_d3 51 rfl (by decide)) ?_
  refine va_sld hx hb hX hbl hbA hS h2 (lw_d3 52 rfl (by decide)) ?_
  refine lw_call (n := 2) 20 7 [.inl (xs (x3 + 1).toNatClampNeg), .inl (xs (x3 + 2).toNatClampNeg)] [.int r] hG snX7_ahead (am_lG iw_172 iw_173 iw_174 wd_459 iw_175) rfl rfl (by decide) (by decide) rfl rfl (by decide +kernel) ⟨Nat.le_of_ble_eq_true rfl, Nat.le_of_ble_eq_true rfl⟩ rfl (am_okIs [xs (x3 + 1).toNatClampNeg, xs (x3 + 2).toNatClampNeg]) (hf) am_k2 hP hS hl.1 (Nat.le_of_ble_eq_true rfl) (lw_d3 53 rfl (by decide)) (fun v τ1 H locs hKv hP hS => ?_)
  obtain ⟨hr0, hI⟩ := hKv
  cases hr0
  refine lv_icmp_eq (tgt := 1289) hx hb (lw_d3 54 rfl (by decide)) (by decide) (fun _ => kk _ _ _ hI hP hS) (fun h => absurd rfl h)
set_option maxHeartbeats 4000000 in
set_option maxRecDepth 100000 in
theorem lc_17 {p : Program} {l : Launch} {e : Env} {s : State} {m : MethodId} {below : List Frame} {meth : Method} {c : Code} {dC : Nat → ClassId} {dI : Nat → Nat → Nat} {dA : Nat → ClassId} {ad : Nat → Nat → Nat} {adV : Nat → Nat} {b L : Nat} {xs : Nat → Int32} (hG : lw_G p s m meth c dC dI dA ad adV b L xs) {x3 : Int32} (h1 : vp_in (x3 + 1) L) (h2 : vp_in (x3 + 2) L) (h3 : vp_in (x3 + 3) L) (h4 : vp_in (x3 + 4) L) {σ : am_M} (hI : Inv σ) {H : Heap} {locs : List Loc} (hP : va_P (dC, dI) vwCl (am_w ad dA σ) H) (hS : va_S (NW s.heap.size) s.heap H locs) {ls : Array Slot} (hl : lv_has ls 4 [(0, .ref b), (1, .ref (ad 0 0)), (2, .ref (ad 20 0)), (3, .int x3)]) (kk : ∀ (τ : am_M) (H1 : Heap) (locs1 : List Loc), Inv τ → va_P (dC, dI) vwCl (am_w ad dA τ) H1 → va_S (NW s.heap.size) s.heap H1 locs1 → W p l e room_1 s m #[Value.ref b] below meth c H1 locs1 600000 7302250 (lw_Z below #[Value.ref b] s) (F0 m 1289 ls [])) : W p l e room_1 s m #[Value.ref b] below meth c H locs 600000 7302250 (lw_Z below #[Value.ref b] s) (F0 m 645 ls []) := by
  obtain ⟨hx, hb, hr, hml, hown, hts, hX, hbl, hlocks, hgv⟩ := id hG.1
  have hbA : ¬ NW s.heap.size b := Nat.not_le.mpr hbl
  refine lv_aload_n hx hb (lw_d3 57 rfl (by decide)) rfl (lv_at hl 1 rfl) ?_
  refine lv_aload_n hx hb (lw_d3 58 rfl (by decide)) rfl (lv_at hl 0 rfl) ?_
  refine lv_iload_n hx hb (lw_d3 59 rfl (by decide)) rfl (lv_at hl 3 rfl) ?_
  refine lv_iconst (v := 1) hx hb (lw_d3 60 rfl (by decide)) (by decide) ?_
  refine lv_iadd hx hb (lw_d3 61 rfl (by decide)) ?_
  refine va_sld hx hb hX hbl hbA hS h1 (lw_d3 62 rfl (by decide)) ?_
  refine lw_call (n := 1) 0 6 [.inl (xs (x3 + 1).toNatClampNeg)] [] hG snX6_when (am_lG iw_176 iw_177 iw_178 wd_162 iw_179) rfl rfl (by decide) (by decide) rfl rfl (by decide +kernel) ⟨Nat.le_of_ble_eq_true rfl, Nat.le_of_ble_eq_true rfl⟩ rfl (am_okIs [xs (x3 + 1).toNatClampNeg]) (pr_when hI) am_k1 hP hS hl.1 (Nat.le_of_ble_eq_true rfl) (lw_d3 63 rfl (by decide)) (fun v τ0 H locs hKv hP hS => ?_)
  obtain ⟨r, hr0, hf⟩ := hKv
  cases hr0
  refine lv_aload_n hx hb (lw_d3 64 rfl (by decide)) rfl (lv_at hl 2 rfl) ?_
  refine lv_aload_n hx hb (lw_d3 65 rfl (by decide)) rfl (lv_at hl 0 rfl) ?_
  refine lv_iload_n hx hb (lw_d3 66 rfl (by decide)) rfl (lv_at hl 3 rfl) ?_
  refine lv_iconst (v := 1) hx hb (lw_d3 67 rfl (by decide)) (by decide) ?_
  refine lv_iadd hx hb (lw_d3 68 rfl (by decide)) ?_
  refine va_sld hx hb hX hbl hbA hS h1 (lw_d3 69 rfl (by decide)) ?_
  refine lw_call (n := 1) 20 7 [.inl (xs (x3 + 1).toNatClampNeg)] [.int r] hG snX7_when (am_lG iw_180 iw_181 iw_182 wd_459 iw_183) rfl rfl (by decide) (by decide) rfl rfl (by decide +kernel) ⟨Nat.le_of_ble_eq_true rfl, Nat.le_of_ble_eq_true rfl⟩ rfl (am_okIs [xs (x3 + 1).toNatClampNeg]) (hf) am_k2 hP hS hl.1 (Nat.le_of_ble_eq_true rfl) (lw_d3 70 rfl (by decide)) (fun v τ1 H locs hKv hP hS => ?_)
  obtain ⟨hr0, hI⟩ := hKv
  cases hr0
  refine lv_icmp_eq (tgt := 1289) hx hb (lw_d3 71 rfl (by decide)) (by decide) (fun _ => kk _ _ _ hI hP hS) (fun h => absurd rfl h)
set_option maxHeartbeats 4000000 in
set_option maxRecDepth 100000 in
theorem lc_18 {p : Program} {l : Launch} {e : Env} {s : State} {m : MethodId} {below : List Frame} {meth : Method} {c : Code} {dC : Nat → ClassId} {dI : Nat → Nat → Nat} {dA : Nat → ClassId} {ad : Nat → Nat → Nat} {adV : Nat → Nat} {b L : Nat} {xs : Nat → Int32} (hG : lw_G p s m meth c dC dI dA ad adV b L xs) {x3 : Int32} (h1 : vp_in (x3 + 1) L) (h2 : vp_in (x3 + 2) L) (h3 : vp_in (x3 + 3) L) (h4 : vp_in (x3 + 4) L) {σ : am_M} (hI : Inv σ) {H : Heap} {locs : List Loc} (hP : va_P (dC, dI) vwCl (am_w ad dA σ) H) (hS : va_S (NW s.heap.size) s.heap H locs) {ls : Array Slot} (hl : lv_has ls 4 [(0, .ref b), (1, .ref (ad 0 0)), (2, .ref (ad 20 0)), (3, .int x3)]) (kk : ∀ (τ : am_M) (H1 : Heap) (locs1 : List Loc), Inv τ → va_P (dC, dI) vwCl (am_w ad dA τ) H1 → va_S (NW s.heap.size) s.heap H1 locs1 → W p l e room_1 s m #[Value.ref b] below meth c H1 locs1 600000 7302250 (lw_Z below #[Value.ref b] s) (F0 m 1289 ls [])) : W p l e room_1 s m #[Value.ref b] below meth c H locs 600000 7302250 (lw_Z below #[Value.ref b] s) (F0 m 668 ls []) := by
  obtain ⟨hx, hb, hr, hml, hown, hts, hX, hbl, hlocks, hgv⟩ := id hG.1
  have hbA : ¬ NW s.heap.size b := Nat.not_le.mpr hbl
  refine lv_aload_n hx hb (lw_d3 74 rfl (by decide)) rfl (lv_at hl 1 rfl) ?_
  refine lv_aload_n hx hb (lw_d3 75 rfl (by decide)) rfl (lv_at hl 0 rfl) ?_
  refine lv_iload_n hx hb (lw_d3 76 rfl (by decide)) rfl (lv_at hl 3 rfl) ?_
  refine lv_iconst (v := 1) hx hb (lw_d3 77 rfl (by decide)) (by decide) ?_
  refine lv_iadd hx hb (lw_d3 78 rfl (by decide)) ?_
  refine va_sld hx hb hX hbl hbA hS h1 (lw_d3 79 rfl (by decide)) ?_
  refine lw_call (n := 1) 0 6 [.inl (xs (x3 + 1).toNatClampNeg)] [] hG snX6_blocks (am_lG iw_184 iw_185 iw_186 wd_162 iw_187) rfl rfl (by decide) (by decide) rfl rfl (by decide +kernel) ⟨Nat.le_of_ble_eq_true rfl, Nat.le_of_ble_eq_true rfl⟩ rfl (am_okIs [xs (x3 + 1).toNatClampNeg]) (pr_blocks hI) am_k1 hP hS hl.1 (Nat.le_of_ble_eq_true rfl) (lw_d3 80 rfl (by decide)) (fun v τ0 H locs hKv hP hS => ?_)
  obtain ⟨r, hr0, hf⟩ := hKv
  cases hr0
  refine lv_aload_n hx hb (lw_d3 81 rfl (by decide)) rfl (lv_at hl 2 rfl) ?_
  refine lv_aload_n hx hb (lw_d3 82 rfl (by decide)) rfl (lv_at hl 0 rfl) ?_
  refine lv_iload_n hx hb (lw_d3 83 rfl (by decide)) rfl (lv_at hl 3 rfl) ?_
  refine lv_iconst (v := 1) hx hb (lw_d3 84 rfl (by decide)) (by decide) ?_
  refine lv_iadd hx hb (lw_d3 85 rfl (by decide)) ?_
  refine va_sld hx hb hX hbl hbA hS h1 (lw_d3 86 rfl (by decide)) ?_
  refine lw_call (n := 1) 20 7 [.inl (xs (x3 + 1).toNatClampNeg)] [.int r] hG snX7_blocks (am_lG iw_188 iw_189 iw_190 wd_459 iw_191) rfl rfl (by decide) (by decide) rfl rfl (by decide +kernel) ⟨Nat.le_of_ble_eq_true rfl, Nat.le_of_ble_eq_true rfl⟩ rfl (am_okIs [xs (x3 + 1).toNatClampNeg]) (hf) am_k2 hP hS hl.1 (Nat.le_of_ble_eq_true rfl) (lw_d3 87 rfl (by decide)) (fun v τ1 H locs hKv hP hS => ?_)
  obtain ⟨hr0, hI⟩ := hKv
  cases hr0
  refine lv_icmp_eq (tgt := 1289) hx hb (lw_d3 88 rfl (by decide)) (by decide) (fun _ => kk _ _ _ hI hP hS) (fun h => absurd rfl h)
set_option maxHeartbeats 4000000 in
set_option maxRecDepth 100000 in
theorem lc_19 {p : Program} {l : Launch} {e : Env} {s : State} {m : MethodId} {below : List Frame} {meth : Method} {c : Code} {dC : Nat → ClassId} {dI : Nat → Nat → Nat} {dA : Nat → ClassId} {ad : Nat → Nat → Nat} {adV : Nat → Nat} {b L : Nat} {xs : Nat → Int32} (hG : lw_G p s m meth c dC dI dA ad adV b L xs) {x3 : Int32} (h1 : vp_in (x3 + 1) L) (h2 : vp_in (x3 + 2) L) (h3 : vp_in (x3 + 3) L) (h4 : vp_in (x3 + 4) L) {σ : am_M} (hI : Inv σ) {H : Heap} {locs : List Loc} (hP : va_P (dC, dI) vwCl (am_w ad dA σ) H) (hS : va_S (NW s.heap.size) s.heap H locs) {ls : Array Slot} (hl : lv_has ls 4 [(0, .ref b), (1, .ref (ad 0 0)), (2, .ref (ad 20 0)), (3, .int x3)]) (kk : ∀ (τ : am_M) (H1 : Heap) (locs1 : List Loc), Inv τ → va_P (dC, dI) vwCl (am_w ad dA τ) H1 → va_S (NW s.heap.size) s.heap H1 locs1 → W p l e room_1 s m #[Value.ref b] below meth c H1 locs1 600000 7302250 (lw_Z below #[Value.ref b] s) (F0 m 1289 ls [])) : W p l e room_1 s m #[Value.ref b] below meth c H locs 600000 7302250 (lw_Z below #[Value.ref b] s) (F0 m 691 ls []) := by
  obtain ⟨hx, hb, hr, hml, hown, hts, hX, hbl, hlocks, hgv⟩ := id hG.1
  have hbA : ¬ NW s.heap.size b := Nat.not_le.mpr hbl
  refine lv_aload_n hx hb (lw_d3 91 rfl (by decide)) rfl (lv_at hl 1 rfl) ?_
  refine lv_aload_n hx hb (lw_d3 92 rfl (by decide)) rfl (lv_at hl 0 rfl) ?_
  refine lv_iload_n hx hb (lw_d3 93 rfl (by decide)) rfl (lv_at hl 3 rfl) ?_
  refine lv_iconst (v := 1) hx hb (lw_d3 94 rfl (by decide)) (by decide) ?_
  refine lv_iadd hx hb (lw_d3 95 rfl (by decide)) ?_
  refine va_sld hx hb hX hbl hbA hS h1 (lw_d3 96 rfl (by decide)) ?_
  refine lw_call (n := 1) 0 6 [.inl (xs (x3 + 1).toNatClampNeg)] [] hG snX6_most (am_lG iw_192 iw_193 iw_194 wd_162 iw_195) rfl rfl (by decide) (by decide) rfl rfl (by decide +kernel) ⟨Nat.le_of_ble_eq_true rfl, Nat.le_of_ble_eq_true rfl⟩ rfl (am_okIs [xs (x3 + 1).toNatClampNeg]) (pr_most hI) am_k1 hP hS hl.1 (Nat.le_of_ble_eq_true rfl) (lw_d3 97 rfl (by decide)) (fun v τ0 H locs hKv hP hS => ?_)
  obtain ⟨r, hr0, hf⟩ := hKv
  cases hr0
  refine lv_aload_n hx hb (lw_d3 98 rfl (by decide)) rfl (lv_at hl 2 rfl) ?_
  refine lv_aload_n hx hb (lw_d3 99 rfl (by decide)) rfl (lv_at hl 0 rfl) ?_
  refine lv_iload_n hx hb (lw_d4 0 rfl (by decide)) rfl (lv_at hl 3 rfl) ?_
  refine lv_iconst (v := 1) hx hb (lw_d4 1 rfl (by decide)) (by decide) ?_
  refine lv_iadd hx hb (lw_d4 2 rfl (by decide)) ?_
  refine va_sld hx hb hX hbl hbA hS h1 (lw_d4 3 rfl (by decide)) ?_
  refine lw_call (n := 1) 20 7 [.inl (xs (x3 + 1).toNatClampNeg)] [.int r] hG snX7_most (am_lG iw_196 iw_197 iw_198 wd_459 iw_199) rfl rfl (by decide) (by decide) rfl rfl (by decide +kernel) ⟨Nat.le_of_ble_eq_true rfl, Nat.le_of_ble_eq_true rfl⟩ rfl (am_okIs [xs (x3 + 1).toNatClampNeg]) (hf) am_k2 hP hS hl.1 (Nat.le_of_ble_eq_true rfl) (lw_d4 4 rfl (by decide)) (fun v τ1 H locs hKv hP hS => ?_)
  obtain ⟨hr0, hI⟩ := hKv
  cases hr0
  refine lv_icmp_eq (tgt := 1289) hx hb (lw_d4 5 rfl (by decide)) (by decide) (fun _ => kk _ _ _ hI hP hS) (fun h => absurd rfl h)
set_option maxHeartbeats 4000000 in
set_option maxRecDepth 100000 in
theorem lc_20 {p : Program} {l : Launch} {e : Env} {s : State} {m : MethodId} {below : List Frame} {meth : Method} {c : Code} {dC : Nat → ClassId} {dI : Nat → Nat → Nat} {dA : Nat → ClassId} {ad : Nat → Nat → Nat} {adV : Nat → Nat} {b L : Nat} {xs : Nat → Int32} (hG : lw_G p s m meth c dC dI dA ad adV b L xs) {x3 : Int32} (h1 : vp_in (x3 + 1) L) (h2 : vp_in (x3 + 2) L) (h3 : vp_in (x3 + 3) L) (h4 : vp_in (x3 + 4) L) {σ : am_M} (hI : Inv σ) {H : Heap} {locs : List Loc} (hP : va_P (dC, dI) vwCl (am_w ad dA σ) H) (hS : va_S (NW s.heap.size) s.heap H locs) {ls : Array Slot} (hl : lv_has ls 4 [(0, .ref b), (1, .ref (ad 0 0)), (2, .ref (ad 20 0)), (3, .int x3)]) (kk : ∀ (τ : am_M) (H1 : Heap) (locs1 : List Loc), Inv τ → va_P (dC, dI) vwCl (am_w ad dA τ) H1 → va_S (NW s.heap.size) s.heap H1 locs1 → W p l e room_1 s m #[Value.ref b] below meth c H1 locs1 600000 7302250 (lw_Z below #[Value.ref b] s) (F0 m 1289 ls [])) : W p l e room_1 s m #[Value.ref b] below meth c H locs 600000 7302250 (lw_Z below #[Value.ref b] s) (F0 m 714 ls []) := by
  obtain ⟨hx, hb, hr, hml, hown, hts, hX, hbl, hlocks, hgv⟩ := id hG.1
  have hbA : ¬ NW s.heap.size b := Nat.not_le.mpr hbl
  refine lv_aload_n hx hb (lw_d4 8 rfl (by decide)) rfl (lv_at hl 1 rfl) ?_
  refine lv_aload_n hx hb (lw_d4 9 rfl (by decide)) rfl (lv_at hl 0 rfl) ?_
  refine lv_iload_n hx hb (lw_d4 10 rfl (by decide)) rfl (lv_at hl 3 rfl) ?_
  refine lv_iconst (v := 1) hx hb (lw_d4 11 rfl (by decide)) (by decide) ?_
  refine lv_iadd hx hb (lw_d4 12 rfl (by decide)) ?_
  refine va_sld hx hb hX hbl hbA hS h1 (lw_d4 13 rfl (by decide)) ?_
  refine lw_call (n := 1) 0 6 [.inl (xs (x3 + 1).toNatClampNeg)] [] hG snX6_sets (am_lG iw_200 iw_201 iw_202 wd_162 iw_203) rfl rfl (by decide) (by decide) rfl rfl (by decide +kernel) ⟨Nat.le_of_ble_eq_true rfl, Nat.le_of_ble_eq_true rfl⟩ rfl (am_okIs [xs (x3 + 1).toNatClampNeg]) (pr_sets hI) am_k1 hP hS hl.1 (Nat.le_of_ble_eq_true rfl) (lw_d4 14 rfl (by decide)) (fun v τ0 H locs hKv hP hS => ?_)
  obtain ⟨r, hr0, hf⟩ := hKv
  cases hr0
  refine lv_aload_n hx hb (lw_d4 15 rfl (by decide)) rfl (lv_at hl 2 rfl) ?_
  refine lv_aload_n hx hb (lw_d4 16 rfl (by decide)) rfl (lv_at hl 0 rfl) ?_
  refine lv_iload_n hx hb (lw_d4 17 rfl (by decide)) rfl (lv_at hl 3 rfl) ?_
  refine lv_iconst (v := 1) hx hb (lw_d4 18 rfl (by decide)) (by decide) ?_
  refine lv_iadd hx hb (lw_d4 19 rfl (by decide)) ?_
  refine va_sld hx hb hX hbl hbA hS h1 (lw_d4 20 rfl (by decide)) ?_
  refine lw_call (n := 1) 20 7 [.inl (xs (x3 + 1).toNatClampNeg)] [.int r] hG snX7_sets (am_lG iw_204 iw_205 iw_206 wd_459 iw_207) rfl rfl (by decide) (by decide) rfl rfl (by decide +kernel) ⟨Nat.le_of_ble_eq_true rfl, Nat.le_of_ble_eq_true rfl⟩ rfl (am_okIs [xs (x3 + 1).toNatClampNeg]) (hf) am_k2 hP hS hl.1 (Nat.le_of_ble_eq_true rfl) (lw_d4 21 rfl (by decide)) (fun v τ1 H locs hKv hP hS => ?_)
  obtain ⟨hr0, hI⟩ := hKv
  cases hr0
  refine lv_icmp_eq (tgt := 1289) hx hb (lw_d4 22 rfl (by decide)) (by decide) (fun _ => kk _ _ _ hI hP hS) (fun h => absurd rfl h)
set_option maxHeartbeats 4000000 in
set_option maxRecDepth 100000 in
theorem lc_21 {p : Program} {l : Launch} {e : Env} {s : State} {m : MethodId} {below : List Frame} {meth : Method} {c : Code} {dC : Nat → ClassId} {dI : Nat → Nat → Nat} {dA : Nat → ClassId} {ad : Nat → Nat → Nat} {adV : Nat → Nat} {b L : Nat} {xs : Nat → Int32} (hG : lw_G p s m meth c dC dI dA ad adV b L xs) {x3 : Int32} (h1 : vp_in (x3 + 1) L) (h2 : vp_in (x3 + 2) L) (h3 : vp_in (x3 + 3) L) (h4 : vp_in (x3 + 4) L) {σ : am_M} (hI : Inv σ) {H : Heap} {locs : List Loc} (hP : va_P (dC, dI) vwCl (am_w ad dA σ) H) (hS : va_S (NW s.heap.size) s.heap H locs) {ls : Array Slot} (hl : lv_has ls 4 [(0, .ref b), (1, .ref (ad 0 0)), (2, .ref (ad 20 0)), (3, .int x3)]) (kk : ∀ (τ : am_M) (H1 : Heap) (locs1 : List Loc), Inv τ → va_P (dC, dI) vwCl (am_w ad dA τ) H1 → va_S (NW s.heap.size) s.heap H1 locs1 → W p l e room_1 s m #[Value.ref b] below meth c H1 locs1 600000 7302250 (lw_Z below #[Value.ref b] s) (F0 m 1289 ls [])) : W p l e room_1 s m #[Value.ref b] below meth c H locs 600000 7302250 (lw_Z below #[Value.ref b] s) (F0 m 737 ls []) := by
  obtain ⟨hx, hb, hr, hml, hown, hts, hX, hbl, hlocks, hgv⟩ := id hG.1
  have hbA : ¬ NW s.heap.size b := Nat.not_le.mpr hbl
  refine lv_aload_n hx hb (lw_d4 25 rfl (by decide)) rfl (lv_at hl 1 rfl) ?_
  refine lv_aload_n hx hb (lw_d4 26 rfl (by decide)) rfl (lv_at hl 0 rfl) ?_
  refine lv_iload_n hx hb (lw_d4 27 rfl (by decide)) rfl (lv_at hl 3 rfl) ?_
  refine lv_iconst (v := 1) hx hb (lw_d4 28 rfl (by decide)) (by decide) ?_
  refine lv_iadd hx hb (lw_d4 29 rfl (by decide)) ?_
  refine va_sld hx hb hX hbl hbA hS h1 (lw_d4 30 rfl (by decide)) ?_
  refine lw_call (n := 1) 0 6 [.inl (xs (x3 + 1).toNatClampNeg)] [] hG snX6_fill (am_lG iw_208 iw_209 iw_210 wd_162 iw_211) rfl rfl (by decide) (by decide) rfl rfl (by decide +kernel) ⟨Nat.le_of_ble_eq_true rfl, Nat.le_of_ble_eq_true rfl⟩ rfl (am_okIs [xs (x3 + 1).toNatClampNeg]) (pr_fill hI) am_k1 hP hS hl.1 (Nat.le_of_ble_eq_true rfl) (lw_d4 31 rfl (by decide)) (fun v τ0 H locs hKv hP hS => ?_)
  obtain ⟨r, hr0, hf⟩ := hKv
  cases hr0
  refine lv_aload_n hx hb (lw_d4 32 rfl (by decide)) rfl (lv_at hl 2 rfl) ?_
  refine lv_aload_n hx hb (lw_d4 33 rfl (by decide)) rfl (lv_at hl 0 rfl) ?_
  refine lv_iload_n hx hb (lw_d4 34 rfl (by decide)) rfl (lv_at hl 3 rfl) ?_
  refine lv_iconst (v := 1) hx hb (lw_d4 35 rfl (by decide)) (by decide) ?_
  refine lv_iadd hx hb (lw_d4 36 rfl (by decide)) ?_
  refine va_sld hx hb hX hbl hbA hS h1 (lw_d4 37 rfl (by decide)) ?_
  refine lw_call (n := 1) 20 7 [.inl (xs (x3 + 1).toNatClampNeg)] [.int r] hG snX7_fill (am_lG iw_212 iw_213 iw_214 wd_459 iw_215) rfl rfl (by decide) (by decide) rfl rfl (by decide +kernel) ⟨Nat.le_of_ble_eq_true rfl, Nat.le_of_ble_eq_true rfl⟩ rfl (am_okIs [xs (x3 + 1).toNatClampNeg]) (hf) am_k2 hP hS hl.1 (Nat.le_of_ble_eq_true rfl) (lw_d4 38 rfl (by decide)) (fun v τ1 H locs hKv hP hS => ?_)
  obtain ⟨hr0, hI⟩ := hKv
  cases hr0
  refine lv_icmp_eq (tgt := 1289) hx hb (lw_d4 39 rfl (by decide)) (by decide) (fun _ => kk _ _ _ hI hP hS) (fun h => absurd rfl h)
set_option maxHeartbeats 4000000 in
set_option maxRecDepth 100000 in
theorem lc_22 {p : Program} {l : Launch} {e : Env} {s : State} {m : MethodId} {below : List Frame} {meth : Method} {c : Code} {dC : Nat → ClassId} {dI : Nat → Nat → Nat} {dA : Nat → ClassId} {ad : Nat → Nat → Nat} {adV : Nat → Nat} {b L : Nat} {xs : Nat → Int32} (hG : lw_G p s m meth c dC dI dA ad adV b L xs) {x3 : Int32} (h1 : vp_in (x3 + 1) L) (h2 : vp_in (x3 + 2) L) (h3 : vp_in (x3 + 3) L) (h4 : vp_in (x3 + 4) L) {σ : am_M} (hI : Inv σ) {H : Heap} {locs : List Loc} (hP : va_P (dC, dI) vwCl (am_w ad dA σ) H) (hS : va_S (NW s.heap.size) s.heap H locs) {ls : Array Slot} (hl : lv_has ls 4 [(0, .ref b), (1, .ref (ad 0 0)), (2, .ref (ad 20 0)), (3, .int x3)]) (kk : ∀ (τ : am_M) (H1 : Heap) (locs1 : List Loc), Inv τ → va_P (dC, dI) vwCl (am_w ad dA τ) H1 → va_S (NW s.heap.size) s.heap H1 locs1 → W p l e room_1 s m #[Value.ref b] below meth c H1 locs1 600000 7302250 (lw_Z below #[Value.ref b] s) (F0 m 1289 ls [])) : W p l e room_1 s m #[Value.ref b] below meth c H locs 600000 7302250 (lw_Z below #[Value.ref b] s) (F0 m 760 ls []) := by
  obtain ⟨hx, hb, hr, hml, hown, hts, hX, hbl, hlocks, hgv⟩ := id hG.1
  have hbA : ¬ NW s.heap.size b := Nat.not_le.mpr hbl
  refine lv_aload_n hx hb (lw_d4 42 rfl (by decide)) rfl (lv_at hl 1 rfl) ?_
  refine lv_aload_n hx hb (lw_d4 43 rfl (by decide)) rfl (lv_at hl 0 rfl) ?_
  refine lv_iload_n hx hb (lw_d4 44 rfl (by decide)) rfl (lv_at hl 3 rfl) ?_
  refine lv_iconst (v := 1) hx hb (lw_d4 45 rfl (by decide)) (by decide) ?_
  refine lv_iadd hx hb (lw_d4 46 rfl (by decide)) ?_
  refine va_sld hx hb hX hbl hbA hS h1 (lw_d4 47 rfl (by decide)) ?_
  refine lw_call (n := 1) 0 6 [.inl (xs (x3 + 1).toNatClampNeg)] [] hG snX6_let (am_lG iw_216 iw_217 iw_218 wd_162 iw_219) rfl rfl (by decide) (by decide) rfl rfl (by decide +kernel) ⟨Nat.le_of_ble_eq_true rfl, Nat.le_of_ble_eq_true rfl⟩ rfl (am_okIs [xs (x3 + 1).toNatClampNeg]) (pr_let hI) am_k1 hP hS hl.1 (Nat.le_of_ble_eq_true rfl) (lw_d4 48 rfl (by decide)) (fun v τ0 H locs hKv hP hS => ?_)
  obtain ⟨r, hr0, hf⟩ := hKv
  cases hr0
  refine lv_aload_n hx hb (lw_d4 49 rfl (by decide)) rfl (lv_at hl 2 rfl) ?_
  refine lv_aload_n hx hb (lw_d4 50 rfl (by decide)) rfl (lv_at hl 0 rfl) ?_
  refine lv_iload_n hx hb (lw_d4 51 rfl (by decide)) rfl (lv_at hl 3 rfl) ?_
  refine lv_iconst (v := 1) hx hb (lw_d4 52 rfl (by decide)) (by decide) ?_
  refine lv_iadd hx hb (lw_d4 53 rfl (by decide)) ?_
  refine va_sld hx hb hX hbl hbA hS h1 (lw_d4 54 rfl (by decide)) ?_
  refine lw_call (n := 1) 20 7 [.inl (xs (x3 + 1).toNatClampNeg)] [.int r] hG snX7_let (am_lG iw_220 iw_221 iw_222 wd_459 iw_223) rfl rfl (by decide) (by decide) rfl rfl (by decide +kernel) ⟨Nat.le_of_ble_eq_true rfl, Nat.le_of_ble_eq_true rfl⟩ rfl (am_okIs [xs (x3 + 1).toNatClampNeg]) (hf) am_k2 hP hS hl.1 (Nat.le_of_ble_eq_true rfl) (lw_d4 55 rfl (by decide)) (fun v τ1 H locs hKv hP hS => ?_)
  obtain ⟨hr0, hI⟩ := hKv
  cases hr0
  refine lv_icmp_eq (tgt := 1289) hx hb (lw_d4 56 rfl (by decide)) (by decide) (fun _ => kk _ _ _ hI hP hS) (fun h => absurd rfl h)
set_option maxHeartbeats 4000000 in
set_option maxRecDepth 100000 in
theorem lc_23 {p : Program} {l : Launch} {e : Env} {s : State} {m : MethodId} {below : List Frame} {meth : Method} {c : Code} {dC : Nat → ClassId} {dI : Nat → Nat → Nat} {dA : Nat → ClassId} {ad : Nat → Nat → Nat} {adV : Nat → Nat} {b L : Nat} {xs : Nat → Int32} (hG : lw_G p s m meth c dC dI dA ad adV b L xs) {x3 : Int32} (h1 : vp_in (x3 + 1) L) (h2 : vp_in (x3 + 2) L) (h3 : vp_in (x3 + 3) L) (h4 : vp_in (x3 + 4) L) {σ : am_M} (hI : Inv σ) {H : Heap} {locs : List Loc} (hP : va_P (dC, dI) vwCl (am_w ad dA σ) H) (hS : va_S (NW s.heap.size) s.heap H locs) {ls : Array Slot} (hl : lv_has ls 4 [(0, .ref b), (1, .ref (ad 0 0)), (2, .ref (ad 20 0)), (3, .int x3)]) (kk : ∀ (τ : am_M) (H1 : Heap) (locs1 : List Loc), Inv τ → va_P (dC, dI) vwCl (am_w ad dA τ) H1 → va_S (NW s.heap.size) s.heap H1 locs1 → W p l e room_1 s m #[Value.ref b] below meth c H1 locs1 600000 7302250 (lw_Z below #[Value.ref b] s) (F0 m 1289 ls [])) : W p l e room_1 s m #[Value.ref b] below meth c H locs 600000 7302250 (lw_Z below #[Value.ref b] s) (F0 m 783 ls []) := by
  obtain ⟨hx, hb, hr, hml, hown, hts, hX, hbl, hlocks, hgv⟩ := id hG.1
  have hbA : ¬ NW s.heap.size b := Nat.not_le.mpr hbl
  refine lv_aload_n hx hb (lw_d4 59 rfl (by decide)) rfl (lv_at hl 1 rfl) ?_
  refine lv_aload_n hx hb (lw_d4 60 rfl (by decide)) rfl (lv_at hl 0 rfl) ?_
  refine lv_iload_n hx hb (lw_d4 61 rfl (by decide)) rfl (lv_at hl 3 rfl) ?_
  refine lv_iconst (v := 1) hx hb (lw_d4 62 rfl (by decide)) (by decide) ?_
  refine lv_iadd hx hb (lw_d4 63 rfl (by decide)) ?_
  refine va_sld hx hb hX hbl hbA hS h1 (lw_d4 64 rfl (by decide)) ?_
  refine lw_call (n := 1) 0 6 [.inl (xs (x3 + 1).toNatClampNeg)] [] hG snX6_cheap (am_lG iw_224 iw_225 iw_226 wd_162 iw_227) rfl rfl (by decide) (by decide) rfl rfl (by decide +kernel) ⟨Nat.le_of_ble_eq_true rfl, Nat.le_of_ble_eq_true rfl⟩ rfl (am_okIs [xs (x3 + 1).toNatClampNeg]) (pr_cheap hI) am_k1 hP hS hl.1 (Nat.le_of_ble_eq_true rfl) (lw_d4 65 rfl (by decide)) (fun v τ0 H locs hKv hP hS => ?_)
  obtain ⟨r, hr0, hf⟩ := hKv
  cases hr0
  refine lv_aload_n hx hb (lw_d4 66 rfl (by decide)) rfl (lv_at hl 2 rfl) ?_
  refine lv_aload_n hx hb (lw_d4 67 rfl (by decide)) rfl (lv_at hl 0 rfl) ?_
  refine lv_iload_n hx hb (lw_d4 68 rfl (by decide)) rfl (lv_at hl 3 rfl) ?_
  refine lv_iconst (v := 1) hx hb (lw_d4 69 rfl (by decide)) (by decide) ?_
  refine lv_iadd hx hb (lw_d4 70 rfl (by decide)) ?_
  refine va_sld hx hb hX hbl hbA hS h1 (lw_d4 71 rfl (by decide)) ?_
  refine lw_call (n := 1) 20 7 [.inl (xs (x3 + 1).toNatClampNeg)] [.int r] hG snX7_cheap (am_lG iw_228 iw_229 iw_230 wd_459 iw_231) rfl rfl (by decide) (by decide) rfl rfl (by decide +kernel) ⟨Nat.le_of_ble_eq_true rfl, Nat.le_of_ble_eq_true rfl⟩ rfl (am_okIs [xs (x3 + 1).toNatClampNeg]) (hf) am_k2 hP hS hl.1 (Nat.le_of_ble_eq_true rfl) (lw_d4 72 rfl (by decide)) (fun v τ1 H locs hKv hP hS => ?_)
  obtain ⟨hr0, hI⟩ := hKv
  cases hr0
  refine lv_icmp_eq (tgt := 1289) hx hb (lw_d4 73 rfl (by decide)) (by decide) (fun _ => kk _ _ _ hI hP hS) (fun h => absurd rfl h)
set_option maxHeartbeats 4000000 in
set_option maxRecDepth 100000 in
theorem lc_24 {p : Program} {l : Launch} {e : Env} {s : State} {m : MethodId} {below : List Frame} {meth : Method} {c : Code} {dC : Nat → ClassId} {dI : Nat → Nat → Nat} {dA : Nat → ClassId} {ad : Nat → Nat → Nat} {adV : Nat → Nat} {b L : Nat} {xs : Nat → Int32} (hG : lw_G p s m meth c dC dI dA ad adV b L xs) {x3 : Int32} (h1 : vp_in (x3 + 1) L) (h2 : vp_in (x3 + 2) L) (h3 : vp_in (x3 + 3) L) (h4 : vp_in (x3 + 4) L) {σ : am_M} (hI : Inv σ) {H : Heap} {locs : List Loc} (hP : va_P (dC, dI) vwCl (am_w ad dA σ) H) (hS : va_S (NW s.heap.size) s.heap H locs) {ls : Array Slot} (hl : lv_has ls 4 [(0, .ref b), (1, .ref (ad 0 0)), (2, .ref (ad 20 0)), (3, .int x3)]) (kk : ∀ (τ : am_M) (H1 : Heap) (locs1 : List Loc), Inv τ → va_P (dC, dI) vwCl (am_w ad dA τ) H1 → va_S (NW s.heap.size) s.heap H1 locs1 → W p l e room_1 s m #[Value.ref b] below meth c H1 locs1 600000 7302250 (lw_Z below #[Value.ref b] s) (F0 m 1289 ls [])) : W p l e room_1 s m #[Value.ref b] below meth c H locs 600000 7302250 (lw_Z below #[Value.ref b] s) (F0 m 806 ls []) := by
  obtain ⟨hx, hb, hr, hml, hown, hts, hX, hbl, hlocks, hgv⟩ := id hG.1
  have hbA : ¬ NW s.heap.size b := Nat.not_le.mpr hbl
  refine lv_aload_n hx hb (lw_d4 76 rfl (by decide)) rfl (lv_at hl 1 rfl) ?_
  refine lv_aload_n hx hb (lw_d4 77 rfl (by decide)) rfl (lv_at hl 0 rfl) ?_
  refine lv_iload_n hx hb (lw_d4 78 rfl (by decide)) rfl (lv_at hl 3 rfl) ?_
  refine lv_iconst (v := 1) hx hb (lw_d4 79 rfl (by decide)) (by decide) ?_
  refine lv_iadd hx hb (lw_d4 80 rfl (by decide)) ?_
  refine va_sld hx hb hX hbl hbA hS h1 (lw_d4 81 rfl (by decide)) ?_
  refine lv_aload_n hx hb (lw_d4 82 rfl (by decide)) rfl (lv_at hl 0 rfl) ?_
  refine lv_iload_n hx hb (lw_d4 83 rfl (by decide)) rfl (lv_at hl 3 rfl) ?_
  refine lv_iconst (v := 2) hx hb (lw_d4 84 rfl (by decide)) (by decide) ?_
  refine lv_iadd hx hb (lw_d4 85 rfl (by decide)) ?_
  refine va_sld hx hb hX hbl hbA hS h2 (lw_d4 86 rfl (by decide)) ?_
  refine lw_call (n := 2) 0 6 [.inl (xs (x3 + 1).toNatClampNeg), .inl (xs (x3 + 2).toNatClampNeg)] [] hG snX6_send (am_lG iw_232 iw_233 iw_234 wd_162 iw_235) rfl rfl (by decide) (by decide) rfl rfl (by decide +kernel) ⟨Nat.le_of_ble_eq_true rfl, Nat.le_of_ble_eq_true rfl⟩ rfl (am_okIs [xs (x3 + 1).toNatClampNeg, xs (x3 + 2).toNatClampNeg]) (pr_send hI) am_k1 hP hS hl.1 (Nat.le_of_ble_eq_true rfl) (lw_d4 87 rfl (by decide)) (fun v τ0 H locs hKv hP hS => ?_)
  obtain ⟨r, hr0, hf⟩ := hKv
  cases hr0
  refine lv_aload_n hx hb (lw_d4 88 rfl (by decide)) rfl (lv_at hl 2 rfl) ?_
  refine lv_aload_n hx hb (lw_d4 89 rfl (by decide)) rfl (lv_at hl 0 rfl) ?_
  refine lv_iload_n hx hb (lw_d4 90 rfl (by decide)) rfl (lv_at hl 3 rfl) ?_
  refine lv_iconst (v := 1) hx hb (lw_d4 91 rfl (by decide)) (by decide) ?_
  refine lv_iadd hx hb (lw_d4 92 rfl (by decide)) ?_
  refine va_sld hx hb hX hbl hbA hS h1 (lw_d4 93 rfl (by decide)) ?_
  refine lv_aload_n hx hb (lw_d4 94 rfl (by decide)) rfl (lv_at hl 0 rfl) ?_
  refine lv_iload_n hx hb (lw_d4 95 rfl (by decide)) rfl (lv_at hl 3 rfl) ?_
  refine lv_iconst (v := 2) hx hb (lw_d4 96 rfl (by decide)) (by decide) ?_
  refine lv_iadd hx hb (lw_d4 97 rfl (by decide)) ?_
  refine va_sld hx hb hX hbl hbA hS h2 (lw_d4 98 rfl (by decide)) ?_
  refine lw_call (n := 2) 20 7 [.inl (xs (x3 + 1).toNatClampNeg), .inl (xs (x3 + 2).toNatClampNeg)] [.int r] hG snX7_send (am_lG iw_236 iw_237 iw_238 wd_459 iw_239) rfl rfl (by decide) (by decide) rfl rfl (by decide +kernel) ⟨Nat.le_of_ble_eq_true rfl, Nat.le_of_ble_eq_true rfl⟩ rfl (am_okIs [xs (x3 + 1).toNatClampNeg, xs (x3 + 2).toNatClampNeg]) (hf) am_k2 hP hS hl.1 (Nat.le_of_ble_eq_true rfl) (lw_d4 99 rfl (by decide)) (fun v τ1 H locs hKv hP hS => ?_)
  obtain ⟨hr0, hI⟩ := hKv
  cases hr0
  refine lv_icmp_eq (tgt := 1289) hx hb (lw_d5 0 rfl (by decide)) (by decide) (fun _ => kk _ _ _ hI hP hS) (fun h => absurd rfl h)
set_option maxHeartbeats 4000000 in
set_option maxRecDepth 100000 in
theorem lc_25 {p : Program} {l : Launch} {e : Env} {s : State} {m : MethodId} {below : List Frame} {meth : Method} {c : Code} {dC : Nat → ClassId} {dI : Nat → Nat → Nat} {dA : Nat → ClassId} {ad : Nat → Nat → Nat} {adV : Nat → Nat} {b L : Nat} {xs : Nat → Int32} (hG : lw_G p s m meth c dC dI dA ad adV b L xs) {x3 : Int32} (h1 : vp_in (x3 + 1) L) (h2 : vp_in (x3 + 2) L) (h3 : vp_in (x3 + 3) L) (h4 : vp_in (x3 + 4) L) {σ : am_M} (hI : Inv σ) {H : Heap} {locs : List Loc} (hP : va_P (dC, dI) vwCl (am_w ad dA σ) H) (hS : va_S (NW s.heap.size) s.heap H locs) {ls : Array Slot} (hl : lv_has ls 4 [(0, .ref b), (1, .ref (ad 0 0)), (2, .ref (ad 20 0)), (3, .int x3)]) (kk : ∀ (τ : am_M) (H1 : Heap) (locs1 : List Loc), Inv τ → va_P (dC, dI) vwCl (am_w ad dA τ) H1 → va_S (NW s.heap.size) s.heap H1 locs1 → W p l e room_1 s m #[Value.ref b] below meth c H1 locs1 600000 7302250 (lw_Z below #[Value.ref b] s) (F0 m 1289 ls [])) : W p l e room_1 s m #[Value.ref b] below meth c H locs 600000 7302250 (lw_Z below #[Value.ref b] s) (F0 m 839 ls []) := by
  obtain ⟨hx, hb, hr, hml, hown, hts, hX, hbl, hlocks, hgv⟩ := id hG.1
  have hbA : ¬ NW s.heap.size b := Nat.not_le.mpr hbl
  refine lv_aload_n hx hb (lw_d5 3 rfl (by decide)) rfl (lv_at hl 1 rfl) ?_
  refine lv_aload_n hx hb (lw_d5 4 rfl (by decide)) rfl (lv_at hl 0 rfl) ?_
  refine lv_iload_n hx hb (lw_d5 5 rfl (by decide)) rfl (lv_at hl 3 rfl) ?_
  refine lv_iconst (v := 1) hx hb (lw_d5 6 rfl (by decide)) (by decide) ?_
  refine lv_iadd hx hb (lw_d5 7 rfl (by decide)) ?_
  refine va_sld hx hb hX hbl hbA hS h1 (lw_d5 8 rfl (by decide)) ?_
  refine lw_call (n := 1) 0 6 [.inl (xs (x3 + 1).toNatClampNeg)] [] hG snX6_last (am_lG iw_240 iw_241 iw_242 wd_162 iw_243) rfl rfl (by decide) (by decide) rfl rfl (by decide +kernel) ⟨Nat.le_of_ble_eq_true rfl, Nat.le_of_ble_eq_true rfl⟩ rfl (am_okIs [xs (x3 + 1).toNatClampNeg]) (pr_last hI) am_k1 hP hS hl.1 (Nat.le_of_ble_eq_true rfl) (lw_d5 9 rfl (by decide)) (fun v τ0 H locs hKv hP hS => ?_)
  obtain ⟨r, hr0, hf⟩ := hKv
  cases hr0
  refine lv_aload_n hx hb (lw_d5 10 rfl (by decide)) rfl (lv_at hl 2 rfl) ?_
  refine lv_aload_n hx hb (lw_d5 11 rfl (by decide)) rfl (lv_at hl 0 rfl) ?_
  refine lv_iload_n hx hb (lw_d5 12 rfl (by decide)) rfl (lv_at hl 3 rfl) ?_
  refine lv_iconst (v := 1) hx hb (lw_d5 13 rfl (by decide)) (by decide) ?_
  refine lv_iadd hx hb (lw_d5 14 rfl (by decide)) ?_
  refine va_sld hx hb hX hbl hbA hS h1 (lw_d5 15 rfl (by decide)) ?_
  refine lw_call (n := 1) 20 7 [.inl (xs (x3 + 1).toNatClampNeg)] [.int r] hG snX7_last (am_lG iw_244 iw_245 iw_246 wd_459 iw_247) rfl rfl (by decide) (by decide) rfl rfl (by decide +kernel) ⟨Nat.le_of_ble_eq_true rfl, Nat.le_of_ble_eq_true rfl⟩ rfl (am_okIs [xs (x3 + 1).toNatClampNeg]) (hf) am_k2 hP hS hl.1 (Nat.le_of_ble_eq_true rfl) (lw_d5 16 rfl (by decide)) (fun v τ1 H locs hKv hP hS => ?_)
  obtain ⟨hr0, hI⟩ := hKv
  cases hr0
  refine lv_icmp_eq (tgt := 1289) hx hb (lw_d5 17 rfl (by decide)) (by decide) (fun _ => kk _ _ _ hI hP hS) (fun h => absurd rfl h)
set_option maxHeartbeats 4000000 in
set_option maxRecDepth 100000 in
theorem lc_26 {p : Program} {l : Launch} {e : Env} {s : State} {m : MethodId} {below : List Frame} {meth : Method} {c : Code} {dC : Nat → ClassId} {dI : Nat → Nat → Nat} {dA : Nat → ClassId} {ad : Nat → Nat → Nat} {adV : Nat → Nat} {b L : Nat} {xs : Nat → Int32} (hG : lw_G p s m meth c dC dI dA ad adV b L xs) {x3 : Int32} (h1 : vp_in (x3 + 1) L) (h2 : vp_in (x3 + 2) L) (h3 : vp_in (x3 + 3) L) (h4 : vp_in (x3 + 4) L) {σ : am_M} (hI : Inv σ) {H : Heap} {locs : List Loc} (hP : va_P (dC, dI) vwCl (am_w ad dA σ) H) (hS : va_S (NW s.heap.size) s.heap H locs) {ls : Array Slot} (hl : lv_has ls 4 [(0, .ref b), (1, .ref (ad 0 0)), (2, .ref (ad 20 0)), (3, .int x3)]) (kk : ∀ (τ : am_M) (H1 : Heap) (locs1 : List Loc), Inv τ → va_P (dC, dI) vwCl (am_w ad dA τ) H1 → va_S (NW s.heap.size) s.heap H1 locs1 → W p l e room_1 s m #[Value.ref b] below meth c H1 locs1 600000 7302250 (lw_Z below #[Value.ref b] s) (F0 m 1289 ls [])) : W p l e room_1 s m #[Value.ref b] below meth c H locs 600000 7302250 (lw_Z below #[Value.ref b] s) (F0 m 862 ls []) := by
  obtain ⟨hx, hb, hr, hml, hown, hts, hX, hbl, hlocks, hgv⟩ := id hG.1
  have hbA : ¬ NW s.heap.size b := Nat.not_le.mpr hbl
  refine lv_aload_n hx hb (lw_d5 20 rfl (by decide)) rfl (lv_at hl 1 rfl) ?_
  refine lv_aload_n hx hb (lw_d5 21 rfl (by decide)) rfl (lv_at hl 0 rfl) ?_
  refine lv_iload_n hx hb (lw_d5 22 rfl (by decide)) rfl (lv_at hl 3 rfl) ?_
  refine lv_iconst (v := 1) hx hb (lw_d5 23 rfl (by decide)) (by decide) ?_
  refine lv_iadd hx hb (lw_d5 24 rfl (by decide)) ?_
  refine va_sld hx hb hX hbl hbA hS h1 (lw_d5 25 rfl (by decide)) ?_
  refine lv_aload_n hx hb (lw_d5 26 rfl (by decide)) rfl (lv_at hl 0 rfl) ?_
  refine lv_iload_n hx hb (lw_d5 27 rfl (by decide)) rfl (lv_at hl 3 rfl) ?_
  refine lv_iconst (v := 2) hx hb (lw_d5 28 rfl (by decide)) (by decide) ?_
  refine lv_iadd hx hb (lw_d5 29 rfl (by decide)) ?_
  refine va_sld hx hb hX hbl hbA hS h2 (lw_d5 30 rfl (by decide)) ?_
  refine lw_call (n := 2) 0 6 [.inl (xs (x3 + 1).toNatClampNeg), .inl (xs (x3 + 2).toNatClampNeg)] [] hG snX6_odds (am_lG iw_248 iw_249 iw_250 wd_162 iw_251) rfl rfl (by decide) (by decide) rfl rfl (by decide +kernel) ⟨Nat.le_of_ble_eq_true rfl, Nat.le_of_ble_eq_true rfl⟩ rfl (am_okIs [xs (x3 + 1).toNatClampNeg, xs (x3 + 2).toNatClampNeg]) (pr_odds hI) am_k3 hP hS hl.1 (Nat.le_of_ble_eq_true rfl) (lw_d5 31 rfl (by decide)) (fun v τ0 H locs hKv hP hS => ?_)
  obtain ⟨r, hr0, hf⟩ := hKv
  cases hr0
  refine lv_aload_n hx hb (lw_d5 32 rfl (by decide)) rfl (lv_at hl 2 rfl) ?_
  refine lv_aload_n hx hb (lw_d5 33 rfl (by decide)) rfl (lv_at hl 0 rfl) ?_
  refine lv_iload_n hx hb (lw_d5 34 rfl (by decide)) rfl (lv_at hl 3 rfl) ?_
  refine lv_iconst (v := 1) hx hb (lw_d5 35 rfl (by decide)) (by decide) ?_
  refine lv_iadd hx hb (lw_d5 36 rfl (by decide)) ?_
  refine va_sld hx hb hX hbl hbA hS h1 (lw_d5 37 rfl (by decide)) ?_
  refine lv_aload_n hx hb (lw_d5 38 rfl (by decide)) rfl (lv_at hl 0 rfl) ?_
  refine lv_iload_n hx hb (lw_d5 39 rfl (by decide)) rfl (lv_at hl 3 rfl) ?_
  refine lv_iconst (v := 2) hx hb (lw_d5 40 rfl (by decide)) (by decide) ?_
  refine lv_iadd hx hb (lw_d5 41 rfl (by decide)) ?_
  refine va_sld hx hb hX hbl hbA hS h2 (lw_d5 42 rfl (by decide)) ?_
  refine lw_call (n := 2) 20 7 [.inl (xs (x3 + 1).toNatClampNeg), .inl (xs (x3 + 2).toNatClampNeg)] [.long r] hG snX7_odds (am_lG iw_252 iw_253 iw_254 wd_459 iw_255) rfl rfl (by decide) (by decide) rfl rfl (by decide +kernel) ⟨Nat.le_of_ble_eq_true rfl, Nat.le_of_ble_eq_true rfl⟩ rfl (am_okIs [xs (x3 + 1).toNatClampNeg, xs (x3 + 2).toNatClampNeg]) (hf) am_k2 hP hS hl.1 (Nat.le_of_ble_eq_true rfl) (lw_d5 43 rfl (by decide)) (fun v τ1 H locs hKv hP hS => ?_)
  obtain ⟨hr0, hI⟩ := hKv
  cases hr0
  refine W.lcmp hx hb (lw_d5 44 rfl (by decide)) ?_
  refine lv_if_eq (tgt := 1289) hx hb (lw_d5 45 rfl (by decide)) (by decide) (fun _ => kk _ _ _ hI hP hS) (fun h => absurd (q_cmp_0.2 rfl) h)
set_option maxHeartbeats 4000000 in
set_option maxRecDepth 100000 in
theorem lc_27 {p : Program} {l : Launch} {e : Env} {s : State} {m : MethodId} {below : List Frame} {meth : Method} {c : Code} {dC : Nat → ClassId} {dI : Nat → Nat → Nat} {dA : Nat → ClassId} {ad : Nat → Nat → Nat} {adV : Nat → Nat} {b L : Nat} {xs : Nat → Int32} (hG : lw_G p s m meth c dC dI dA ad adV b L xs) {x3 : Int32} (h1 : vp_in (x3 + 1) L) (h2 : vp_in (x3 + 2) L) (h3 : vp_in (x3 + 3) L) (h4 : vp_in (x3 + 4) L) {σ : am_M} (hI : Inv σ) {H : Heap} {locs : List Loc} (hP : va_P (dC, dI) vwCl (am_w ad dA σ) H) (hS : va_S (NW s.heap.size) s.heap H locs) {ls : Array Slot} (hl : lv_has ls 4 [(0, .ref b), (1, .ref (ad 0 0)), (2, .ref (ad 20 0)), (3, .int x3)]) (kk : ∀ (τ : am_M) (H1 : Heap) (locs1 : List Loc), Inv τ → va_P (dC, dI) vwCl (am_w ad dA τ) H1 → va_S (NW s.heap.size) s.heap H1 locs1 → W p l e room_1 s m #[Value.ref b] below meth c H1 locs1 600000 7302250 (lw_Z below #[Value.ref b] s) (F0 m 1289 ls [])) : W p l e room_1 s m #[Value.ref b] below meth c H locs 600000 7302250 (lw_Z below #[Value.ref b] s) (F0 m 896 ls []) := by
  obtain ⟨hx, hb, hr, hml, hown, hts, hX, hbl, hlocks, hgv⟩ := id hG.1
  have hbA : ¬ NW s.heap.size b := Nat.not_le.mpr hbl
  refine lv_aload_n hx hb (lw_d5 48 rfl (by decide)) rfl (lv_at hl 1 rfl) ?_
  refine lv_aload_n hx hb (lw_d5 49 rfl (by decide)) rfl (lv_at hl 0 rfl) ?_
  refine lv_iload_n hx hb (lw_d5 50 rfl (by decide)) rfl (lv_at hl 3 rfl) ?_
  refine lv_iconst (v := 1) hx hb (lw_d5 51 rfl (by decide)) (by decide) ?_
  refine lv_iadd hx hb (lw_d5 52 rfl (by decide)) ?_
  refine va_sld hx hb hX hbl hbA hS h1 (lw_d5 53 rfl (by decide)) ?_
  refine lv_aload_n hx hb (lw_d5 54 rfl (by decide)) rfl (lv_at hl 0 rfl) ?_
  refine lv_iload_n hx hb (lw_d5 55 rfl (by decide)) rfl (lv_at hl 3 rfl) ?_
  refine lv_iconst (v := 2) hx hb (lw_d5 56 rfl (by decide)) (by decide) ?_
  refine lv_iadd hx hb (lw_d5 57 rfl (by decide)) ?_
  refine va_sld hx hb hX hbl hbA hS h2 (lw_d5 58 rfl (by decide)) ?_
  refine lw_call (n := 2) 0 6 [.inl (xs (x3 + 1).toNatClampNeg), .inl (xs (x3 + 2).toNatClampNeg)] [] hG snX6_mean (am_lG iw_256 iw_257 iw_258 wd_162 iw_259) rfl rfl (by decide) (by decide) rfl rfl (by decide +kernel) ⟨Nat.le_of_ble_eq_true rfl, Nat.le_of_ble_eq_true rfl⟩ rfl (am_okIs [xs (x3 + 1).toNatClampNeg, xs (x3 + 2).toNatClampNeg]) (pr_mean hI) am_k3 hP hS hl.1 (Nat.le_of_ble_eq_true rfl) (lw_d5 59 rfl (by decide)) (fun v τ0 H locs hKv hP hS => ?_)
  obtain ⟨r, hr0, hf⟩ := hKv
  cases hr0
  refine lv_aload_n hx hb (lw_d5 60 rfl (by decide)) rfl (lv_at hl 2 rfl) ?_
  refine lv_aload_n hx hb (lw_d5 61 rfl (by decide)) rfl (lv_at hl 0 rfl) ?_
  refine lv_iload_n hx hb (lw_d5 62 rfl (by decide)) rfl (lv_at hl 3 rfl) ?_
  refine lv_iconst (v := 1) hx hb (lw_d5 63 rfl (by decide)) (by decide) ?_
  refine lv_iadd hx hb (lw_d5 64 rfl (by decide)) ?_
  refine va_sld hx hb hX hbl hbA hS h1 (lw_d5 65 rfl (by decide)) ?_
  refine lv_aload_n hx hb (lw_d5 66 rfl (by decide)) rfl (lv_at hl 0 rfl) ?_
  refine lv_iload_n hx hb (lw_d5 67 rfl (by decide)) rfl (lv_at hl 3 rfl) ?_
  refine lv_iconst (v := 2) hx hb (lw_d5 68 rfl (by decide)) (by decide) ?_
  refine lv_iadd hx hb (lw_d5 69 rfl (by decide)) ?_
  refine va_sld hx hb hX hbl hbA hS h2 (lw_d5 70 rfl (by decide)) ?_
  refine lw_call (n := 2) 20 7 [.inl (xs (x3 + 1).toNatClampNeg), .inl (xs (x3 + 2).toNatClampNeg)] [.long r] hG snX7_mean (am_lG iw_260 iw_261 iw_262 wd_459 iw_263) rfl rfl (by decide) (by decide) rfl rfl (by decide +kernel) ⟨Nat.le_of_ble_eq_true rfl, Nat.le_of_ble_eq_true rfl⟩ rfl (am_okIs [xs (x3 + 1).toNatClampNeg, xs (x3 + 2).toNatClampNeg]) (hf) am_k2 hP hS hl.1 (Nat.le_of_ble_eq_true rfl) (lw_d5 71 rfl (by decide)) (fun v τ1 H locs hKv hP hS => ?_)
  obtain ⟨hr0, hI⟩ := hKv
  cases hr0
  refine W.lcmp hx hb (lw_d5 72 rfl (by decide)) ?_
  refine lv_if_eq (tgt := 1289) hx hb (lw_d5 73 rfl (by decide)) (by decide) (fun _ => kk _ _ _ hI hP hS) (fun h => absurd (q_cmp_0.2 rfl) h)
set_option maxHeartbeats 4000000 in
set_option maxRecDepth 100000 in
theorem lc_28 {p : Program} {l : Launch} {e : Env} {s : State} {m : MethodId} {below : List Frame} {meth : Method} {c : Code} {dC : Nat → ClassId} {dI : Nat → Nat → Nat} {dA : Nat → ClassId} {ad : Nat → Nat → Nat} {adV : Nat → Nat} {b L : Nat} {xs : Nat → Int32} (hG : lw_G p s m meth c dC dI dA ad adV b L xs) {x3 : Int32} (h1 : vp_in (x3 + 1) L) (h2 : vp_in (x3 + 2) L) (h3 : vp_in (x3 + 3) L) (h4 : vp_in (x3 + 4) L) {σ : am_M} (hI : Inv σ) {H : Heap} {locs : List Loc} (hP : va_P (dC, dI) vwCl (am_w ad dA σ) H) (hS : va_S (NW s.heap.size) s.heap H locs) {ls : Array Slot} (hl : lv_has ls 4 [(0, .ref b), (1, .ref (ad 0 0)), (2, .ref (ad 20 0)), (3, .int x3)]) (kk : ∀ (τ : am_M) (H1 : Heap) (locs1 : List Loc), Inv τ → va_P (dC, dI) vwCl (am_w ad dA τ) H1 → va_S (NW s.heap.size) s.heap H1 locs1 → W p l e room_1 s m #[Value.ref b] below meth c H1 locs1 600000 7302250 (lw_Z below #[Value.ref b] s) (F0 m 1289 ls [])) : W p l e room_1 s m #[Value.ref b] below meth c H locs 600000 7302250 (lw_Z below #[Value.ref b] s) (F0 m 930 ls []) := by
  obtain ⟨hx, hb, hr, hml, hown, hts, hX, hbl, hlocks, hgv⟩ := id hG.1
  have hbA : ¬ NW s.heap.size b := Nat.not_le.mpr hbl
  by_cases hz : xs (x3 + 2).toNatClampNeg = 0
  · skip
    refine lv_aload_n hx hb (lw_d5 76 rfl (by decide)) rfl (lv_at hl 1 rfl) ?_
    refine lv_aload_n hx hb (lw_d5 77 rfl (by decide)) rfl (lv_at hl 0 rfl) ?_
    refine lv_iload_n hx hb (lw_d5 78 rfl (by decide)) rfl (lv_at hl 3 rfl) ?_
    refine lv_iconst (v := 1) hx hb (lw_d5 79 rfl (by decide)) (by decide) ?_
    refine lv_iadd hx hb (lw_d5 80 rfl (by decide)) ?_
    refine va_sld hx hb hX hbl hbA hS h1 (lw_d5 81 rfl (by decide)) ?_
    refine lv_aload_n hx hb (lw_d5 82 rfl (by decide)) rfl (lv_at hl 0 rfl) ?_
    refine lv_iload_n hx hb (lw_d5 83 rfl (by decide)) rfl (lv_at hl 3 rfl) ?_
    refine lv_iconst (v := 2) hx hb (lw_d5 84 rfl (by decide)) (by decide) ?_
    refine lv_iadd hx hb (lw_d5 85 rfl (by decide)) ?_
    refine va_sld hx hb hX hbl hbA hS h2 (lw_d5 86 rfl (by decide)) ?_
    refine lv_if_eq (tgt := 948) hx hb (lw_d5 87 rfl (by decide)) (by decide) (fun _ => ?_) (fun h => absurd hz h)
    refine lv_iconst (v := 0) hx hb (lw_d5 90 rfl (by decide)) (by decide) ?_
    refine lw_call (n := 2) 0 6 [.inl (xs (x3 + 1).toNatClampNeg), .inl 0] [] hG snX6_see (am_lG iw_264 iw_265 iw_266 wd_162 iw_267) rfl rfl (by decide) (by decide) rfl rfl (by decide +kernel) ⟨Nat.le_of_ble_eq_true rfl, Nat.le_of_ble_eq_true rfl⟩ rfl (am_okIs [xs (x3 + 1).toNatClampNeg, 0]) (pr_see hI (Or.inl rfl)) am_k1 hP hS hl.1 (Nat.le_of_ble_eq_true rfl) (lw_d5 91 rfl (by decide)) (fun v τ0 H locs hKv hP hS => ?_)
    obtain ⟨r, hr0, hf⟩ := hKv
    cases hr0
    refine lv_aload_n hx hb (lw_d5 92 rfl (by decide)) rfl (lv_at hl 2 rfl) ?_
    refine lv_aload_n hx hb (lw_d5 93 rfl (by decide)) rfl (lv_at hl 0 rfl) ?_
    refine lv_iload_n hx hb (lw_d5 94 rfl (by decide)) rfl (lv_at hl 3 rfl) ?_
    refine lv_iconst (v := 1) hx hb (lw_d5 95 rfl (by decide)) (by decide) ?_
    refine lv_iadd hx hb (lw_d5 96 rfl (by decide)) ?_
    refine va_sld hx hb hX hbl hbA hS h1 (lw_d5 97 rfl (by decide)) ?_
    refine lv_aload_n hx hb (lw_d5 98 rfl (by decide)) rfl (lv_at hl 0 rfl) ?_
    refine lv_iload_n hx hb (lw_d5 99 rfl (by decide)) rfl (lv_at hl 3 rfl) ?_
    refine lv_iconst (v := 2) hx hb (lw_d6 0 rfl (by decide)) (by decide) ?_
    refine lv_iadd hx hb (lw_d6 1 rfl (by decide)) ?_
    refine va_sld hx hb hX hbl hbA hS h2 (lw_d6 2 rfl (by decide)) ?_
    refine lv_if_eq (tgt := 970) hx hb (lw_d6 3 rfl (by decide)) (by decide) (fun _ => ?_) (fun h => absurd hz h)
    refine lv_iconst (v := 0) hx hb (lw_d6 6 rfl (by decide)) (by decide) ?_
    refine lw_call (n := 2) 20 7 [.inl (xs (x3 + 1).toNatClampNeg), .inl 0] [.int r] hG snX7_see (am_lG iw_268 iw_269 iw_270 wd_459 iw_271) rfl rfl (by decide) (by decide) rfl rfl (by decide +kernel) ⟨Nat.le_of_ble_eq_true rfl, Nat.le_of_ble_eq_true rfl⟩ rfl (am_okIs [xs (x3 + 1).toNatClampNeg, 0]) (hf) am_k2 hP hS hl.1 (Nat.le_of_ble_eq_true rfl) (lw_d6 7 rfl (by decide)) (fun v τ1 H locs hKv hP hS => ?_)
    obtain ⟨hr0, hI⟩ := hKv
    cases hr0
    refine lv_icmp_eq (tgt := 1289) hx hb (lw_d6 8 rfl (by decide)) (by decide) (fun _ => kk _ _ _ hI hP hS) (fun h => absurd rfl h)
  · skip
    refine lv_aload_n hx hb (lw_d5 76 rfl (by decide)) rfl (lv_at hl 1 rfl) ?_
    refine lv_aload_n hx hb (lw_d5 77 rfl (by decide)) rfl (lv_at hl 0 rfl) ?_
    refine lv_iload_n hx hb (lw_d5 78 rfl (by decide)) rfl (lv_at hl 3 rfl) ?_
    refine lv_iconst (v := 1) hx hb (lw_d5 79 rfl (by decide)) (by decide) ?_
    refine lv_iadd hx hb (lw_d5 80 rfl (by decide)) ?_
    refine va_sld hx hb hX hbl hbA hS h1 (lw_d5 81 rfl (by decide)) ?_
    refine lv_aload_n hx hb (lw_d5 82 rfl (by decide)) rfl (lv_at hl 0 rfl) ?_
    refine lv_iload_n hx hb (lw_d5 83 rfl (by decide)) rfl (lv_at hl 3 rfl) ?_
    refine lv_iconst (v := 2) hx hb (lw_d5 84 rfl (by decide)) (by decide) ?_
    refine lv_iadd hx hb (lw_d5 85 rfl (by decide)) ?_
    refine va_sld hx hb hX hbl hbA hS h2 (lw_d5 86 rfl (by decide)) ?_
    refine lv_if_eq (tgt := 948) hx hb (lw_d5 87 rfl (by decide)) (by decide) (fun h => absurd h hz) (fun _ => ?_)
    refine lv_iconst (v := 1) hx hb (lw_d5 88 rfl (by decide)) (by decide) ?_
    refine lv_goto (tgt := 949) hx hb (lw_d5 89 rfl (by decide)) (by decide) ?_
    refine lw_call (n := 2) 0 6 [.inl (xs (x3 + 1).toNatClampNeg), .inl 1] [] hG snX6_see (am_lG iw_264 iw_265 iw_266 wd_162 iw_267) rfl rfl (by decide) (by decide) rfl rfl (by decide +kernel) ⟨Nat.le_of_ble_eq_true rfl, Nat.le_of_ble_eq_true rfl⟩ rfl (am_okIs [xs (x3 + 1).toNatClampNeg, 1]) (pr_see hI (Or.inr rfl)) am_k1 hP hS hl.1 (Nat.le_of_ble_eq_true rfl) (lw_d5 91 rfl (by decide)) (fun v τ0 H locs hKv hP hS => ?_)
    obtain ⟨r, hr0, hf⟩ := hKv
    cases hr0
    refine lv_aload_n hx hb (lw_d5 92 rfl (by decide)) rfl (lv_at hl 2 rfl) ?_
    refine lv_aload_n hx hb (lw_d5 93 rfl (by decide)) rfl (lv_at hl 0 rfl) ?_
    refine lv_iload_n hx hb (lw_d5 94 rfl (by decide)) rfl (lv_at hl 3 rfl) ?_
    refine lv_iconst (v := 1) hx hb (lw_d5 95 rfl (by decide)) (by decide) ?_
    refine lv_iadd hx hb (lw_d5 96 rfl (by decide)) ?_
    refine va_sld hx hb hX hbl hbA hS h1 (lw_d5 97 rfl (by decide)) ?_
    refine lv_aload_n hx hb (lw_d5 98 rfl (by decide)) rfl (lv_at hl 0 rfl) ?_
    refine lv_iload_n hx hb (lw_d5 99 rfl (by decide)) rfl (lv_at hl 3 rfl) ?_
    refine lv_iconst (v := 2) hx hb (lw_d6 0 rfl (by decide)) (by decide) ?_
    refine lv_iadd hx hb (lw_d6 1 rfl (by decide)) ?_
    refine va_sld hx hb hX hbl hbA hS h2 (lw_d6 2 rfl (by decide)) ?_
    refine lv_if_eq (tgt := 970) hx hb (lw_d6 3 rfl (by decide)) (by decide) (fun h => absurd h hz) (fun _ => ?_)
    refine lv_iconst (v := 1) hx hb (lw_d6 4 rfl (by decide)) (by decide) ?_
    refine lv_goto (tgt := 971) hx hb (lw_d6 5 rfl (by decide)) (by decide) ?_
    refine lw_call (n := 2) 20 7 [.inl (xs (x3 + 1).toNatClampNeg), .inl 1] [.int r] hG snX7_see (am_lG iw_268 iw_269 iw_270 wd_459 iw_271) rfl rfl (by decide) (by decide) rfl rfl (by decide +kernel) ⟨Nat.le_of_ble_eq_true rfl, Nat.le_of_ble_eq_true rfl⟩ rfl (am_okIs [xs (x3 + 1).toNatClampNeg, 1]) (hf) am_k2 hP hS hl.1 (Nat.le_of_ble_eq_true rfl) (lw_d6 7 rfl (by decide)) (fun v τ1 H locs hKv hP hS => ?_)
    obtain ⟨hr0, hI⟩ := hKv
    cases hr0
    refine lv_icmp_eq (tgt := 1289) hx hb (lw_d6 8 rfl (by decide)) (by decide) (fun _ => kk _ _ _ hI hP hS) (fun h => absurd rfl h)
set_option maxHeartbeats 4000000 in
set_option maxRecDepth 100000 in
theorem lc_29 {p : Program} {l : Launch} {e : Env} {s : State} {m : MethodId} {below : List Frame} {meth : Method} {c : Code} {dC : Nat → ClassId} {dI : Nat → Nat → Nat} {dA : Nat → ClassId} {ad : Nat → Nat → Nat} {adV : Nat → Nat} {b L : Nat} {xs : Nat → Int32} (hG : lw_G p s m meth c dC dI dA ad adV b L xs) {x3 : Int32} (h1 : vp_in (x3 + 1) L) (h2 : vp_in (x3 + 2) L) (h3 : vp_in (x3 + 3) L) (h4 : vp_in (x3 + 4) L) {σ : am_M} (hI : Inv σ) {H : Heap} {locs : List Loc} (hP : va_P (dC, dI) vwCl (am_w ad dA σ) H) (hS : va_S (NW s.heap.size) s.heap H locs) {ls : Array Slot} (hl : lv_has ls 4 [(0, .ref b), (1, .ref (ad 0 0)), (2, .ref (ad 20 0)), (3, .int x3)]) (kk : ∀ (τ : am_M) (H1 : Heap) (locs1 : List Loc), Inv τ → va_P (dC, dI) vwCl (am_w ad dA τ) H1 → va_S (NW s.heap.size) s.heap H1 locs1 → W p l e room_1 s m #[Value.ref b] below meth c H1 locs1 600000 7302250 (lw_Z below #[Value.ref b] s) (F0 m 1289 ls [])) : W p l e room_1 s m #[Value.ref b] below meth c H locs 600000 7302250 (lw_Z below #[Value.ref b] s) (F0 m 979 ls []) := by
  obtain ⟨hx, hb, hr, hml, hown, hts, hX, hbl, hlocks, hgv⟩ := id hG.1
  have hbA : ¬ NW s.heap.size b := Nat.not_le.mpr hbl
  refine lv_aload_n hx hb (lw_d6 11 rfl (by decide)) rfl (lv_at hl 1 rfl) ?_
  refine lv_aload_n hx hb (lw_d6 12 rfl (by decide)) rfl (lv_at hl 0 rfl) ?_
  refine lv_iload_n hx hb (lw_d6 13 rfl (by decide)) rfl (lv_at hl 3 rfl) ?_
  refine lv_iconst (v := 1) hx hb (lw_d6 14 rfl (by decide)) (by decide) ?_
  refine lv_iadd hx hb (lw_d6 15 rfl (by decide)) ?_
  refine va_sld hx hb hX hbl hbA hS h1 (lw_d6 16 rfl (by decide)) ?_
  refine lw_call (n := 1) 0 6 [.inl (xs (x3 + 1).toNatClampNeg)] [] hG snX6_forget (am_lG iw_272 iw_273 iw_274 wd_162 iw_275) rfl rfl (by decide) (by decide) rfl rfl (by decide +kernel) ⟨Nat.le_of_ble_eq_true rfl, Nat.le_of_ble_eq_true rfl⟩ rfl (am_okIs [xs (x3 + 1).toNatClampNeg]) (pr_forget hI) am_k1 hP hS hl.1 (Nat.le_of_ble_eq_true rfl) (lw_d6 17 rfl (by decide)) (fun v τ0 H locs hKv hP hS => ?_)
  obtain ⟨r, hr0, hf⟩ := hKv
  cases hr0
  refine lv_aload_n hx hb (lw_d6 18 rfl (by decide)) rfl (lv_at hl 2 rfl) ?_
  refine lv_aload_n hx hb (lw_d6 19 rfl (by decide)) rfl (lv_at hl 0 rfl) ?_
  refine lv_iload_n hx hb (lw_d6 20 rfl (by decide)) rfl (lv_at hl 3 rfl) ?_
  refine lv_iconst (v := 1) hx hb (lw_d6 21 rfl (by decide)) (by decide) ?_
  refine lv_iadd hx hb (lw_d6 22 rfl (by decide)) ?_
  refine va_sld hx hb hX hbl hbA hS h1 (lw_d6 23 rfl (by decide)) ?_
  refine lw_call (n := 1) 20 7 [.inl (xs (x3 + 1).toNatClampNeg)] [.int r] hG snX7_forget (am_lG iw_276 iw_277 iw_278 wd_459 iw_279) rfl rfl (by decide) (by decide) rfl rfl (by decide +kernel) ⟨Nat.le_of_ble_eq_true rfl, Nat.le_of_ble_eq_true rfl⟩ rfl (am_okIs [xs (x3 + 1).toNatClampNeg]) (hf) am_k2 hP hS hl.1 (Nat.le_of_ble_eq_true rfl) (lw_d6 24 rfl (by decide)) (fun v τ1 H locs hKv hP hS => ?_)
  obtain ⟨hr0, hI⟩ := hKv
  cases hr0
  refine lv_icmp_eq (tgt := 1289) hx hb (lw_d6 25 rfl (by decide)) (by decide) (fun _ => kk _ _ _ hI hP hS) (fun h => absurd rfl h)
set_option maxHeartbeats 4000000 in
set_option maxRecDepth 100000 in
theorem lc_30 {p : Program} {l : Launch} {e : Env} {s : State} {m : MethodId} {below : List Frame} {meth : Method} {c : Code} {dC : Nat → ClassId} {dI : Nat → Nat → Nat} {dA : Nat → ClassId} {ad : Nat → Nat → Nat} {adV : Nat → Nat} {b L : Nat} {xs : Nat → Int32} (hG : lw_G p s m meth c dC dI dA ad adV b L xs) {x3 : Int32} (h1 : vp_in (x3 + 1) L) (h2 : vp_in (x3 + 2) L) (h3 : vp_in (x3 + 3) L) (h4 : vp_in (x3 + 4) L) {σ : am_M} (hI : Inv σ) {H : Heap} {locs : List Loc} (hP : va_P (dC, dI) vwCl (am_w ad dA σ) H) (hS : va_S (NW s.heap.size) s.heap H locs) {ls : Array Slot} (hl : lv_has ls 4 [(0, .ref b), (1, .ref (ad 0 0)), (2, .ref (ad 20 0)), (3, .int x3)]) (kk : ∀ (τ : am_M) (H1 : Heap) (locs1 : List Loc), Inv τ → va_P (dC, dI) vwCl (am_w ad dA τ) H1 → va_S (NW s.heap.size) s.heap H1 locs1 → W p l e room_1 s m #[Value.ref b] below meth c H1 locs1 600000 7302250 (lw_Z below #[Value.ref b] s) (F0 m 1289 ls [])) : W p l e room_1 s m #[Value.ref b] below meth c H locs 600000 7302250 (lw_Z below #[Value.ref b] s) (F0 m 1002 ls []) := by
  obtain ⟨hx, hb, hr, hml, hown, hts, hX, hbl, hlocks, hgv⟩ := id hG.1
  have hbA : ¬ NW s.heap.size b := Nat.not_le.mpr hbl
  refine lv_aload_n hx hb (lw_d6 28 rfl (by decide)) rfl (lv_at hl 1 rfl) ?_
  refine lv_aload_n hx hb (lw_d6 29 rfl (by decide)) rfl (lv_at hl 0 rfl) ?_
  refine lv_iload_n hx hb (lw_d6 30 rfl (by decide)) rfl (lv_at hl 3 rfl) ?_
  refine lv_iconst (v := 1) hx hb (lw_d6 31 rfl (by decide)) (by decide) ?_
  refine lv_iadd hx hb (lw_d6 32 rfl (by decide)) ?_
  refine va_sld hx hb hX hbl hbA hS h1 (lw_d6 33 rfl (by decide)) ?_
  refine lw_call (n := 1) 0 6 [.inl (xs (x3 + 1).toNatClampNeg)] [] hG snX6_fits (am_lG iw_280 iw_281 iw_282 wd_162 iw_283) rfl rfl (by decide) (by decide) rfl rfl (by decide +kernel) ⟨Nat.le_of_ble_eq_true rfl, Nat.le_of_ble_eq_true rfl⟩ rfl (am_okIs [xs (x3 + 1).toNatClampNeg]) (pr_fits hI) am_k1 hP hS hl.1 (Nat.le_of_ble_eq_true rfl) (lw_d6 34 rfl (by decide)) (fun v τ0 H locs hKv hP hS => ?_)
  obtain ⟨r, hr0, hf⟩ := hKv
  cases hr0
  refine lv_aload_n hx hb (lw_d6 35 rfl (by decide)) rfl (lv_at hl 2 rfl) ?_
  refine lv_aload_n hx hb (lw_d6 36 rfl (by decide)) rfl (lv_at hl 0 rfl) ?_
  refine lv_iload_n hx hb (lw_d6 37 rfl (by decide)) rfl (lv_at hl 3 rfl) ?_
  refine lv_iconst (v := 1) hx hb (lw_d6 38 rfl (by decide)) (by decide) ?_
  refine lv_iadd hx hb (lw_d6 39 rfl (by decide)) ?_
  refine va_sld hx hb hX hbl hbA hS h1 (lw_d6 40 rfl (by decide)) ?_
  refine lw_call (n := 1) 20 7 [.inl (xs (x3 + 1).toNatClampNeg)] [.int r] hG snX7_fits (am_lG iw_284 iw_285 iw_286 wd_459 iw_287) rfl rfl (by decide) (by decide) rfl rfl (by decide +kernel) ⟨Nat.le_of_ble_eq_true rfl, Nat.le_of_ble_eq_true rfl⟩ rfl (am_okIs [xs (x3 + 1).toNatClampNeg]) (hf) am_k2 hP hS hl.1 (Nat.le_of_ble_eq_true rfl) (lw_d6 41 rfl (by decide)) (fun v τ1 H locs hKv hP hS => ?_)
  obtain ⟨hr0, hI⟩ := hKv
  cases hr0
  refine lv_icmp_eq (tgt := 1289) hx hb (lw_d6 42 rfl (by decide)) (by decide) (fun _ => kk _ _ _ hI hP hS) (fun h => absurd rfl h)
set_option maxHeartbeats 4000000 in
set_option maxRecDepth 100000 in
theorem lc_31 {p : Program} {l : Launch} {e : Env} {s : State} {m : MethodId} {below : List Frame} {meth : Method} {c : Code} {dC : Nat → ClassId} {dI : Nat → Nat → Nat} {dA : Nat → ClassId} {ad : Nat → Nat → Nat} {adV : Nat → Nat} {b L : Nat} {xs : Nat → Int32} (hG : lw_G p s m meth c dC dI dA ad adV b L xs) {x3 : Int32} (h1 : vp_in (x3 + 1) L) (h2 : vp_in (x3 + 2) L) (h3 : vp_in (x3 + 3) L) (h4 : vp_in (x3 + 4) L) {σ : am_M} (hI : Inv σ) {H : Heap} {locs : List Loc} (hP : va_P (dC, dI) vwCl (am_w ad dA σ) H) (hS : va_S (NW s.heap.size) s.heap H locs) {ls : Array Slot} (hl : lv_has ls 4 [(0, .ref b), (1, .ref (ad 0 0)), (2, .ref (ad 20 0)), (3, .int x3)]) (kk : ∀ (τ : am_M) (H1 : Heap) (locs1 : List Loc), Inv τ → va_P (dC, dI) vwCl (am_w ad dA τ) H1 → va_S (NW s.heap.size) s.heap H1 locs1 → W p l e room_1 s m #[Value.ref b] below meth c H1 locs1 600000 7302250 (lw_Z below #[Value.ref b] s) (F0 m 1289 ls [])) : W p l e room_1 s m #[Value.ref b] below meth c H locs 600000 7302250 (lw_Z below #[Value.ref b] s) (F0 m 1025 ls []) := by
  obtain ⟨hx, hb, hr, hml, hown, hts, hX, hbl, hlocks, hgv⟩ := id hG.1
  have hbA : ¬ NW s.heap.size b := Nat.not_le.mpr hbl
  refine lv_aload_n hx hb (lw_d6 45 rfl (by decide)) rfl (lv_at hl 1 rfl) ?_
  refine lv_aload_n hx hb (lw_d6 46 rfl (by decide)) rfl (lv_at hl 0 rfl) ?_
  refine lv_iload_n hx hb (lw_d6 47 rfl (by decide)) rfl (lv_at hl 3 rfl) ?_
  refine lv_iconst (v := 1) hx hb (lw_d6 48 rfl (by decide)) (by decide) ?_
  refine lv_iadd hx hb (lw_d6 49 rfl (by decide)) ?_
  refine va_sld hx hb hX hbl hbA hS h1 (lw_d6 50 rfl (by decide)) ?_
  refine lv_aload_n hx hb (lw_d6 51 rfl (by decide)) rfl (lv_at hl 0 rfl) ?_
  refine lv_iload_n hx hb (lw_d6 52 rfl (by decide)) rfl (lv_at hl 3 rfl) ?_
  refine lv_iconst (v := 2) hx hb (lw_d6 53 rfl (by decide)) (by decide) ?_
  refine lv_iadd hx hb (lw_d6 54 rfl (by decide)) ?_
  refine va_sld hx hb hX hbl hbA hS h2 (lw_d6 55 rfl (by decide)) ?_
  refine lv_aload_n hx hb (lw_d6 56 rfl (by decide)) rfl (lv_at hl 0 rfl) ?_
  refine lv_iload_n hx hb (lw_d6 57 rfl (by decide)) rfl (lv_at hl 3 rfl) ?_
  refine lv_iconst (v := 3) hx hb (lw_d6 58 rfl (by decide)) (by decide) ?_
  refine lv_iadd hx hb (lw_d6 59 rfl (by decide)) ?_
  refine va_sld hx hb hX hbl hbA hS h3 (lw_d6 60 rfl (by decide)) ?_
  refine lw_call (n := 3) 0 6 [.inl (xs (x3 + 1).toNatClampNeg), .inl (xs (x3 + 2).toNatClampNeg), .inl (xs (x3 + 3).toNatClampNeg)] [] hG snX6_drift (am_lG iw_288 iw_289 iw_290 wd_162 iw_291) rfl rfl (by decide) (by decide) rfl rfl (by decide +kernel) ⟨Nat.le_of_ble_eq_true rfl, Nat.le_of_ble_eq_true rfl⟩ rfl (am_okIs [xs (x3 + 1).toNatClampNeg, xs (x3 + 2).toNatClampNeg, xs (x3 + 3).toNatClampNeg]) (pr_drift hI) am_k1 hP hS hl.1 (Nat.le_of_ble_eq_true rfl) (lw_d6 61 rfl (by decide)) (fun v τ0 H locs hKv hP hS => ?_)
  obtain ⟨r, hr0, hf⟩ := hKv
  cases hr0
  refine lv_aload_n hx hb (lw_d6 62 rfl (by decide)) rfl (lv_at hl 2 rfl) ?_
  refine lv_aload_n hx hb (lw_d6 63 rfl (by decide)) rfl (lv_at hl 0 rfl) ?_
  refine lv_iload_n hx hb (lw_d6 64 rfl (by decide)) rfl (lv_at hl 3 rfl) ?_
  refine lv_iconst (v := 1) hx hb (lw_d6 65 rfl (by decide)) (by decide) ?_
  refine lv_iadd hx hb (lw_d6 66 rfl (by decide)) ?_
  refine va_sld hx hb hX hbl hbA hS h1 (lw_d6 67 rfl (by decide)) ?_
  refine lv_aload_n hx hb (lw_d6 68 rfl (by decide)) rfl (lv_at hl 0 rfl) ?_
  refine lv_iload_n hx hb (lw_d6 69 rfl (by decide)) rfl (lv_at hl 3 rfl) ?_
  refine lv_iconst (v := 2) hx hb (lw_d6 70 rfl (by decide)) (by decide) ?_
  refine lv_iadd hx hb (lw_d6 71 rfl (by decide)) ?_
  refine va_sld hx hb hX hbl hbA hS h2 (lw_d6 72 rfl (by decide)) ?_
  refine lv_aload_n hx hb (lw_d6 73 rfl (by decide)) rfl (lv_at hl 0 rfl) ?_
  refine lv_iload_n hx hb (lw_d6 74 rfl (by decide)) rfl (lv_at hl 3 rfl) ?_
  refine lv_iconst (v := 3) hx hb (lw_d6 75 rfl (by decide)) (by decide) ?_
  refine lv_iadd hx hb (lw_d6 76 rfl (by decide)) ?_
  refine va_sld hx hb hX hbl hbA hS h3 (lw_d6 77 rfl (by decide)) ?_
  refine lw_call (n := 3) 20 7 [.inl (xs (x3 + 1).toNatClampNeg), .inl (xs (x3 + 2).toNatClampNeg), .inl (xs (x3 + 3).toNatClampNeg)] [.int r] hG snX7_drift (am_lG iw_292 iw_293 iw_294 wd_459 iw_295) rfl rfl (by decide) (by decide) rfl rfl (by decide +kernel) ⟨Nat.le_of_ble_eq_true rfl, Nat.le_of_ble_eq_true rfl⟩ rfl (am_okIs [xs (x3 + 1).toNatClampNeg, xs (x3 + 2).toNatClampNeg, xs (x3 + 3).toNatClampNeg]) (hf) am_k2 hP hS hl.1 (Nat.le_of_ble_eq_true rfl) (lw_d6 78 rfl (by decide)) (fun v τ1 H locs hKv hP hS => ?_)
  obtain ⟨hr0, hI⟩ := hKv
  cases hr0
  refine lv_icmp_eq (tgt := 1289) hx hb (lw_d6 79 rfl (by decide)) (by decide) (fun _ => kk _ _ _ hI hP hS) (fun h => absurd rfl h)
set_option maxHeartbeats 4000000 in
set_option maxRecDepth 100000 in
theorem lc_32 {p : Program} {l : Launch} {e : Env} {s : State} {m : MethodId} {below : List Frame} {meth : Method} {c : Code} {dC : Nat → ClassId} {dI : Nat → Nat → Nat} {dA : Nat → ClassId} {ad : Nat → Nat → Nat} {adV : Nat → Nat} {b L : Nat} {xs : Nat → Int32} (hG : lw_G p s m meth c dC dI dA ad adV b L xs) {x3 : Int32} (h1 : vp_in (x3 + 1) L) (h2 : vp_in (x3 + 2) L) (h3 : vp_in (x3 + 3) L) (h4 : vp_in (x3 + 4) L) {σ : am_M} (hI : Inv σ) {H : Heap} {locs : List Loc} (hP : va_P (dC, dI) vwCl (am_w ad dA σ) H) (hS : va_S (NW s.heap.size) s.heap H locs) {ls : Array Slot} (hl : lv_has ls 4 [(0, .ref b), (1, .ref (ad 0 0)), (2, .ref (ad 20 0)), (3, .int x3)]) (kk : ∀ (τ : am_M) (H1 : Heap) (locs1 : List Loc), Inv τ → va_P (dC, dI) vwCl (am_w ad dA τ) H1 → va_S (NW s.heap.size) s.heap H1 locs1 → W p l e room_1 s m #[Value.ref b] below meth c H1 locs1 600000 7302250 (lw_Z below #[Value.ref b] s) (F0 m 1289 ls [])) : W p l e room_1 s m #[Value.ref b] below meth c H locs 600000 7302250 (lw_Z below #[Value.ref b] s) (F0 m 1068 ls []) := by
  obtain ⟨hx, hb, hr, hml, hown, hts, hX, hbl, hlocks, hgv⟩ := id hG.1
  have hbA : ¬ NW s.heap.size b := Nat.not_le.mpr hbl
  refine lv_aload_n hx hb (lw_d6 82 rfl (by decide)) rfl (lv_at hl 1 rfl) ?_
  refine lv_aload_n hx hb (lw_d6 83 rfl (by decide)) rfl (lv_at hl 0 rfl) ?_
  refine lv_iload_n hx hb (lw_d6 84 rfl (by decide)) rfl (lv_at hl 3 rfl) ?_
  refine lv_iconst (v := 1) hx hb (lw_d6 85 rfl (by decide)) (by decide) ?_
  refine lv_iadd hx hb (lw_d6 86 rfl (by decide)) ?_
  refine va_sld hx hb hX hbl hbA hS h1 (lw_d6 87 rfl (by decide)) ?_
  refine lw_call (n := 1) 0 6 [.inl (xs (x3 + 1).toNatClampNeg)] [] hG snX6_keep (am_lG iw_296 iw_297 iw_298 wd_162 iw_299) rfl rfl (by decide) (by decide) rfl rfl (by decide +kernel) ⟨Nat.le_of_ble_eq_true rfl, Nat.le_of_ble_eq_true rfl⟩ rfl (am_okIs [xs (x3 + 1).toNatClampNeg]) (pr_keep hI) am_k1 hP hS hl.1 (Nat.le_of_ble_eq_true rfl) (lw_d6 88 rfl (by decide)) (fun v τ0 H locs hKv hP hS => ?_)
  obtain ⟨r, hr0, hf⟩ := hKv
  cases hr0
  refine lv_aload_n hx hb (lw_d6 89 rfl (by decide)) rfl (lv_at hl 2 rfl) ?_
  refine lv_aload_n hx hb (lw_d6 90 rfl (by decide)) rfl (lv_at hl 0 rfl) ?_
  refine lv_iload_n hx hb (lw_d6 91 rfl (by decide)) rfl (lv_at hl 3 rfl) ?_
  refine lv_iconst (v := 1) hx hb (lw_d6 92 rfl (by decide)) (by decide) ?_
  refine lv_iadd hx hb (lw_d6 93 rfl (by decide)) ?_
  refine va_sld hx hb hX hbl hbA hS h1 (lw_d6 94 rfl (by decide)) ?_
  refine lw_call (n := 1) 20 7 [.inl (xs (x3 + 1).toNatClampNeg)] [.int r] hG snX7_keep (am_lG iw_300 iw_301 iw_302 wd_459 iw_303) rfl rfl (by decide) (by decide) rfl rfl (by decide +kernel) ⟨Nat.le_of_ble_eq_true rfl, Nat.le_of_ble_eq_true rfl⟩ rfl (am_okIs [xs (x3 + 1).toNatClampNeg]) (hf) am_k2 hP hS hl.1 (Nat.le_of_ble_eq_true rfl) (lw_d6 95 rfl (by decide)) (fun v τ1 H locs hKv hP hS => ?_)
  obtain ⟨hr0, hI⟩ := hKv
  cases hr0
  refine lv_icmp_eq (tgt := 1289) hx hb (lw_d6 96 rfl (by decide)) (by decide) (fun _ => kk _ _ _ hI hP hS) (fun h => absurd rfl h)
set_option maxHeartbeats 4000000 in
set_option maxRecDepth 100000 in
theorem lc_33 {p : Program} {l : Launch} {e : Env} {s : State} {m : MethodId} {below : List Frame} {meth : Method} {c : Code} {dC : Nat → ClassId} {dI : Nat → Nat → Nat} {dA : Nat → ClassId} {ad : Nat → Nat → Nat} {adV : Nat → Nat} {b L : Nat} {xs : Nat → Int32} (hG : lw_G p s m meth c dC dI dA ad adV b L xs) {x3 : Int32} (h1 : vp_in (x3 + 1) L) (h2 : vp_in (x3 + 2) L) (h3 : vp_in (x3 + 3) L) (h4 : vp_in (x3 + 4) L) {σ : am_M} (hI : Inv σ) {H : Heap} {locs : List Loc} (hP : va_P (dC, dI) vwCl (am_w ad dA σ) H) (hS : va_S (NW s.heap.size) s.heap H locs) {ls : Array Slot} (hl : lv_has ls 4 [(0, .ref b), (1, .ref (ad 0 0)), (2, .ref (ad 20 0)), (3, .int x3)]) (kk : ∀ (τ : am_M) (H1 : Heap) (locs1 : List Loc), Inv τ → va_P (dC, dI) vwCl (am_w ad dA τ) H1 → va_S (NW s.heap.size) s.heap H1 locs1 → W p l e room_1 s m #[Value.ref b] below meth c H1 locs1 600000 7302250 (lw_Z below #[Value.ref b] s) (F0 m 1289 ls [])) : W p l e room_1 s m #[Value.ref b] below meth c H locs 600000 7302250 (lw_Z below #[Value.ref b] s) (F0 m 1091 ls []) := by
  obtain ⟨hx, hb, hr, hml, hown, hts, hX, hbl, hlocks, hgv⟩ := id hG.1
  have hbA : ¬ NW s.heap.size b := Nat.not_le.mpr hbl
  refine lv_aload_n hx hb (lw_d6 99 rfl (by decide)) rfl (lv_at hl 1 rfl) ?_
  refine lv_aload_n hx hb (lw_d7 0 rfl (by decide)) rfl (lv_at hl 0 rfl) ?_
  refine lv_iload_n hx hb (lw_d7 1 rfl (by decide)) rfl (lv_at hl 3 rfl) ?_
  refine lv_iconst (v := 1) hx hb (lw_d7 2 rfl (by decide)) (by decide) ?_
  refine lv_iadd hx hb (lw_d7 3 rfl (by decide)) ?_
  refine va_sld hx hb hX hbl hbA hS h1 (lw_d7 4 rfl (by decide)) ?_
  refine lw_call (n := 1) 0 6 [.inl (xs (x3 + 1).toNatClampNeg)] [] hG snX6_back (am_lG iw_304 iw_305 iw_306 wd_162 iw_307) rfl rfl (by decide) (by decide) rfl rfl (by decide +kernel) ⟨Nat.le_of_ble_eq_true rfl, Nat.le_of_ble_eq_true rfl⟩ rfl (am_okIs [xs (x3 + 1).toNatClampNeg]) (pr_back hI) am_k1 hP hS hl.1 (Nat.le_of_ble_eq_true rfl) (lw_d7 5 rfl (by decide)) (fun v τ0 H locs hKv hP hS => ?_)
  obtain ⟨r, hr0, hf⟩ := hKv
  cases hr0
  refine lv_aload_n hx hb (lw_d7 6 rfl (by decide)) rfl (lv_at hl 2 rfl) ?_
  refine lv_aload_n hx hb (lw_d7 7 rfl (by decide)) rfl (lv_at hl 0 rfl) ?_
  refine lv_iload_n hx hb (lw_d7 8 rfl (by decide)) rfl (lv_at hl 3 rfl) ?_
  refine lv_iconst (v := 1) hx hb (lw_d7 9 rfl (by decide)) (by decide) ?_
  refine lv_iadd hx hb (lw_d7 10 rfl (by decide)) ?_
  refine va_sld hx hb hX hbl hbA hS h1 (lw_d7 11 rfl (by decide)) ?_
  refine lw_call (n := 1) 20 7 [.inl (xs (x3 + 1).toNatClampNeg)] [.int r] hG snX7_back (am_lG iw_308 iw_309 iw_310 wd_459 iw_311) rfl rfl (by decide) (by decide) rfl rfl (by decide +kernel) ⟨Nat.le_of_ble_eq_true rfl, Nat.le_of_ble_eq_true rfl⟩ rfl (am_okIs [xs (x3 + 1).toNatClampNeg]) (hf) am_k2 hP hS hl.1 (Nat.le_of_ble_eq_true rfl) (lw_d7 12 rfl (by decide)) (fun v τ1 H locs hKv hP hS => ?_)
  obtain ⟨hr0, hI⟩ := hKv
  cases hr0
  refine lv_icmp_eq (tgt := 1289) hx hb (lw_d7 13 rfl (by decide)) (by decide) (fun _ => kk _ _ _ hI hP hS) (fun h => absurd rfl h)
set_option maxHeartbeats 4000000 in
set_option maxRecDepth 100000 in
theorem lc_34 {p : Program} {l : Launch} {e : Env} {s : State} {m : MethodId} {below : List Frame} {meth : Method} {c : Code} {dC : Nat → ClassId} {dI : Nat → Nat → Nat} {dA : Nat → ClassId} {ad : Nat → Nat → Nat} {adV : Nat → Nat} {b L : Nat} {xs : Nat → Int32} (hG : lw_G p s m meth c dC dI dA ad adV b L xs) {x3 : Int32} (h1 : vp_in (x3 + 1) L) (h2 : vp_in (x3 + 2) L) (h3 : vp_in (x3 + 3) L) (h4 : vp_in (x3 + 4) L) {σ : am_M} (hI : Inv σ) {H : Heap} {locs : List Loc} (hP : va_P (dC, dI) vwCl (am_w ad dA σ) H) (hS : va_S (NW s.heap.size) s.heap H locs) {ls : Array Slot} (hl : lv_has ls 4 [(0, .ref b), (1, .ref (ad 0 0)), (2, .ref (ad 20 0)), (3, .int x3)]) (kk : ∀ (τ : am_M) (H1 : Heap) (locs1 : List Loc), Inv τ → va_P (dC, dI) vwCl (am_w ad dA τ) H1 → va_S (NW s.heap.size) s.heap H1 locs1 → W p l e room_1 s m #[Value.ref b] below meth c H1 locs1 600000 7302250 (lw_Z below #[Value.ref b] s) (F0 m 1289 ls [])) : W p l e room_1 s m #[Value.ref b] below meth c H locs 600000 7302250 (lw_Z below #[Value.ref b] s) (F0 m 1114 ls []) := by
  obtain ⟨hx, hb, hr, hml, hown, hts, hX, hbl, hlocks, hgv⟩ := id hG.1
  have hbA : ¬ NW s.heap.size b := Nat.not_le.mpr hbl
  refine lv_aload_n hx hb (lw_d7 16 rfl (by decide)) rfl (lv_at hl 1 rfl) ?_
  refine lv_aload_n hx hb (lw_d7 17 rfl (by decide)) rfl (lv_at hl 0 rfl) ?_
  refine lv_iload_n hx hb (lw_d7 18 rfl (by decide)) rfl (lv_at hl 3 rfl) ?_
  refine lv_iconst (v := 1) hx hb (lw_d7 19 rfl (by decide)) (by decide) ?_
  refine lv_iadd hx hb (lw_d7 20 rfl (by decide)) ?_
  refine va_sld hx hb hX hbl hbA hS h1 (lw_d7 21 rfl (by decide)) ?_
  refine lv_aload_n hx hb (lw_d7 22 rfl (by decide)) rfl (lv_at hl 0 rfl) ?_
  refine lv_iload_n hx hb (lw_d7 23 rfl (by decide)) rfl (lv_at hl 3 rfl) ?_
  refine lv_iconst (v := 2) hx hb (lw_d7 24 rfl (by decide)) (by decide) ?_
  refine lv_iadd hx hb (lw_d7 25 rfl (by decide)) ?_
  refine va_sld hx hb hX hbl hbA hS h2 (lw_d7 26 rfl (by decide)) ?_
  refine lv_aload_n hx hb (lw_d7 27 rfl (by decide)) rfl (lv_at hl 0 rfl) ?_
  refine lv_iload_n hx hb (lw_d7 28 rfl (by decide)) rfl (lv_at hl 3 rfl) ?_
  refine lv_iconst (v := 3) hx hb (lw_d7 29 rfl (by decide)) (by decide) ?_
  refine lv_iadd hx hb (lw_d7 30 rfl (by decide)) ?_
  refine va_sld hx hb hX hbl hbA hS h3 (lw_d7 31 rfl (by decide)) ?_
  refine lw_call (n := 3) 0 6 [.inl (xs (x3 + 1).toNatClampNeg), .inl (xs (x3 + 2).toNatClampNeg), .inl (xs (x3 + 3).toNatClampNeg)] [] hG snX6_sheet (am_lG iw_312 iw_313 iw_314 wd_162 iw_315) rfl rfl (by decide) (by decide) rfl rfl (by decide +kernel) ⟨Nat.le_of_ble_eq_true rfl, Nat.le_of_ble_eq_true rfl⟩ rfl (am_okIs [xs (x3 + 1).toNatClampNeg, xs (x3 + 2).toNatClampNeg, xs (x3 + 3).toNatClampNeg]) (pr_sheet hI) am_k1 hP hS hl.1 (Nat.le_of_ble_eq_true rfl) (lw_d7 32 rfl (by decide)) (fun v τ0 H locs hKv hP hS => ?_)
  obtain ⟨r, hr0, hf⟩ := hKv
  cases hr0
  refine lv_aload_n hx hb (lw_d7 33 rfl (by decide)) rfl (lv_at hl 2 rfl) ?_
  refine lv_aload_n hx hb (lw_d7 34 rfl (by decide)) rfl (lv_at hl 0 rfl) ?_
  refine lv_iload_n hx hb (lw_d7 35 rfl (by decide)) rfl (lv_at hl 3 rfl) ?_
  refine lv_iconst (v := 1) hx hb (lw_d7 36 rfl (by decide)) (by decide) ?_
  refine lv_iadd hx hb (lw_d7 37 rfl (by decide)) ?_
  refine va_sld hx hb hX hbl hbA hS h1 (lw_d7 38 rfl (by decide)) ?_
  refine lv_aload_n hx hb (lw_d7 39 rfl (by decide)) rfl (lv_at hl 0 rfl) ?_
  refine lv_iload_n hx hb (lw_d7 40 rfl (by decide)) rfl (lv_at hl 3 rfl) ?_
  refine lv_iconst (v := 2) hx hb (lw_d7 41 rfl (by decide)) (by decide) ?_
  refine lv_iadd hx hb (lw_d7 42 rfl (by decide)) ?_
  refine va_sld hx hb hX hbl hbA hS h2 (lw_d7 43 rfl (by decide)) ?_
  refine lv_aload_n hx hb (lw_d7 44 rfl (by decide)) rfl (lv_at hl 0 rfl) ?_
  refine lv_iload_n hx hb (lw_d7 45 rfl (by decide)) rfl (lv_at hl 3 rfl) ?_
  refine lv_iconst (v := 3) hx hb (lw_d7 46 rfl (by decide)) (by decide) ?_
  refine lv_iadd hx hb (lw_d7 47 rfl (by decide)) ?_
  refine va_sld hx hb hX hbl hbA hS h3 (lw_d7 48 rfl (by decide)) ?_
  refine lw_call (n := 3) 20 7 [.inl (xs (x3 + 1).toNatClampNeg), .inl (xs (x3 + 2).toNatClampNeg), .inl (xs (x3 + 3).toNatClampNeg)] [.int r] hG snX7_sheet (am_lG iw_316 iw_317 iw_318 wd_459 iw_319) rfl rfl (by decide) (by decide) rfl rfl (by decide +kernel) ⟨Nat.le_of_ble_eq_true rfl, Nat.le_of_ble_eq_true rfl⟩ rfl (am_okIs [xs (x3 + 1).toNatClampNeg, xs (x3 + 2).toNatClampNeg, xs (x3 + 3).toNatClampNeg]) (hf) am_k2 hP hS hl.1 (Nat.le_of_ble_eq_true rfl) (lw_d7 49 rfl (by decide)) (fun v τ1 H locs hKv hP hS => ?_)
  obtain ⟨hr0, hI⟩ := hKv
  cases hr0
  refine lv_icmp_eq (tgt := 1289) hx hb (lw_d7 50 rfl (by decide)) (by decide) (fun _ => kk _ _ _ hI hP hS) (fun h => absurd rfl h)
set_option maxHeartbeats 4000000 in
set_option maxRecDepth 100000 in
theorem lc_35 {p : Program} {l : Launch} {e : Env} {s : State} {m : MethodId} {below : List Frame} {meth : Method} {c : Code} {dC : Nat → ClassId} {dI : Nat → Nat → Nat} {dA : Nat → ClassId} {ad : Nat → Nat → Nat} {adV : Nat → Nat} {b L : Nat} {xs : Nat → Int32} (hG : lw_G p s m meth c dC dI dA ad adV b L xs) {x3 : Int32} (h1 : vp_in (x3 + 1) L) (h2 : vp_in (x3 + 2) L) (h3 : vp_in (x3 + 3) L) (h4 : vp_in (x3 + 4) L) {σ : am_M} (hI : Inv σ) {H : Heap} {locs : List Loc} (hP : va_P (dC, dI) vwCl (am_w ad dA σ) H) (hS : va_S (NW s.heap.size) s.heap H locs) {ls : Array Slot} (hl : lv_has ls 4 [(0, .ref b), (1, .ref (ad 0 0)), (2, .ref (ad 20 0)), (3, .int x3)]) (kk : ∀ (τ : am_M) (H1 : Heap) (locs1 : List Loc), Inv τ → va_P (dC, dI) vwCl (am_w ad dA τ) H1 → va_S (NW s.heap.size) s.heap H1 locs1 → W p l e room_1 s m #[Value.ref b] below meth c H1 locs1 600000 7302250 (lw_Z below #[Value.ref b] s) (F0 m 1289 ls [])) : W p l e room_1 s m #[Value.ref b] below meth c H locs 600000 7302250 (lw_Z below #[Value.ref b] s) (F0 m 1157 ls []) := by
  obtain ⟨hx, hb, hr, hml, hown, hts, hX, hbl, hlocks, hgv⟩ := id hG.1
  have hbA : ¬ NW s.heap.size b := Nat.not_le.mpr hbl
  refine lv_aload_n hx hb (lw_d7 53 rfl (by decide)) rfl (lv_at hl 1 rfl) ?_
  refine lv_aload_n hx hb (lw_d7 54 rfl (by decide)) rfl (lv_at hl 0 rfl) ?_
  refine lv_iload_n hx hb (lw_d7 55 rfl (by decide)) rfl (lv_at hl 3 rfl) ?_
  refine lv_iconst (v := 1) hx hb (lw_d7 56 rfl (by decide)) (by decide) ?_
  refine lv_iadd hx hb (lw_d7 57 rfl (by decide)) ?_
  refine va_sld hx hb hX hbl hbA hS h1 (lw_d7 58 rfl (by decide)) ?_
  refine lv_aload_n hx hb (lw_d7 59 rfl (by decide)) rfl (lv_at hl 0 rfl) ?_
  refine lv_iload_n hx hb (lw_d7 60 rfl (by decide)) rfl (lv_at hl 3 rfl) ?_
  refine lv_iconst (v := 2) hx hb (lw_d7 61 rfl (by decide)) (by decide) ?_
  refine lv_iadd hx hb (lw_d7 62 rfl (by decide)) ?_
  refine va_sld hx hb hX hbl hbA hS h2 (lw_d7 63 rfl (by decide)) ?_
  refine lv_aload_n hx hb (lw_d7 64 rfl (by decide)) rfl (lv_at hl 0 rfl) ?_
  refine lv_iload_n hx hb (lw_d7 65 rfl (by decide)) rfl (lv_at hl 3 rfl) ?_
  refine lv_iconst (v := 3) hx hb (lw_d7 66 rfl (by decide)) (by decide) ?_
  refine lv_iadd hx hb (lw_d7 67 rfl (by decide)) ?_
  refine va_sld hx hb hX hbl hbA hS h3 (lw_d7 68 rfl (by decide)) ?_
  refine lw_call (n := 3) 0 6 [.inl (xs (x3 + 1).toNatClampNeg), .inl (xs (x3 + 2).toNatClampNeg), .inl (xs (x3 + 3).toNatClampNeg)] [] hG snX6_lay (am_lG iw_320 iw_321 iw_322 wd_162 iw_323) rfl rfl (by decide) (by decide) rfl rfl (by decide +kernel) ⟨Nat.le_of_ble_eq_true rfl, Nat.le_of_ble_eq_true rfl⟩ rfl (am_okIs [xs (x3 + 1).toNatClampNeg, xs (x3 + 2).toNatClampNeg, xs (x3 + 3).toNatClampNeg]) (pr_lay hI) am_k1 hP hS hl.1 (Nat.le_of_ble_eq_true rfl) (lw_d7 69 rfl (by decide)) (fun v τ0 H locs hKv hP hS => ?_)
  obtain ⟨r, hr0, hf⟩ := hKv
  cases hr0
  refine lv_aload_n hx hb (lw_d7 70 rfl (by decide)) rfl (lv_at hl 2 rfl) ?_
  refine lv_aload_n hx hb (lw_d7 71 rfl (by decide)) rfl (lv_at hl 0 rfl) ?_
  refine lv_iload_n hx hb (lw_d7 72 rfl (by decide)) rfl (lv_at hl 3 rfl) ?_
  refine lv_iconst (v := 1) hx hb (lw_d7 73 rfl (by decide)) (by decide) ?_
  refine lv_iadd hx hb (lw_d7 74 rfl (by decide)) ?_
  refine va_sld hx hb hX hbl hbA hS h1 (lw_d7 75 rfl (by decide)) ?_
  refine lv_aload_n hx hb (lw_d7 76 rfl (by decide)) rfl (lv_at hl 0 rfl) ?_
  refine lv_iload_n hx hb (lw_d7 77 rfl (by decide)) rfl (lv_at hl 3 rfl) ?_
  refine lv_iconst (v := 2) hx hb (lw_d7 78 rfl (by decide)) (by decide) ?_
  refine lv_iadd hx hb (lw_d7 79 rfl (by decide)) ?_
  refine va_sld hx hb hX hbl hbA hS h2 (lw_d7 80 rfl (by decide)) ?_
  refine lv_aload_n hx hb (lw_d7 81 rfl (by decide)) rfl (lv_at hl 0 rfl) ?_
  refine lv_iload_n hx hb (lw_d7 82 rfl (by decide)) rfl (lv_at hl 3 rfl) ?_
  refine lv_iconst (v := 3) hx hb (lw_d7 83 rfl (by decide)) (by decide) ?_
  refine lv_iadd hx hb (lw_d7 84 rfl (by decide)) ?_
  refine va_sld hx hb hX hbl hbA hS h3 (lw_d7 85 rfl (by decide)) ?_
  refine lw_call (n := 3) 20 7 [.inl (xs (x3 + 1).toNatClampNeg), .inl (xs (x3 + 2).toNatClampNeg), .inl (xs (x3 + 3).toNatClampNeg)] [.int r] hG snX7_lay (am_lG iw_324 iw_325 iw_326 wd_459 iw_327) rfl rfl (by decide) (by decide) rfl rfl (by decide +kernel) ⟨Nat.le_of_ble_eq_true rfl, Nat.le_of_ble_eq_true rfl⟩ rfl (am_okIs [xs (x3 + 1).toNatClampNeg, xs (x3 + 2).toNatClampNeg, xs (x3 + 3).toNatClampNeg]) (hf) am_k2 hP hS hl.1 (Nat.le_of_ble_eq_true rfl) (lw_d7 86 rfl (by decide)) (fun v τ1 H locs hKv hP hS => ?_)
  obtain ⟨hr0, hI⟩ := hKv
  cases hr0
  refine lv_icmp_eq (tgt := 1289) hx hb (lw_d7 87 rfl (by decide)) (by decide) (fun _ => kk _ _ _ hI hP hS) (fun h => absurd rfl h)
set_option maxHeartbeats 4000000 in
set_option maxRecDepth 100000 in
theorem lc_36 {p : Program} {l : Launch} {e : Env} {s : State} {m : MethodId} {below : List Frame} {meth : Method} {c : Code} {dC : Nat → ClassId} {dI : Nat → Nat → Nat} {dA : Nat → ClassId} {ad : Nat → Nat → Nat} {adV : Nat → Nat} {b L : Nat} {xs : Nat → Int32} (hG : lw_G p s m meth c dC dI dA ad adV b L xs) {x3 : Int32} (h1 : vp_in (x3 + 1) L) (h2 : vp_in (x3 + 2) L) (h3 : vp_in (x3 + 3) L) (h4 : vp_in (x3 + 4) L) {σ : am_M} (hI : Inv σ) {H : Heap} {locs : List Loc} (hP : va_P (dC, dI) vwCl (am_w ad dA σ) H) (hS : va_S (NW s.heap.size) s.heap H locs) {ls : Array Slot} (hl : lv_has ls 4 [(0, .ref b), (1, .ref (ad 0 0)), (2, .ref (ad 20 0)), (3, .int x3)]) (kk : ∀ (τ : am_M) (H1 : Heap) (locs1 : List Loc), Inv τ → va_P (dC, dI) vwCl (am_w ad dA τ) H1 → va_S (NW s.heap.size) s.heap H1 locs1 → W p l e room_1 s m #[Value.ref b] below meth c H1 locs1 600000 7302250 (lw_Z below #[Value.ref b] s) (F0 m 1289 ls [])) : W p l e room_1 s m #[Value.ref b] below meth c H locs 600000 7302250 (lw_Z below #[Value.ref b] s) (F0 m 1200 ls []) := by
  obtain ⟨hx, hb, hr, hml, hown, hts, hX, hbl, hlocks, hgv⟩ := id hG.1
  have hbA : ¬ NW s.heap.size b := Nat.not_le.mpr hbl
  refine lv_aload_n hx hb (lw_d7 90 rfl (by decide)) rfl (lv_at hl 1 rfl) ?_
  refine lv_aload_n hx hb (lw_d7 91 rfl (by decide)) rfl (lv_at hl 0 rfl) ?_
  refine lv_iload_n hx hb (lw_d7 92 rfl (by decide)) rfl (lv_at hl 3 rfl) ?_
  refine lv_iconst (v := 1) hx hb (lw_d7 93 rfl (by decide)) (by decide) ?_
  refine lv_iadd hx hb (lw_d7 94 rfl (by decide)) ?_
  refine va_sld hx hb hX hbl hbA hS h1 (lw_d7 95 rfl (by decide)) ?_
  refine lv_aload_n hx hb (lw_d7 96 rfl (by decide)) rfl (lv_at hl 0 rfl) ?_
  refine lv_iload_n hx hb (lw_d7 97 rfl (by decide)) rfl (lv_at hl 3 rfl) ?_
  refine lv_iconst (v := 2) hx hb (lw_d7 98 rfl (by decide)) (by decide) ?_
  refine lv_iadd hx hb (lw_d7 99 rfl (by decide)) ?_
  refine va_sld hx hb hX hbl hbA hS h2 (lw_d8 0 rfl (by decide)) ?_
  refine lv_aload_n hx hb (lw_d8 1 rfl (by decide)) rfl (lv_at hl 0 rfl) ?_
  refine lv_iload_n hx hb (lw_d8 2 rfl (by decide)) rfl (lv_at hl 3 rfl) ?_
  refine lv_iconst (v := 3) hx hb (lw_d8 3 rfl (by decide)) (by decide) ?_
  refine lv_iadd hx hb (lw_d8 4 rfl (by decide)) ?_
  refine va_sld hx hb hX hbl hbA hS h3 (lw_d8 5 rfl (by decide)) ?_
  refine lv_aload_n hx hb (lw_d8 6 rfl (by decide)) rfl (lv_at hl 0 rfl) ?_
  refine lv_iload_n hx hb (lw_d8 7 rfl (by decide)) rfl (lv_at hl 3 rfl) ?_
  refine lv_iconst (v := 4) hx hb (lw_d8 8 rfl (by decide)) (by decide) ?_
  refine lv_iadd hx hb (lw_d8 9 rfl (by decide)) ?_
  refine va_sld hx hb hX hbl hbA hS h4 (lw_d8 10 rfl (by decide)) ?_
  refine lw_call (n := 4) 0 6 [.inl (xs (x3 + 1).toNatClampNeg), .inl (xs (x3 + 2).toNatClampNeg), .inl (xs (x3 + 3).toNatClampNeg), .inl (xs (x3 + 4).toNatClampNeg)] [] hG snX6_read (am_lG iw_328 iw_329 iw_330 wd_162 iw_331) rfl rfl (by decide) (by decide) rfl rfl (by decide +kernel) ⟨Nat.le_of_ble_eq_true rfl, Nat.le_of_ble_eq_true rfl⟩ rfl (am_okIs [xs (x3 + 1).toNatClampNeg, xs (x3 + 2).toNatClampNeg, xs (x3 + 3).toNatClampNeg, xs (x3 + 4).toNatClampNeg]) (pr_read hI) am_k1 hP hS hl.1 (Nat.le_of_ble_eq_true rfl) (lw_d8 11 rfl (by decide)) (fun v τ0 H locs hKv hP hS => ?_)
  obtain ⟨r, hr0, hf⟩ := hKv
  cases hr0
  refine lv_aload_n hx hb (lw_d8 12 rfl (by decide)) rfl (lv_at hl 2 rfl) ?_
  refine lv_aload_n hx hb (lw_d8 13 rfl (by decide)) rfl (lv_at hl 0 rfl) ?_
  refine lv_iload_n hx hb (lw_d8 14 rfl (by decide)) rfl (lv_at hl 3 rfl) ?_
  refine lv_iconst (v := 1) hx hb (lw_d8 15 rfl (by decide)) (by decide) ?_
  refine lv_iadd hx hb (lw_d8 16 rfl (by decide)) ?_
  refine va_sld hx hb hX hbl hbA hS h1 (lw_d8 17 rfl (by decide)) ?_
  refine lv_aload_n hx hb (lw_d8 18 rfl (by decide)) rfl (lv_at hl 0 rfl) ?_
  refine lv_iload_n hx hb (lw_d8 19 rfl (by decide)) rfl (lv_at hl 3 rfl) ?_
  refine lv_iconst (v := 2) hx hb (lw_d8 20 rfl (by decide)) (by decide) ?_
  refine lv_iadd hx hb (lw_d8 21 rfl (by decide)) ?_
  refine va_sld hx hb hX hbl hbA hS h2 (lw_d8 22 rfl (by decide)) ?_
  refine lv_aload_n hx hb (lw_d8 23 rfl (by decide)) rfl (lv_at hl 0 rfl) ?_
  refine lv_iload_n hx hb (lw_d8 24 rfl (by decide)) rfl (lv_at hl 3 rfl) ?_
  refine lv_iconst (v := 3) hx hb (lw_d8 25 rfl (by decide)) (by decide) ?_
  refine lv_iadd hx hb (lw_d8 26 rfl (by decide)) ?_
  refine va_sld hx hb hX hbl hbA hS h3 (lw_d8 27 rfl (by decide)) ?_
  refine lv_aload_n hx hb (lw_d8 28 rfl (by decide)) rfl (lv_at hl 0 rfl) ?_
  refine lv_iload_n hx hb (lw_d8 29 rfl (by decide)) rfl (lv_at hl 3 rfl) ?_
  refine lv_iconst (v := 4) hx hb (lw_d8 30 rfl (by decide)) (by decide) ?_
  refine lv_iadd hx hb (lw_d8 31 rfl (by decide)) ?_
  refine va_sld hx hb hX hbl hbA hS h4 (lw_d8 32 rfl (by decide)) ?_
  refine lw_call (n := 4) 20 7 [.inl (xs (x3 + 1).toNatClampNeg), .inl (xs (x3 + 2).toNatClampNeg), .inl (xs (x3 + 3).toNatClampNeg), .inl (xs (x3 + 4).toNatClampNeg)] [.int r] hG snX7_read (am_lG iw_332 iw_333 iw_334 wd_459 iw_335) rfl rfl (by decide) (by decide) rfl rfl (by decide +kernel) ⟨Nat.le_of_ble_eq_true rfl, Nat.le_of_ble_eq_true rfl⟩ rfl (am_okIs [xs (x3 + 1).toNatClampNeg, xs (x3 + 2).toNatClampNeg, xs (x3 + 3).toNatClampNeg, xs (x3 + 4).toNatClampNeg]) (hf) am_k2 hP hS hl.1 (Nat.le_of_ble_eq_true rfl) (lw_d8 33 rfl (by decide)) (fun v τ1 H locs hKv hP hS => ?_)
  obtain ⟨hr0, hI⟩ := hKv
  cases hr0
  refine lv_icmp_eq (tgt := 1289) hx hb (lw_d8 34 rfl (by decide)) (by decide) (fun _ => kk _ _ _ hI hP hS) (fun h => absurd rfl h)
set_option maxHeartbeats 4000000 in
set_option maxRecDepth 100000 in
theorem lc_37 {p : Program} {l : Launch} {e : Env} {s : State} {m : MethodId} {below : List Frame} {meth : Method} {c : Code} {dC : Nat → ClassId} {dI : Nat → Nat → Nat} {dA : Nat → ClassId} {ad : Nat → Nat → Nat} {adV : Nat → Nat} {b L : Nat} {xs : Nat → Int32} (hG : lw_G p s m meth c dC dI dA ad adV b L xs) {x3 : Int32} (h1 : vp_in (x3 + 1) L) (h2 : vp_in (x3 + 2) L) (h3 : vp_in (x3 + 3) L) (h4 : vp_in (x3 + 4) L) {σ : am_M} (hI : Inv σ) {H : Heap} {locs : List Loc} (hP : va_P (dC, dI) vwCl (am_w ad dA σ) H) (hS : va_S (NW s.heap.size) s.heap H locs) {ls : Array Slot} (hl : lv_has ls 4 [(0, .ref b), (1, .ref (ad 0 0)), (2, .ref (ad 20 0)), (3, .int x3)]) (kk : ∀ (τ : am_M) (H1 : Heap) (locs1 : List Loc), Inv τ → va_P (dC, dI) vwCl (am_w ad dA τ) H1 → va_S (NW s.heap.size) s.heap H1 locs1 → W p l e room_1 s m #[Value.ref b] below meth c H1 locs1 600000 7302250 (lw_Z below #[Value.ref b] s) (F0 m 1289 ls [])) : W p l e room_1 s m #[Value.ref b] below meth c H locs 600000 7302250 (lw_Z below #[Value.ref b] s) (F0 m 1253 ls []) := by
  obtain ⟨hx, hb, hr, hml, hown, hts, hX, hbl, hlocks, hgv⟩ := id hG.1
  have hbA : ¬ NW s.heap.size b := Nat.not_le.mpr hbl
  refine lv_aload_n hx hb (lw_d8 37 rfl (by decide)) rfl (lv_at hl 1 rfl) ?_
  refine lw_call (n := 0) 0 6 [] [] hG snX6_torn (am_lG iw_336 iw_337 iw_338 wd_162 iw_339) rfl rfl (by decide) (by decide) rfl rfl (by decide +kernel) ⟨Nat.le_of_ble_eq_true rfl, Nat.le_of_ble_eq_true rfl⟩ rfl (am_okIs []) (pr_torn hI) am_k1 hP hS hl.1 (Nat.le_of_ble_eq_true rfl) (lw_d8 38 rfl (by decide)) (fun v τ0 H locs hKv hP hS => ?_)
  obtain ⟨r, hr0, hf⟩ := hKv
  cases hr0
  refine lv_aload_n hx hb (lw_d8 39 rfl (by decide)) rfl (lv_at hl 2 rfl) ?_
  refine lw_call (n := 0) 20 7 [] [.int r] hG snX7_torn (am_lG iw_340 iw_341 iw_342 wd_459 iw_343) rfl rfl (by decide) (by decide) rfl rfl (by decide +kernel) ⟨Nat.le_of_ble_eq_true rfl, Nat.le_of_ble_eq_true rfl⟩ rfl (am_okIs []) (hf) am_k2 hP hS hl.1 (Nat.le_of_ble_eq_true rfl) (lw_d8 40 rfl (by decide)) (fun v τ1 H locs hKv hP hS => ?_)
  obtain ⟨hr0, hI⟩ := hKv
  cases hr0
  refine lv_icmp_eq (tgt := 1289) hx hb (lw_d8 41 rfl (by decide)) (by decide) (fun _ => kk _ _ _ hI hP hS) (fun h => absurd rfl h)
set_option maxHeartbeats 4000000 in
set_option maxRecDepth 100000 in
theorem lc_38 {p : Program} {l : Launch} {e : Env} {s : State} {m : MethodId} {below : List Frame} {meth : Method} {c : Code} {dC : Nat → ClassId} {dI : Nat → Nat → Nat} {dA : Nat → ClassId} {ad : Nat → Nat → Nat} {adV : Nat → Nat} {b L : Nat} {xs : Nat → Int32} (hG : lw_G p s m meth c dC dI dA ad adV b L xs) {x3 : Int32} (h1 : vp_in (x3 + 1) L) (h2 : vp_in (x3 + 2) L) (h3 : vp_in (x3 + 3) L) (h4 : vp_in (x3 + 4) L) {σ : am_M} (hI : Inv σ) {H : Heap} {locs : List Loc} (hP : va_P (dC, dI) vwCl (am_w ad dA σ) H) (hS : va_S (NW s.heap.size) s.heap H locs) {ls : Array Slot} (hl : lv_has ls 4 [(0, .ref b), (1, .ref (ad 0 0)), (2, .ref (ad 20 0)), (3, .int x3)]) (kk : ∀ (τ : am_M) (H1 : Heap) (locs1 : List Loc), Inv τ → va_P (dC, dI) vwCl (am_w ad dA τ) H1 → va_S (NW s.heap.size) s.heap H1 locs1 → W p l e room_1 s m #[Value.ref b] below meth c H1 locs1 600000 7302250 (lw_Z below #[Value.ref b] s) (F0 m 1289 ls [])) : W p l e room_1 s m #[Value.ref b] below meth c H locs 600000 7302250 (lw_Z below #[Value.ref b] s) (F0 m 1266 ls []) := by
  obtain ⟨hx, hb, hr, hml, hown, hts, hX, hbl, hlocks, hgv⟩ := id hG.1
  have hbA : ¬ NW s.heap.size b := Nat.not_le.mpr hbl
  refine lv_aload_n hx hb (lw_d8 44 rfl (by decide)) rfl (lv_at hl 1 rfl) ?_
  refine lv_aload_n hx hb (lw_d8 45 rfl (by decide)) rfl (lv_at hl 0 rfl) ?_
  refine lv_iload_n hx hb (lw_d8 46 rfl (by decide)) rfl (lv_at hl 3 rfl) ?_
  refine lv_iconst (v := 1) hx hb (lw_d8 47 rfl (by decide)) (by decide) ?_
  refine lv_iadd hx hb (lw_d8 48 rfl (by decide)) ?_
  refine va_sld hx hb hX hbl hbA hS h1 (lw_d8 49 rfl (by decide)) ?_
  refine lw_call (n := 1) 0 6 [.inl (xs (x3 + 1).toNatClampNeg)] [] hG snX6_count (am_lG iw_344 iw_345 iw_346 wd_162 iw_347) rfl rfl (by decide) (by decide) rfl rfl (by decide +kernel) ⟨Nat.le_of_ble_eq_true rfl, Nat.le_of_ble_eq_true rfl⟩ rfl (am_okIs [xs (x3 + 1).toNatClampNeg]) (pr_count hI) am_k1 hP hS hl.1 (Nat.le_of_ble_eq_true rfl) (lw_d8 50 rfl (by decide)) (fun v τ0 H locs hKv hP hS => ?_)
  obtain ⟨r, hr0, hf⟩ := hKv
  cases hr0
  refine lv_aload_n hx hb (lw_d8 51 rfl (by decide)) rfl (lv_at hl 2 rfl) ?_
  refine lv_aload_n hx hb (lw_d8 52 rfl (by decide)) rfl (lv_at hl 0 rfl) ?_
  refine lv_iload_n hx hb (lw_d8 53 rfl (by decide)) rfl (lv_at hl 3 rfl) ?_
  refine lv_iconst (v := 1) hx hb (lw_d8 54 rfl (by decide)) (by decide) ?_
  refine lv_iadd hx hb (lw_d8 55 rfl (by decide)) ?_
  refine va_sld hx hb hX hbl hbA hS h1 (lw_d8 56 rfl (by decide)) ?_
  refine lw_call (n := 1) 20 7 [.inl (xs (x3 + 1).toNatClampNeg)] [.int r] hG snX7_count (am_lG iw_348 iw_349 iw_350 wd_459 iw_351) rfl rfl (by decide) (by decide) rfl rfl (by decide +kernel) ⟨Nat.le_of_ble_eq_true rfl, Nat.le_of_ble_eq_true rfl⟩ rfl (am_okIs [xs (x3 + 1).toNatClampNeg]) (hf) am_k2 hP hS hl.1 (Nat.le_of_ble_eq_true rfl) (lw_d8 57 rfl (by decide)) (fun v τ1 H locs hKv hP hS => ?_)
  obtain ⟨hr0, hI⟩ := hKv
  cases hr0
  refine lv_icmp_eq (tgt := 1289) hx hb (lw_d8 58 rfl (by decide)) (by decide) (fun _ => kk _ _ _ hI hP hS) (fun h => absurd rfl h)
