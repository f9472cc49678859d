theorem iw_352 : Jvm.Cond.instantiable RX6 12 ∈ am_B := am_inB (i := 17) (by decide +kernel) rfl
theorem iw_353 : Jvm.Cond.instantiable RX7 29 ∈ am_B := am_inB (i := 721) (by decide +kernel) rfl
theorem iw_354 : Jvm.Cond.classLink R_law 7 RX6 ∈ am_B := am_inB (i := 16) (by decide +kernel) rfl
theorem iw_355 : Jvm.Cond.classLink R_law 10 RX7 ∈ am_B := am_inB (i := 720) (by decide +kernel) rfl
theorem iw_356 : Jvm.Cond.methodLink R_law 9 yX6_init ∈ am_B := am_inB (i := 18) (by decide +kernel) rfl
theorem iw_357 : Jvm.Cond.methodLink R_law 12 yX7_init ∈ am_B := am_inB (i := 722) (by decide +kernel) rfl
theorem iw_358 : Jvm.Cond.instanceMethod yX6_init ∈ am_B := am_inB (i := 19) (by decide +kernel) rfl
theorem iw_359 : Jvm.Cond.instanceMethod yX7_init ∈ am_B := am_inB (i := 723) (by decide +kernel) rfl
theorem iw_360 : Jvm.Cond.code yX6_init cX6_init 2 none ∈ am_B := am_inB (i := 20) (by decide +kernel) rfl
theorem iw_361 : Jvm.Cond.code yX7_init cX7_init 1 none ∈ am_B := am_inB (i := 724) (by decide +kernel) rfl
theorem lw_lt {w : Jvm.Cond} (h : w ∈ am_B) : w ∈ lw_tbl := (List.mem_filter.mp h).1
theorem am_rc {args : Array Value} {s : State} {t : FieldType} (h : (Cond.arrayClass t).before args s = true) (ho : ∀ C, t ≠ .object C) : ∃ c : ClassId, ArrOfT s c t ∧ va_RA s c t := by
  obtain ⟨c, k, comp, h1, h2, h3⟩ := Cond.arrayClass_spec h
  refine ⟨c, fun N z => ⟨(fun q hq => by cases hq), k, h2, comp, h3⟩, ?_⟩
  cases t <;> first | exact h1 | exact absurd rfl (ho _)
theorem am_rcA {args : Array Value} {s : State} {t : FieldType} (h : (Cond.arrayOver (.array t)).before args s = true) : ∃ c : ClassId, ArrOfT s c (.array t) ∧ va_RA s c (.array t) := by
  obtain ⟨comp, c, k, h1, h2, h3, h4⟩ := Cond.arrayOver_specA h
  exact ⟨c, fun N z => ⟨(fun q hq => by cases hq), k, h2, comp, h3⟩, h4⟩
theorem am_rcO {args : Array Value} {s : State} {C : String} (h : (Cond.arrayOver (.object C)).before args s = true) : ∃ c : ClassId, ArrOfT s c (.object C) ∧ va_RA s c (.object C) := by
  obtain ⟨comp, c, k, h1, -, h3, h4, h5⟩ := Cond.arrayOver_spec h
  exact ⟨c, fun N z => ⟨(fun q hq => by cases hq), k, h3, comp, h4⟩, k, comp, h3, h4, h1, h5⟩
theorem lw_kinds {p : Program} {s : State} {m : MethodId} {meth : Method} {c : Code} {b L : Nat} {xs : Nat → Int32} (C0 : lw_At p s m meth c b L xs) : ∃ (dC : Nat → ClassId) (dI : Nat → Nat → Nat) (dA : Nat → ClassId), va_K (dC, dI) vwCl (am_ty dA) s := by
  obtain ⟨hx, hb, hr, hml, hown, hts, hX, hbl, hlocks, hgv⟩ := id C0
  obtain ⟨c0, i0, hk0⟩ := u_known (C := RX0) (T := TX0) (N := 7) (n := 7) hts (fun w hw => lw_lt (lyX0 w hw)) (hts _ (lw_lt iw_13))
  obtain ⟨c1, i1, hk1⟩ := u_known (C := RX1) (T := TX1) (N := 11) (n := 11) hts (fun w hw => lw_lt (lyX1 w hw)) (hts _ (lw_lt iw_23))
  obtain ⟨c2, i2, hk2⟩ := u_known (C := RX2) (T := TX2) (N := 3) (n := 3) hts (fun w hw => lw_lt (lyX2 w hw)) (hts _ (lw_lt iw_33))
  obtain ⟨c3, i3, hk3⟩ := u_known (C := RX3) (T := TX3) (N := 5) (n := 5) hts (fun w hw => lw_lt (lyX3 w hw)) (hts _ (lw_lt iw_29))
  obtain ⟨c4, i4, hk4⟩ := u_known (C := RX4) (T := TX4) (N := 4) (n := 4) hts (fun w hw => lw_lt (lyX4 w hw)) (hts _ (lw_lt iw_37))
  obtain ⟨c5, i5, hk5⟩ := u_known (C := RX5) (T := TX5) (N := 2) (n := 2) hts (fun w hw => lw_lt (lyX5 w hw)) (hts _ (lw_lt iw_9))
  obtain ⟨c6, i6, hk6⟩ := u_known (C := RX6) (T := TX6) (N := 12) (n := 12) hts (fun w hw => lw_lt (lyX6 w hw)) (hts _ (lw_lt iw_352))
  obtain ⟨c7, i7, hk7⟩ := u_known (C := RX7) (T := TX7) (N := 29) (n := 29) hts (fun w hw => lw_lt (lyX7 w hw)) (hts _ (lw_lt iw_353))
  obtain ⟨a0, hA0⟩ := am_rc (hts _ (lw_lt iw_6)) (fun C h => by cases h)
  obtain ⟨a1, hA1⟩ := am_rc (hts _ (lw_lt iw_3)) (fun C h => by cases h)
  obtain ⟨a2, hA2⟩ := am_rc (hts _ (lw_lt iw_18)) (fun C h => by cases h)
  obtain ⟨a3, hA3⟩ := am_rcA (t := .int) (hts _ (List.mem_append_right _ (List.mem_of_getElem? (i := 53) (by decide +kernel))))
  obtain ⟨a4, hA4⟩ := am_rcO (C := "UnlikeFerry$Crew") (hts _ (List.mem_append_right _ (List.mem_of_getElem? (i := 175) (by decide +kernel))))
  obtain ⟨a5, hA5⟩ := am_rcO (C := "UnlikeFerry$Sheet") (hts _ (List.mem_append_right _ (List.mem_of_getElem? (i := 177) (by decide +kernel))))
  refine ⟨fun k => match k with | 0 => c0 | 1 => c1 | 2 => c2 | 3 => c3 | 4 => c4 | 5 => c5 | 6 => c6 | _ => c7, fun k => match k with | 0 => i0 | 1 => i1 | 2 => i2 | 3 => i3 | 4 => i4 | 5 => i5 | 6 => i6 | _ => i7, fun k => match k with | 0 => a0 | 1 => a1 | 2 => a2 | 3 => a3 | 4 => a4 | _ => a5, ?_, ?_⟩
  · intro k q hq
    match k, hq with
    | 0, hq => cases hq; exact hk0
    | 1, hq => cases hq; exact hk1
    | 2, hq => cases hq; exact hk2
    | 3, hq => cases hq; exact hk3
    | 4, hq => cases hq; exact hk4
    | 5, hq => cases hq; exact hk5
    | 6, hq => cases hq; exact hk6
    | 7, hq => cases hq; exact hk7
    | k + 8, hq => simp [vwCl] at hq
  · intro k q hq
    match k, hq with
    | 0, hq => cases hq; exact hA0
    | 1, hq => cases hq; exact hA1
    | 2, hq => cases hq; exact hA2
    | 3, hq => cases hq; exact hA3
    | 4, hq => cases hq; exact hA4
    | 5, hq => cases hq; exact hA5
    | k + 6, hq => simp [am_ty] at hq
theorem lw_nest {p : Program} {s : State} {m : MethodId} {meth : Method} {c : Code} {b L : Nat} {xs : Nat → Int32} (C0 : lw_At p s m meth c b L xs) : am_NI s := by
  obtain ⟨hx, hb, hr, hml, hown, hts, hX, hbl, hlocks, hgv⟩ := id C0
  have o1 : (Cond.arrayOver (.array .int)).before #[Value.ref b] s = true := (hts _ (List.mem_append_right _ (List.mem_of_getElem? (i := 53) (by decide +kernel))))
  have o2 : (Cond.arrayOver (.object RX0)).before #[Value.ref b] s = true := (hts _ (List.mem_append_right _ (List.mem_of_getElem? (i := 175) (by decide +kernel))))
  have o3 : (Cond.arrayOver (.object RX4)).before #[Value.ref b] s = true := (hts _ (List.mem_append_right _ (List.mem_of_getElem? (i := 177) (by decide +kernel))))
  exact ⟨⟨o1, va_AO.of o2, va_AO.of o3⟩, va_Nw.of rfl (hts _ (List.mem_append_right _ (List.mem_of_getElem? (i := 26) (by decide +kernel)))), va_Nw.of rfl (hts _ (List.mem_append_right _ (List.mem_of_getElem? (i := 131) (by decide +kernel)))), va_Nw.of rfl (hts _ (List.mem_append_right _ (List.mem_of_getElem? (i := 134) (by decide +kernel)))), va_Nw.of rfl (hts _ (List.mem_append_right _ (List.mem_of_getElem? (i := 159) (by decide +kernel)))), va_Nw.of rfl (hts _ (List.mem_append_right _ (List.mem_of_getElem? (i := 179) (by decide +kernel)))), va_Nw.of rfl (hts _ (List.mem_append_right _ (List.mem_of_getElem? (i := 32) (by decide +kernel)))), va_Nw.of rfl (hts _ (List.mem_append_right _ (List.mem_of_getElem? (i := 48) (by decide +kernel))))⟩
set_option maxRecDepth 100000 in
theorem lw_s1 : ∀ i, i < 8 → Cond.exactly (Term.string "UnlikeFerry$Reader" (am_scp i)) "java/lang/String" ∈ flatC (Jvm.Cond.and given_1 narrow_1) ∧ Cond.eq (.field (Term.string "UnlikeFerry$Reader" (am_scp i)) "java/lang/String" "coder" "B") (.int 0) ∈ flatC (Jvm.Cond.and given_1 narrow_1) ∧ Cond.arrayOf (.field (Term.string "UnlikeFerry$Reader" (am_scp i)) "java/lang/String" "value" "[B") .byte ∈ flatC (Jvm.Cond.and given_1 narrow_1) ∧ Cond.eq (.length (.field (Term.string "UnlikeFerry$Reader" (am_scp i)) "java/lang/String" "value" "[B")) (.int (Int32.ofNat (am_sln.getD i 0))) ∈ flatC (Jvm.Cond.and given_1 narrow_1) := by decide +kernel
set_option maxRecDepth 100000 in
theorem lw_s2 : ∀ i, i < 8 → ∀ j, j < am_sln.getD i 0 → Cond.eq (.elem (.field (Term.string "UnlikeFerry$Reader" (am_scp i)) "java/lang/String" "value" "[B") (.int (Int32.ofNat j))) (.int ((am_sby.getD i []).getD j 0)) ∈ flatC (Jvm.Cond.and given_1 narrow_1) := by decide +kernel
set_option maxRecDepth 100000 in
theorem lw_s3 : ∀ i, i < 8 → ∀ j, j < 8 → i ≠ j → Cond.not (Cond.eq (Term.string "UnlikeFerry$Reader" (am_scp i)) (Term.string "UnlikeFerry$Reader" (am_scp j))) ∈ flatC (Jvm.Cond.and given_1 narrow_1) ∨ Cond.not (Cond.eq (Term.string "UnlikeFerry$Reader" (am_scp j)) (Term.string "UnlikeFerry$Reader" (am_scp i))) ∈ flatC (Jvm.Cond.and given_1 narrow_1) := by decide +kernel
set_option maxHeartbeats 4000000 in
set_option maxRecDepth 100000 in
theorem lw_text {p : Program} {s : State} {m : MethodId} {meth : Method} {c : Code} {b L : Nat} {xs : Nat → Int32} (C0 : lw_At p s m meth c b L xs) : ∃ (adK adV : Nat → Nat), ∀ ad : Nat → Nat → Nat, (∀ i, ad 40 i = adK i) → am_Xs ad adV (NW s.heap.size) s s.heap := by
  obtain ⟨hx, hb, hr, hml, hown, hts, hX, hbl, hlocks, hgv⟩ := id C0
  have hs := flat_of_before _ hgv
  have hA : ∀ a : Nat, a < s.heap.size → ¬ NW s.heap.size a := fun a h => Nat.not_le.mpr h
  obtain ⟨adK, adV, h1, h2⟩ := vk_Sof (args := #[Value.ref b]) (s := s) (N := 8) (tm := fun i => Term.string "UnlikeFerry$Reader" (am_scp i)) (len := am_sln) (byt := am_sby) (A := NW s.heap.size) (by decide) (fun i hi => hs _ (lw_s1 i hi).1) (fun i hi => hs _ (lw_s1 i hi).2.1) (fun i hi => hs _ (lw_s1 i hi).2.2.1) (fun i hi => hs _ (lw_s1 i hi).2.2.2) (fun i hi j hj => hs _ (lw_s2 i hi j hj)) (fun i j hi hj hij => (lw_s3 i hi j hj hij).imp (hs _) (hs _)) hA
  refine ⟨adK, adV, fun ad ha => ?_⟩
  have e : ad 40 = adK := funext ha
  have st : ∀ i, i < 8 → (Cond.stringRef "UnlikeFerry$Reader" (am_scp i) (am_stx i)).before #[Value.ref b] s = true := fun i hi => by
    rcases (by omega : i = 0 ∨ i = 1 ∨ i = 2 ∨ i = 3 ∨ i = 4 ∨ i = 5 ∨ i = 6 ∨ i = 7) with rfl | rfl | rfl | rfl | rfl | rfl | rfl | rfl
    · exact (hts _ (List.mem_append_right _ (List.mem_of_getElem? (i := 291) (by decide +kernel))))
    · exact (hts _ (List.mem_append_right _ (List.mem_of_getElem? (i := 366) (by decide +kernel))))
    · exact (hts _ (List.mem_append_right _ (List.mem_of_getElem? (i := 371) (by decide +kernel))))
    · exact (hts _ (List.mem_append_right _ (List.mem_of_getElem? (i := 383) (by decide +kernel))))
    · exact (hts _ (List.mem_append_right _ (List.mem_of_getElem? (i := 384) (by decide +kernel))))
    · exact (hts _ (List.mem_append_right _ (List.mem_of_getElem? (i := 385) (by decide +kernel))))
    · exact (hts _ (List.mem_append_right _ (List.mem_of_getElem? (i := 386) (by decide +kernel))))
    · exact (hts _ (List.mem_append_right _ (List.mem_of_getElem? (i := 387) (by decide +kernel))))
  refine ⟨by rw [e]; exact h1, fun i hi => ?_, va_Zof (hts _ (List.mem_append_right _ (List.mem_of_getElem? (i := 309) (by decide +kernel)))) (hts _ (List.mem_append_right _ (List.mem_of_getElem? (i := 9) (by decide +kernel)))) (va_eqi (hs _ (by decide +kernel))) hA, va_Zqof (hts _ (List.mem_append_right _ (List.mem_of_getElem? (i := 326) (by decide +kernel)))) (hts _ (List.mem_append_right _ (List.mem_of_getElem? (i := 11) (by decide +kernel)))) (hs _ (by decide +kernel)) hA, va_Nw.of rfl (hts _ (List.mem_append_right _ (List.mem_of_getElem? (i := 603) (by decide +kernel)))), va_Nw.of rfl (hts _ (List.mem_append_right _ (List.mem_of_getElem? (i := 376) (by decide +kernel)))), va_Nw.of rfl (hts _ (List.mem_append_right _ (List.mem_of_getElem? (i := 550) (by decide +kernel)))), va_Nw.of rfl (hts _ (List.mem_append_right _ (List.mem_of_getElem? (i := 361) (by decide +kernel))))⟩
  rw [e]
  exact vk_R.of (st i hi) (h2 i hi)
theorem inv_0 {f24 f25 f29 : Nat → Int32} (h24 : ∀ j, j < 9 → f24 j = k_cuts.getD j 0) (h25 : ∀ j, j < 41 → f25 j = k_letters.getD j 0) (h29 : ∀ j, j < 4 → f29 j = ([-4, -4, -4, -4] : List Int32).getD j 0) : Inv (am_s0 f24 f25 f29) := by
  refine ⟨0, 3, by decide, rfl, ⟨rfl, fun p j hp => absurd hp (Nat.not_lt_zero p), rfl, rfl, by decide, ⟨rfl, q_lim_n (n := 1) (by decide) (by decide)⟩, ⟨rfl, q_lim_n (n := 1) (by decide) (by decide)⟩, ⟨rfl, q_lim_n (n := 0) (by decide) (by decide)⟩, rfl, fun p j hp => absurd hp (Nat.not_lt_zero p), ?_⟩, fun k hk => ⟨rfl, Or.inl rfl⟩, ⟨0, by decide, rfl, rfl, fun k hk => absurd hk (Nat.not_lt_zero k)⟩, ⟨0, by decide, rfl, rfl, fun k hk => absurd hk (Nat.not_lt_zero k)⟩, fun k hk => Or.inl ⟨rfl, ?_⟩, ⟨h24, h25⟩, rfl, rfl⟩
  · show q_pop 0 9 < 3
    rw [q_pop_0]
    decide
  · show f29 k = -4
    rw [h29 k hk]
    rcases (by omega : k = 0 ∨ k = 1 ∨ k = 2 ∨ k = 3) with rfl | rfl | rfl | rfl <;> rfl
theorem am_gL {c : Jvm.Cond} (hc : c ∈ am_B) : GoodIn lw_tbl (c :: am_B) := fun w hw => by
  have g : ∀ w, w ∈ am_B → w ∈ lw_tbl ∧ ((w.onTables && w.keeps) = true ∨ ∃ ty, w = .arrayClass ty) := fun w h => ⟨(List.mem_filter.mp h).1, good_of_word (List.mem_filter.mp h).2⟩
  exact (List.mem_cons.mp hw).elim (fun e => e ▸ g _ hc) (fun h => g _ h)
set_option maxHeartbeats 8000000 in
set_option maxRecDepth 100000 in
theorem whole_start {p : Program} {e : Env} {s : State} {m : MethodId} {below : List Frame} {meth : Method} {c : Code} (l : Launch) {b L : Nat} {xs : Nat → Int32} (hL : L ≤ 2560) (C0 : lw_At p s m meth c b L xs) : W p l e room_1 s m #[Value.ref b] below meth c s.heap [] 0 0 (lw_Z below #[Value.ref b] s) (entryFrame m ([Value.ref b] : List Value).toArray 4) := by
  obtain ⟨hx, hb, hr, hml, hown, hts, hX, hbl, hlocks, hgv⟩ := id C0
  obtain ⟨dC, dI, dA, hK⟩ := lw_kinds C0
  have hNI := lw_nest C0
  obtain ⟨adK, adV, hXs⟩ := lw_text C0
  have hA : ∀ q : Nat, s.heap.size ≤ q → NW s.heap.size q := fun _ h => h
  have hbA : ¬ NW s.heap.size b := Nat.not_le.mpr hbl
  have hS : va_S (NW s.heap.size) s.heap s.heap [] := va_S.rf
  have hP : va_P (dC, dI) vwCl [] s.heap := fun k q h => by simp at h
  have hD : va_D (NW s.heap.size) [] := ⟨fun i j p q h => by simp at h, fun k q h => by simp at h⟩
  have hl := lv_entry ([.ref b]) (n := 4) (Nat.le_of_ble_eq_true rfl)
  rw [lg_entry_eq]
  generalize (lg_sl ([.ref b]) ++ List.replicate (4 - (lg_sl ([.ref b])).length) Slot.unset).toArray = ls at hl ⊢
  have hl : lv_has ls 4 [(0, .ref b)] := hl
  refine va_new (ci := 6) (fs := [.null, .null, .null, .null, .null, .null, .null, .null, .null, .null, .int 0, .int 0]) (C := RX6) (T := TX6) (N := 12) hx hb hts (fun w hw => lw_lt (lyX6 w hw)) tyX6 tyX6_ok hown (hts _ (lw_lt iw_354)) (hts _ (lw_lt iw_352)) (hts _ (lw_lt wd_162)) hK hP hD hS hA rfl (fun j hj => by rcases (show j = 0 ∨ j = 1 ∨ j = 2 ∨ j = 3 ∨ j = 4 ∨ j = 5 ∨ j = 6 ∨ j = 7 ∨ j = 8 ∨ j = 9 ∨ j = 10 ∨ j = 11 by omega) with rfl | rfl | rfl | rfl | rfl | rfl | rfl | rfl | rfl | rfl | rfl | rfl <;> rfl) (Nat.le_of_ble_eq_true rfl) (Nat.le_of_ble_eq_true rfl) lw_p0a (fun q0 H hP hD hS => ?_)
  have hP : va_P (dC, dI) vwCl [(q0, .inr (6, [.null, .null, .null, .null, .null, .null, .null, .null, .null, .null, .int 0, .int 0]))] H := hP
  have hD : va_D (NW s.heap.size) [(q0, .inr (6, [.null, .null, .null, .null, .null, .null, .null, .null, .null, .null, .int 0, .int 0]))] := hD
  refine W.widen (k := 1) (n := 12) (by omega) (by omega) ?_
  refine lv_dup hx hb (lw_d0 0 rfl (by decide)) rfl ?_
  have hFc := va_free (wc := [(q0, .inr (6, [.null, .null, .null, .null, .null, .null, .null, .null, .null, .null, .int 0, .int 0]))]) hD hS hA [0] rfl
  refine va_callv (va_runI (b := q0) (As := []) (rest := [.ref q0]) ⟨hx, hb, hml, hown, hts⟩ (ci_X6 l dC dI dA q0 H.size) (cwI 0 hts (am_gL iw_360) rfl rfl rfl (hts _ (lw_lt wd_162)) (hts _ (lw_lt iw_356)) (hts _ (lw_lt iw_358)) rfl (by decide +kernel) ⟨Nat.le_of_ble_eq_true rfl, Nat.le_of_ble_eq_true rfl⟩) ⟨am_blind, fun U hU hW => ⟨rfl, by rw [hU], by rw [hU]; exact hP, va_K.moved hW.alike hK, hD.weaken (fun _ _ _ _ => trivial), hNI.to hW⟩⟩ rfl rfl hl.1 rfl (lv_room (Nat.le_of_ble_eq_true rfl)) lw_p4a ⟨Nat.le_of_ble_eq_true rfl, Nat.le_of_ble_eq_true rfl⟩) hS (fun q _ h => hFc q h) hFc (fun u t H1 locs ht hvm hw hB hz1 hk1 hS => ?_)
  obtain ⟨a, ha, hP1, hD1⟩ := hB
  rw [ht] at hP1
  obtain ⟨hP', hD'⟩ := va_join (wr := []) (w1 := am_wl am_F78 a dA (am_s0 (fun _ => 0) (fun _ => 0) (fun _ => 0))) hP hD [0] [] rfl rfl (by decide) (by decide) hk1 hFc hP1 hD1
  clear hP1 hD1 hk1 hFc hP hD
  generalize H1 = H at hP' hS ⊢
  subst ha
  have hP : va_P (dC, dI) vwCl (am_wl am_F78 a dA (am_s0 (fun _ => 0) (fun _ => 0) (fun _ => 0))) H := hP'
  have hD : va_D (NW s.heap.size) (am_wl am_F78 a dA (am_s0 (fun _ => 0) (fun _ => 0) (fun _ => 0))) := hD'
  clear hP' hD'
  refine W.widen (k := 78) (n := 1438) (by omega) (by omega) ?_
  refine lv_astore_n (lv' := [(1, .ref (a 0 0)), (0, .ref b)]) hx hb (lw_d0 1 rfl (by decide)) rfl hl (by decide) rfl (fun ls hl => ?_)
  refine va_new (ci := 7) (fs := [.null, .int 0, .null, .int 0, .int 0, .int 0, .null, .int 0, .int 0, .int 0, .int 0, .int 0, .int 0, .int 0, .int 0, .null, .null, .null, .int 0, .int 0, .int 0, .int 0, .null, .int 0, .null, .null, .null, .null, .int 0]) (C := RX7) (T := TX7) (N := 29) hx hb hts (fun w hw => lw_lt (lyX7 w hw)) tyX7 tyX7_ok hown (hts _ (lw_lt iw_355)) (hts _ (lw_lt iw_353)) (hts _ (lw_lt wd_459)) hK hP hD hS hA rfl (fun j hj => by rcases (show j = 0 ∨ j = 1 ∨ j = 2 ∨ j = 3 ∨ j = 4 ∨ j = 5 ∨ j = 6 ∨ j = 7 ∨ j = 8 ∨ j = 9 ∨ j = 10 ∨ j = 11 ∨ j = 12 ∨ j = 13 ∨ j = 14 ∨ j = 15 ∨ j = 16 ∨ j = 17 ∨ j = 18 ∨ j = 19 ∨ j = 20 ∨ j = 21 ∨ j = 22 ∨ j = 23 ∨ j = 24 ∨ j = 25 ∨ j = 26 ∨ j = 27 ∨ j = 28 by omega) with rfl | rfl | rfl | rfl | rfl | rfl | rfl | rfl | rfl | rfl | rfl | rfl | rfl | rfl | rfl | rfl | rfl | rfl | rfl | rfl | rfl | rfl | rfl | rfl | rfl | rfl | rfl | rfl | rfl <;> rfl) (Nat.le_of_ble_eq_true rfl) (Nat.le_of_ble_eq_true rfl) lw_p8a (fun q8 H hP hD hS => ?_)
  refine W.widen (k := 79) (n := 1467) (by omega) (by omega) ?_
  refine lv_dup hx hb (lw_d0 2 rfl (by decide)) rfl ?_
  have hPc := hP.sub (ws' := [(q8, .inr (7, [.null, .int 0, .null, .int 0, .int 0, .int 0, .null, .int 0, .int 0, .int 0, .int 0, .int 0, .int 0, .int 0, .int 0, .null, .null, .null, .int 0, .int 0, .int 0, .int 0, .null, .int 0, .null, .null, .null, .null, .int 0]))]) [78] rfl
  have hDc := hD.sub (ws' := [(q8, .inr (7, [.null, .int 0, .null, .int 0, .int 0, .int 0, .null, .int 0, .int 0, .int 0, .int 0, .int 0, .int 0, .int 0, .int 0, .null, .null, .null, .int 0, .int 0, .int 0, .int 0, .null, .int 0, .null, .null, .null, .null, .int 0]))]) [78] (by decide) rfl
  have hFc := va_free (wc := [(q8, .inr (7, [.null, .int 0, .null, .int 0, .int 0, .int 0, .null, .int 0, .int 0, .int 0, .int 0, .int 0, .int 0, .int 0, .int 0, .null, .null, .null, .int 0, .int 0, .int 0, .int 0, .null, .int 0, .null, .null, .null, .null, .int 0]))]) hD hS hA [78] rfl
  refine va_callv (va_runI (b := q8) (As := []) (rest := [.ref q8]) ⟨hx, hb, hml, hown, hts⟩ (ci_X7 l dC dI dA q8 H.size) (cwI 0 hts (am_gL iw_361) rfl rfl rfl (hts _ (lw_lt wd_459)) (hts _ (lw_lt iw_357)) (hts _ (lw_lt iw_359)) rfl (by decide +kernel) ⟨Nat.le_of_ble_eq_true rfl, Nat.le_of_ble_eq_true rfl⟩) ⟨am_blind, fun U hU hW => ⟨rfl, by rw [hU], by rw [hU]; exact hPc, va_K.moved hW.alike hK, hDc.weaken (fun _ _ _ _ => trivial), hNI.to hW⟩⟩ rfl rfl hl.1 rfl (lv_room (Nat.le_of_ble_eq_true rfl)) lw_p12a ⟨Nat.le_of_ble_eq_true rfl, Nat.le_of_ble_eq_true rfl⟩) hS (fun q _ h => hFc q h) hFc (fun u t H1 locs ht hvm hw hB hz1 hk1 hS => ?_)
  obtain ⟨b21, b22, b23, b24, b25, b26, b27, b28, b29, b30, b31, f24, f25, f29, h24, h25, h29, hP1, hD1⟩ := hB
  rw [ht] at hP1
  obtain ⟨hP, hD⟩ := va_join (wr := am_wl am_F78 a dA (am_s0 (fun _ => 0) (fun _ => 0) (fun _ => 0))) (w1 := [(q8, .inr (7, [.ref b21, .int 0, .ref b22, .int 0, .int 0, .int 0, .ref b23, .int 0, .int 0, .int 0, .int 0, .int 0, .int 0, .int 0, .int 0, .ref b24, .ref b25, .ref b26, .int 0, .int 0, .int 0, .int 0, .ref b27, .int 0, .ref b28, .ref b29, .ref b30, .ref b31, .int 0])), (b21, .inl (dA 0, 340, .inl (fun _ => 0))), (b22, .inl (dA 0, 68, .inl (fun _ => 0))), (b23, .inl (dA 0, 160, .inl (fun _ => 0))), (b24, .inl (dA 0, 9, .inl (f24))), (b25, .inl (dA 0, 41, .inl (f25))), (b26, .inl (dA 0, 512, .inl (fun _ => 0))), (b27, .inl (dA 0, 12, .inl (fun _ => 0))), (b28, .inl (dA 2, 2, .inl (fun _ => 0))), (b29, .inl (dA 0, 4, .inl (f29))), (b30, .inl (dA 0, 4, .inl (fun _ => 0))), (b31, .inl (dA 0, 160, .inl (fun _ => 0)))]) hP hD [78] [0, 1, 2, 3, 4, 5, 6, 7, 8, 9, 10, 11, 12, 13, 14, 15, 16, 17, 18, 19, 20, 21, 22, 23, 24, 25, 26, 27, 28, 29, 30, 31, 32, 33, 34, 35, 36, 37, 38, 39, 40, 41, 42, 43, 44, 45, 46, 47, 48, 49, 50, 51, 52, 53, 54, 55, 56, 57, 58, 59, 60, 61, 62, 63, 64, 65, 66, 67, 68, 69, 70, 71, 72, 73, 74, 75, 76, 77] rfl rfl (by decide) (by decide) hk1 hFc hP1 hD1
  clear hP1 hD1 hk1 hFc hPc hDc
  generalize H1 = H at hP hS ⊢
  refine lv_astore_n (lv' := [(2, .ref q8), (1, .ref (a 0 0)), (0, .ref b)]) hx hb (lw_d0 3 rfl (by decide)) rfl hl (by decide) rfl (fun ls hl => ?_)
  refine lv_iconst (v := 0) hx hb (lw_d0 4 rfl (by decide)) (by decide) ?_
  refine lv_istore_n (lv' := [(3, .int 0), (2, .ref q8), (1, .ref (a 0 0)), (0, .ref b)]) hx hb (lw_d0 5 rfl (by decide)) rfl hl (by decide) rfl (fun ls hl => ?_)
  have ew : am_w (fun k i => if k < 20 then a k i else if k < 32 then (match k with | 20 => q8 | 21 => b21 | 22 => b22 | 23 => b23 | 24 => b24 | 25 => b25 | 26 => b26 | 27 => b27 | 28 => b28 | 29 => b29 | 30 => b30 | 31 => b31 | _ => 0) else adK i : Nat → Nat → Nat) dA (am_s0 f24 f25 f29) = am_wl am_F78 a dA (am_s0 (fun _ => 0) (fun _ => 0) (fun _ => 0)) ++ [(q8, .inr (7, [.ref b21, .int 0, .ref b22, .int 0, .int 0, .int 0, .ref b23, .int 0, .int 0, .int 0, .int 0, .int 0, .int 0, .int 0, .int 0, .ref b24, .ref b25, .ref b26, .int 0, .int 0, .int 0, .int 0, .ref b27, .int 0, .ref b28, .ref b29, .ref b30, .ref b31, .int 0])), (b21, .inl (dA 0, 340, .inl (fun _ => 0))), (b22, .inl (dA 0, 68, .inl (fun _ => 0))), (b23, .inl (dA 0, 160, .inl (fun _ => 0))), (b24, .inl (dA 0, 9, .inl (f24))), (b25, .inl (dA 0, 41, .inl (f25))), (b26, .inl (dA 0, 512, .inl (fun _ => 0))), (b27, .inl (dA 0, 12, .inl (fun _ => 0))), (b28, .inl (dA 2, 2, .inl (fun _ => 0))), (b29, .inl (dA 0, 4, .inl (f29))), (b30, .inl (dA 0, 4, .inl (fun _ => 0))), (b31, .inl (dA 0, 160, .inl (fun _ => 0)))] := by
    unfold am_w
    rw [am_FF, List.map_append]
    rfl
  rw [← ew] at hP hD
  have hG : lw_G p s m meth c dC dI dA (fun k i => if k < 20 then a k i else if k < 32 then (match k with | 20 => q8 | 21 => b21 | 22 => b22 | 23 => b23 | 24 => b24 | 25 => b25 | 26 => b26 | 27 => b27 | 28 => b28 | 29 => b29 | 30 => b30 | 31 => b31 | _ => 0) else adK i : Nat → Nat → Nat) adV b L xs := ⟨C0, hK, am_D_any hD, hXs _ (fun i => rfl)⟩
  refine W.widen (k := 600000) (n := 7302250) (by omega) (by omega) ?_
  exact law_loop hL hG (L + 6) 0 (Nat.zero_le _) (by omega) (am_s0 f24 f25 f29) H locs ls (inv_0 h24 h25 h29) hP hS (lv_sub hl [3, 2, 1, 0] rfl)
