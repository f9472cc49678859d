theorem am_AOu {A : Array Value} {U : State} (h : (Cond.arrayOver (.array .int)).before #[] U = true) : (Cond.arrayOver (.array .int)).before A U = true := h
-- rows of the constructors
theorem dX5_init_0 : decode cX5_init 0 = .ok (.aload_n 0, 1) := by decide +kernel
theorem dX5_init_1 : decode cX5_init 1 = .ok (.invokespecial 3, 3) := by decide +kernel
theorem dX5_init_4 : decode cX5_init 4 = .ok (.aload_n 0, 1) := by decide +kernel
theorem dX5_init_5 : decode cX5_init 5 = .ok (.sipush 160, 3) := by decide +kernel
theorem dX5_init_8 : decode cX5_init 8 = .ok (.newarray .byte, 2) := by decide +kernel
theorem dX5_init_10 : decode cX5_init 10 = .ok (.putfield 9, 3) := by decide +kernel
theorem dX5_init_13 : decode cX5_init 13 = .ok (.aload_n 0, 1) := by decide +kernel
theorem dX5_init_14 : decode cX5_init 14 = .ok (.iconst 0, 1) := by decide +kernel
theorem dX5_init_15 : decode cX5_init 15 = .ok (.putfield 15, 3) := by decide +kernel
theorem dX5_init_18 : decode cX5_init 18 = .ok (.return_, 1) := by decide +kernel
theorem dX0_init_0 : decode cX0_init 0 = .ok (.aload_n 0, 1) := by decide +kernel
theorem dX0_init_1 : decode cX0_init 1 = .ok (.invokespecial 3, 3) := by decide +kernel
theorem dX0_init_4 : decode cX0_init 4 = .ok (.aload_n 0, 1) := by decide +kernel
theorem dX0_init_5 : decode cX0_init 5 = .ok (.bipush 9, 2) := by decide +kernel
theorem dX0_init_7 : decode cX0_init 7 = .ok (.bipush 7, 2) := by decide +kernel
theorem dX0_init_9 : decode cX0_init 9 = .ok (.multianewarray 9 2, 4) := by decide +kernel
theorem dX0_init_13 : decode cX0_init 13 = .ok (.putfield 11, 3) := by decide +kernel
theorem dX0_init_16 : decode cX0_init 16 = .ok (.aload_n 0, 1) := by decide +kernel
theorem dX0_init_17 : decode cX0_init 17 = .ok (.iconst 0, 1) := by decide +kernel
theorem dX0_init_18 : decode cX0_init 18 = .ok (.putfield 16, 3) := by decide +kernel
theorem dX0_init_21 : decode cX0_init 21 = .ok (.aload_n 0, 1) := by decide +kernel
theorem dX0_init_22 : decode cX0_init 22 = .ok (.iconst 3, 1) := by decide +kernel
theorem dX0_init_23 : decode cX0_init 23 = .ok (.putfield 20, 3) := by decide +kernel
theorem dX0_init_26 : decode cX0_init 26 = .ok (.aload_n 0, 1) := by decide +kernel
theorem dX0_init_27 : decode cX0_init 27 = .ok (.iconst 1, 1) := by decide +kernel
theorem dX0_init_28 : decode cX0_init 28 = .ok (.putfield 23, 3) := by decide +kernel
theorem dX0_init_31 : decode cX0_init 31 = .ok (.aload_n 0, 1) := by decide +kernel
theorem dX0_init_32 : decode cX0_init 32 = .ok (.iconst 1, 1) := by decide +kernel
theorem dX0_init_33 : decode cX0_init 33 = .ok (.putfield 26, 3) := by decide +kernel
theorem dX0_init_36 : decode cX0_init 36 = .ok (.aload_n 0, 1) := by decide +kernel
theorem dX0_init_37 : decode cX0_init 37 = .ok (.iconst 0, 1) := by decide +kernel
theorem dX0_init_38 : decode cX0_init 38 = .ok (.putfield 29, 3) := by decide +kernel
theorem dX0_init_41 : decode cX0_init 41 = .ok (.aload_n 0, 1) := by decide +kernel
theorem dX0_init_42 : decode cX0_init 42 = .ok (.iconst 0, 1) := by decide +kernel
theorem dX0_init_43 : decode cX0_init 43 = .ok (.putfield 32, 3) := by decide +kernel
theorem dX0_init_46 : decode cX0_init 46 = .ok (.return_, 1) := by decide +kernel
theorem dX1_init_0 : decode cX1_init 0 = .ok (.aload_n 0, 1) := by decide +kernel
theorem dX1_init_1 : decode cX1_init 1 = .ok (.invokespecial 3, 3) := by decide +kernel
theorem dX1_init_4 : decode cX1_init 4 = .ok (.aload_n 0, 1) := by decide +kernel
theorem dX1_init_5 : decode cX1_init 5 = .ok (.new 9, 3) := by decide +kernel
theorem dX1_init_8 : decode cX1_init 8 = .ok (.dup, 1) := by decide +kernel
theorem dX1_init_9 : decode cX1_init 9 = .ok (.invokespecial 11, 3) := by decide +kernel
theorem dX1_init_12 : decode cX1_init 12 = .ok (.putfield 12, 3) := by decide +kernel
theorem dX1_init_15 : decode cX1_init 15 = .ok (.aload_n 0, 1) := by decide +kernel
theorem dX1_init_16 : decode cX1_init 16 = .ok (.new 18, 3) := by decide +kernel
theorem dX1_init_19 : decode cX1_init 19 = .ok (.dup, 1) := by decide +kernel
theorem dX1_init_20 : decode cX1_init 20 = .ok (.invokespecial 20, 3) := by decide +kernel
theorem dX1_init_23 : decode cX1_init 23 = .ok (.putfield 21, 3) := by decide +kernel
theorem dX1_init_26 : decode cX1_init 26 = .ok (.aload_n 0, 1) := by decide +kernel
theorem dX1_init_27 : decode cX1_init 27 = .ok (.iconst 0, 1) := by decide +kernel
theorem dX1_init_28 : decode cX1_init 28 = .ok (.putfield 25, 3) := by decide +kernel
theorem dX1_init_31 : decode cX1_init 31 = .ok (.aload_n 0, 1) := by decide +kernel
theorem dX1_init_32 : decode cX1_init 32 = .ok (.iconst 0, 1) := by decide +kernel
theorem dX1_init_33 : decode cX1_init 33 = .ok (.putfield 29, 3) := by decide +kernel
theorem dX1_init_36 : decode cX1_init 36 = .ok (.aload_n 0, 1) := by decide +kernel
theorem dX1_init_37 : decode cX1_init 37 = .ok (.iconst 0, 1) := by decide +kernel
theorem dX1_init_38 : decode cX1_init 38 = .ok (.putfield 32, 3) := by decide +kernel
theorem dX1_init_41 : decode cX1_init 41 = .ok (.aload_n 0, 1) := by decide +kernel
theorem dX1_init_42 : decode cX1_init 42 = .ok (.iconst 0, 1) := by decide +kernel
theorem dX1_init_43 : decode cX1_init 43 = .ok (.putfield 35, 3) := by decide +kernel
theorem dX1_init_46 : decode cX1_init 46 = .ok (.aload_n 0, 1) := by decide +kernel
theorem dX1_init_47 : decode cX1_init 47 = .ok (.iconst 0, 1) := by decide +kernel
theorem dX1_init_48 : decode cX1_init 48 = .ok (.putfield 38, 3) := by decide +kernel
theorem dX1_init_51 : decode cX1_init 51 = .ok (.aload_n 0, 1) := by decide +kernel
theorem dX1_init_52 : decode cX1_init 52 = .ok (.iconst 0, 1) := by decide +kernel
theorem dX1_init_53 : decode cX1_init 53 = .ok (.putfield 41, 3) := by decide +kernel
theorem dX1_init_56 : decode cX1_init 56 = .ok (.aload_n 0, 1) := by decide +kernel
theorem dX1_init_57 : decode cX1_init 57 = .ok (.iconst 0, 1) := by decide +kernel
theorem dX1_init_58 : decode cX1_init 58 = .ok (.putfield 44, 3) := by decide +kernel
theorem dX1_init_61 : decode cX1_init 61 = .ok (.aload_n 0, 1) := by decide +kernel
theorem dX1_init_62 : decode cX1_init 62 = .ok (.iconst 0, 1) := by decide +kernel
theorem dX1_init_63 : decode cX1_init 63 = .ok (.putfield 47, 3) := by decide +kernel
theorem dX1_init_66 : decode cX1_init 66 = .ok (.aload_n 0, 1) := by decide +kernel
theorem dX1_init_67 : decode cX1_init 67 = .ok (.iconst 0, 1) := by decide +kernel
theorem dX1_init_68 : decode cX1_init 68 = .ok (.putfield 51, 3) := by decide +kernel
theorem dX1_init_71 : decode cX1_init 71 = .ok (.return_, 1) := by decide +kernel
theorem dX3_init_0 : decode cX3_init 0 = .ok (.aload_n 0, 1) := by decide +kernel
theorem dX3_init_1 : decode cX3_init 1 = .ok (.invokespecial 3, 3) := by decide +kernel
theorem dX3_init_4 : decode cX3_init 4 = .ok (.aload_n 0, 1) := by decide +kernel
theorem dX3_init_5 : decode cX3_init 5 = .ok (.bipush 9, 2) := by decide +kernel
theorem dX3_init_7 : decode cX3_init 7 = .ok (.newarray .int, 2) := by decide +kernel
theorem dX3_init_9 : decode cX3_init 9 = .ok (.putfield 9, 3) := by decide +kernel
theorem dX3_init_12 : decode cX3_init 12 = .ok (.aload_n 0, 1) := by decide +kernel
theorem dX3_init_13 : decode cX3_init 13 = .ok (.bipush 126, 2) := by decide +kernel
theorem dX3_init_15 : decode cX3_init 15 = .ok (.newarray .int, 2) := by decide +kernel
theorem dX3_init_17 : decode cX3_init 17 = .ok (.putfield 15, 3) := by decide +kernel
theorem dX3_init_20 : decode cX3_init 20 = .ok (.aload_n 0, 1) := by decide +kernel
theorem dX3_init_21 : decode cX3_init 21 = .ok (.sipush 512, 3) := by decide +kernel
theorem dX3_init_24 : decode cX3_init 24 = .ok (.newarray .int, 2) := by decide +kernel
theorem dX3_init_26 : decode cX3_init 26 = .ok (.putfield 18, 3) := by decide +kernel
theorem dX3_init_29 : decode cX3_init 29 = .ok (.aload_n 0, 1) := by decide +kernel
theorem dX3_init_30 : decode cX3_init 30 = .ok (.iconst 0, 1) := by decide +kernel
theorem dX3_init_31 : decode cX3_init 31 = .ok (.putfield 21, 3) := by decide +kernel
theorem dX3_init_34 : decode cX3_init 34 = .ok (.aload_n 0, 1) := by decide +kernel
theorem dX3_init_35 : decode cX3_init 35 = .ok (.iconst 1, 1) := by decide +kernel
theorem dX3_init_36 : decode cX3_init 36 = .ok (.putfield 25, 3) := by decide +kernel
theorem dX3_init_39 : decode cX3_init 39 = .ok (.return_, 1) := by decide +kernel
theorem dX2_init_0 : decode cX2_init 0 = .ok (.aload_n 0, 1) := by decide +kernel
theorem dX2_init_1 : decode cX2_init 1 = .ok (.invokespecial 3, 3) := by decide +kernel
theorem dX2_init_4 : decode cX2_init 4 = .ok (.aload_n 0, 1) := by decide +kernel
theorem dX2_init_5 : decode cX2_init 5 = .ok (.bipush 6, 2) := by decide +kernel
theorem dX2_init_7 : decode cX2_init 7 = .ok (.newarray .int, 2) := by decide +kernel
theorem dX2_init_9 : decode cX2_init 9 = .ok (.putfield 9, 3) := by decide +kernel
theorem dX2_init_12 : decode cX2_init 12 = .ok (.aload_n 0, 1) := by decide +kernel
theorem dX2_init_13 : decode cX2_init 13 = .ok (.bipush 6, 2) := by decide +kernel
theorem dX2_init_15 : decode cX2_init 15 = .ok (.newarray .boolean, 2) := by decide +kernel
theorem dX2_init_17 : decode cX2_init 17 = .ok (.putfield 15, 3) := by decide +kernel
theorem dX2_init_20 : decode cX2_init 20 = .ok (.aload_n 0, 1) := by decide +kernel
theorem dX2_init_21 : decode cX2_init 21 = .ok (.iconst 0, 1) := by decide +kernel
theorem dX2_init_22 : decode cX2_init 22 = .ok (.putfield 19, 3) := by decide +kernel
theorem dX2_init_25 : decode cX2_init 25 = .ok (.return_, 1) := by decide +kernel
theorem dX4_init_0 : decode cX4_init 0 = .ok (.aload_n 0, 1) := by decide +kernel
theorem dX4_init_1 : decode cX4_init 1 = .ok (.invokespecial 3, 3) := by decide +kernel
theorem dX4_init_4 : decode cX4_init 4 = .ok (.aload_n 0, 1) := by decide +kernel
theorem dX4_init_5 : decode cX4_init 5 = .ok (.bipush 40, 2) := by decide +kernel
theorem dX4_init_7 : decode cX4_init 7 = .ok (.newarray .int, 2) := by decide +kernel
theorem dX4_init_9 : decode cX4_init 9 = .ok (.putfield 9, 3) := by decide +kernel
theorem dX4_init_12 : decode cX4_init 12 = .ok (.aload_n 0, 1) := by decide +kernel
theorem dX4_init_13 : decode cX4_init 13 = .ok (.iconst 0, 1) := by decide +kernel
theorem dX4_init_14 : decode cX4_init 14 = .ok (.putfield 15, 3) := by decide +kernel
theorem dX4_init_17 : decode cX4_init 17 = .ok (.aload_n 0, 1) := by decide +kernel
theorem dX4_init_18 : decode cX4_init 18 = .ok (.iconst 0, 1) := by decide +kernel
theorem dX4_init_19 : decode cX4_init 19 = .ok (.putfield 19, 3) := by decide +kernel
theorem dX4_init_22 : decode cX4_init 22 = .ok (.aload_n 0, 1) := by decide +kernel
theorem dX4_init_23 : decode cX4_init 23 = .ok (.iconst 0, 1) := by decide +kernel
theorem dX4_init_24 : decode cX4_init 24 = .ok (.putfield 23, 3) := by decide +kernel
theorem dX4_init_27 : decode cX4_init 27 = .ok (.return_, 1) := by decide +kernel
set_option maxHeartbeats 8000000 in
set_option maxRecDepth 100000 in
theorem ci_X5 (l : Launch) (dC : Nat → ClassId) (dI : Nat → Nat → Nat) (dA : Nat → ClassId) (h0 sz : Nat) : Met l yX5_init (Jvm.Cond.code yX5_init cX5_init 1 none :: am_B) { frames := 1, cells := 1, slots := 160, locals := 12 } (va_Pc [.ref h0] (fun U => U.heap.size = sz ∧ va_P (dC, dI) vwCl [(h0, .inr (5, [.null, .int 0]))] U.heap ∧ va_K (dC, dI) vwCl (am_ty dA) U ∧ va_D (fun _ => True) [(h0, .inr (5, [.null, .int 0]))] ∧ am_NI U)) (va_Qv (fun _ : Unit => True) (fun _ t => ∃ (qb : Nat), va_P (dC, dI) vwCl [(h0, .inr (5, [.ref qb, .int 0])), (qb, .inl (dA 1, 160, .inl (fun _ => 0)))] t.heap ∧ va_D (va_A [(h0, .inr (5, [.null, .int 0]))] sz) [(h0, .inr (5, [.ref qb, .int 0])), (qb, .inl (dA 1, 160, .inl (fun _ => 0)))]) (va_A [(h0, .inr (5, [.null, .int 0]))] sz)) 1 160 (va_A [(h0, .inr (5, [.null, .int 0]))] sz) := by
  refine Met.ofW (cc := cX5_init) (maxL := 1) (ret := none) (by decide) rfl ?_
  intro p e s m args below meth c s₁ B hml hv
  obtain ⟨rfl, hsz, hP, hK, hD0, hNI⟩ := hv
  have hx := B.exec
  have hb := B.bytes
  have hr := B.returns
  have hts := atoms_spec (ws := Jvm.Cond.code yX5_init cX5_init 1 none :: am_B) B.pre
  have hown : s.vm.findClass RX5 = some m.cls := findClass_of_methodNamed B.named
  have hlocks := B.notSynchronized
  have hin : meth.name = "<init>" := (name_of_methodNamed B.named B.method).1
  subst hsz
  have hD := hD0.self (sz := s.heap.size)
  generalize hAe : va_A [(h0, .inr (5, [.null, .int 0]))] s.heap.size = A at hD ⊢
  have hA : ∀ q : Nat, s.heap.size ≤ q → A q := fun q h => by rw [← hAe]; exact Or.inr h
  have hS : va_S A s.heap s.heap [] := va_S.rf
  have hP : va_P (dC, dI) vwCl [(h0, .inr (5, [.null, .int 0]))] s.heap := hP
  have hl := lv_entry ([.ref h0]) (n := 1) (Nat.le_of_ble_eq_true rfl)
  rw [lg_entry_eq]
  generalize (lg_sl ([.ref h0]) ++ List.replicate (1 - (lg_sl ([.ref h0])).length) Slot.unset).toArray = ls at hl ⊢
  have hl : lv_has ls 1 [(0, .ref h0)] := hl
  refine lv_aload_n hx hb dX5_init_0 rfl (lv_at hl 0 rfl) ?_
  refine W.objInit hx hb hown (hts _ (List.mem_cons_of_mem _ iw_0)) (hts _ (List.mem_cons_of_mem _ iw_1)) (hts _ (List.mem_cons_of_mem _ iw_2)) rfl (by rw [hml]; exact hl.1) rfl dX5_init_1 (Nat.le_of_ble_eq_true rfl) (Nat.le_of_ble_eq_true rfl) ?_
  refine W.eq (g2 := F0 m 4 ls []) rfl ?_
  refine lv_aload_n hx hb dX5_init_4 rfl (lv_at hl 0 rfl) ?_
  refine lv_sipush (v := 160) hx hb dX5_init_5 (by decide) ?_
  refine va_newa (atype := .byte) (ty := .byte) (N' := 160) (a0 := (160, .inl (fun _ => 0))) hx hb (hts _ (List.mem_cons_of_mem _ iw_3)) rfl hK hP hD hS hA (fun _ => rfl) (by decide) (by decide) (by decide) (Nat.le_of_ble_eq_true rfl) (Nat.le_of_ble_eq_true rfl) dX5_init_8 (fun q8 cA H hK2 hP hD hS => ?_)
  obtain rfl := am_uni 1 (dA 1) hK2 rfl
  clear hK2
  have hP : va_P (dC, dI) vwCl [(h0, .inr (5, [.null, .int 0])), (q8, .inl (dA 1, 160, .inl (fun _ => 0)))] H := hP
  have hD : va_D A [(h0, .inr (5, [.null, .int 0])), (q8, .inl (dA 1, 160, .inl (fun _ => 0)))] := hD
  refine W.widen (k := 1) (n := 160) (by omega) (by omega) ?_
  refine va_putF (D := (dC, dI)) (ci := 5) (v := .ref q8) (ty := tyX5 0) (C := RX5) (T := TX5) (N := 2) hx hb hts (fun w hw => List.mem_cons_of_mem _ (lyX5 w hw)) tyX5 tyX5_ok nmX5 hown hK hP hD hS 0 rfl rfl 0 (by decide) (hts _ (List.mem_cons_of_mem _ wd_175)) (fun _ h9 => h9) rfl hin rfl (tyX5_ok 0 (by decide)) rfl rfl (Nat.le_of_ble_eq_true rfl) dX5_init_10 (fun H locs hP hD hS => ?_)
  have hP : va_P (dC, dI) vwCl [(h0, .inr (5, [.ref q8, .int 0])), (q8, .inl (dA 1, 160, .inl (fun _ => 0)))] H := hP
  have hD : va_D A [(h0, .inr (5, [.ref q8, .int 0])), (q8, .inl (dA 1, 160, .inl (fun _ => 0)))] := hD
  refine lv_aload_n hx hb dX5_init_13 rfl (lv_at hl 0 rfl) ?_
  refine lv_iconst (v := 0) hx hb dX5_init_14 (by decide) ?_
  refine va_put (D := (dC, dI)) (ci := 5) (v := .int 0) (ty := tyX5 1) (C := RX5) (T := TX5) (N := 2) hx hb hts (fun w hw => List.mem_cons_of_mem _ (lyX5 w hw)) tyX5 tyX5_ok nmX5 hown hK hP hD hS 0 rfl rfl 1 (by decide) (hts _ (List.mem_cons_of_mem _ wd_176)) (fun _ h9 => h9) rfl (tyX5_ok 1 (by decide)) rfl rfl (Nat.le_of_ble_eq_true rfl) dX5_init_15 (fun H locs hP hD hS => ?_)
  have hP : va_P (dC, dI) vwCl [(h0, .inr (5, [.ref q8, .int 0])), (q8, .inl (dA 1, 160, .inl (fun _ => 0)))] H := hP
  have hD : va_D A [(h0, .inr (5, [.ref q8, .int 0])), (q8, .inl (dA 1, 160, .inl (fun _ => 0)))] := hD
  exact W.vret hx hb hr (fun t ht hW => ⟨⟨(), rfl, trivial, q8, by rw [ht]; exact hP, hD⟩, hS.F ht⟩) hS.2.2 dX5_init_18
set_option maxHeartbeats 8000000 in
set_option maxRecDepth 100000 in
theorem ci_X0 (l : Launch) (dC : Nat → ClassId) (dI : Nat → Nat → Nat) (dA : Nat → ClassId) (h0 sz : Nat) : Met l yX0_init (Jvm.Cond.code yX0_init cX0_init 1 none :: am_B) { frames := 1, cells := 10, slots := 72, locals := 12 } (va_Pc [.ref h0] (fun U => U.heap.size = sz ∧ va_P (dC, dI) vwCl [(h0, .inr (0, [.null, .int 0, .int 0, .int 0, .int 0, .int 0, .int 0]))] U.heap ∧ va_K (dC, dI) vwCl (am_ty dA) U ∧ va_D (fun _ => True) [(h0, .inr (0, [.null, .int 0, .int 0, .int 0, .int 0, .int 0, .int 0]))] ∧ am_NI U)) (va_Qv (fun _ : Unit => True) (fun _ t => ∃ (qo : Nat) (rr : Nat → Nat), va_P (dC, dI) vwCl [(h0, .inr (0, [.ref qo, .int 0, .int 3, .int 1, .int 1, .int 0, .int 0])), (qo, .inl (dA 3, 9, .inr (.inr (.inr (.inr (fun i => if i < 9 then some (rr i) else none)))))), ((rr 0), .inl (dA 0, 7, .inl (fun _ => 0))), ((rr 1), .inl (dA 0, 7, .inl (fun _ => 0))), ((rr 2), .inl (dA 0, 7, .inl (fun _ => 0))), ((rr 3), .inl (dA 0, 7, .inl (fun _ => 0))), ((rr 4), .inl (dA 0, 7, .inl (fun _ => 0))), ((rr 5), .inl (dA 0, 7, .inl (fun _ => 0))), ((rr 6), .inl (dA 0, 7, .inl (fun _ => 0))), ((rr 7), .inl (dA 0, 7, .inl (fun _ => 0))), ((rr 8), .inl (dA 0, 7, .inl (fun _ => 0)))] t.heap ∧ va_D (va_A [(h0, .inr (0, [.null, .int 0, .int 0, .int 0, .int 0, .int 0, .int 0]))] sz) [(h0, .inr (0, [.ref qo, .int 0, .int 3, .int 1, .int 1, .int 0, .int 0])), (qo, .inl (dA 3, 9, .inr (.inr (.inr (.inr (fun i => if i < 9 then some (rr i) else none)))))), ((rr 0), .inl (dA 0, 7, .inl (fun _ => 0))), ((rr 1), .inl (dA 0, 7, .inl (fun _ => 0))), ((rr 2), .inl (dA 0, 7, .inl (fun _ => 0))), ((rr 3), .inl (dA 0, 7, .inl (fun _ => 0))), ((rr 4), .inl (dA 0, 7, .inl (fun _ => 0))), ((rr 5), .inl (dA 0, 7, .inl (fun _ => 0))), ((rr 6), .inl (dA 0, 7, .inl (fun _ => 0))), ((rr 7), .inl (dA 0, 7, .inl (fun _ => 0))), ((rr 8), .inl (dA 0, 7, .inl (fun _ => 0)))]) (va_A [(h0, .inr (0, [.null, .int 0, .int 0, .int 0, .int 0, .int 0, .int 0]))] sz)) 10 72 (va_A [(h0, .inr (0, [.null, .int 0, .int 0, .int 0, .int 0, .int 0, .int 0]))] sz) := by
  refine Met.ofW (cc := cX0_init) (maxL := 1) (ret := none) (by decide) rfl ?_
  intro p e s m args below meth c s₁ B hml hv
  obtain ⟨rfl, hsz, hP, hK, hD0, hNI⟩ := hv
  have hx := B.exec
  have hb := B.bytes
  have hr := B.returns
  have hts := atoms_spec (ws := Jvm.Cond.code yX0_init cX0_init 1 none :: am_B) B.pre
  have hown : s.vm.findClass RX0 = some m.cls := findClass_of_methodNamed B.named
  have hlocks := B.notSynchronized
  have hin : meth.name = "<init>" := (name_of_methodNamed B.named B.method).1
  subst hsz
  have hD := hD0.self (sz := s.heap.size)
  generalize hAe : va_A [(h0, .inr (0, [.null, .int 0, .int 0, .int 0, .int 0, .int 0, .int 0]))] s.heap.size = A at hD ⊢
  have hA : ∀ q : Nat, s.heap.size ≤ q → A q := fun q h => by rw [← hAe]; exact Or.inr h
  have hS : va_S A s.heap s.heap [] := va_S.rf
  have hP : va_P (dC, dI) vwCl [(h0, .inr (0, [.null, .int 0, .int 0, .int 0, .int 0, .int 0, .int 0]))] s.heap := hP
  have hl := lv_entry ([.ref h0]) (n := 1) (Nat.le_of_ble_eq_true rfl)
  rw [lg_entry_eq]
  generalize (lg_sl ([.ref h0]) ++ List.replicate (1 - (lg_sl ([.ref h0])).length) Slot.unset).toArray = ls at hl ⊢
  have hl : lv_has ls 1 [(0, .ref h0)] := hl
  refine lv_aload_n hx hb dX0_init_0 rfl (lv_at hl 0 rfl) ?_
  refine W.objInit hx hb hown (hts _ (List.mem_cons_of_mem _ iw_4)) (hts _ (List.mem_cons_of_mem _ iw_1)) (hts _ (List.mem_cons_of_mem _ iw_2)) rfl (by rw [hml]; exact hl.1) rfl dX0_init_1 (Nat.le_of_ble_eq_true rfl) (Nat.le_of_ble_eq_true rfl) ?_
  refine W.eq (g2 := F0 m 4 ls []) rfl ?_
  refine lv_aload_n hx hb dX0_init_4 rfl (lv_at hl 0 rfl) ?_
  refine lv_bipush (v := 9) hx hb dX0_init_5 (by decide) ?_
  refine lv_bipush (v := 7) hx hb dX0_init_7 (by decide) ?_
  refine va_mna (n := 9) (k := 7) (X := [(h0, .inr (0, [.null, .int 0, .int 0, .int 0, .int 0, .int 0, .int 0]))]) (L := []) (f := fun _ => .inl (dA 0, 7, .inl (fun _ => 0))) (z := (7, .inl (fun _ => 0))) (ty := .int) (cy := dA 0) (N' := 9) (K' := 7) hx hb hown (by rw [am_eII]; exact (hts _ (List.mem_cons_of_mem _ iw_5))) (am_AOu hNI.1.1) (hts _ (List.mem_cons_of_mem _ iw_6)) (am_cy hK) hK hP hD hS hA (by decide) (by decide) rfl rfl (by decide) (by decide) (by decide) rfl rfl ?_ ?_ am_inn dX0_init_9 (fun q9 r9 cA H _ _ hK2 hP hD hS => ?_)
  · exact Nat.le_of_ble_eq_true rfl
  · exact Nat.le_of_ble_eq_true rfl
  obtain rfl := am_uni 3 (dA 3) hK2 rfl
  clear hK2
  rw [am_rows9] at hP hD
  have hP : va_P (dC, dI) vwCl [(h0, .inr (0, [.null, .int 0, .int 0, .int 0, .int 0, .int 0, .int 0])), (q9, .inl (dA 3, 9, .inr (.inr (.inr (.inr (fun i => if i < 9 then some (r9 i) else none)))))), ((r9 0), .inl (dA 0, 7, .inl (fun _ => 0))), ((r9 1), .inl (dA 0, 7, .inl (fun _ => 0))), ((r9 2), .inl (dA 0, 7, .inl (fun _ => 0))), ((r9 3), .inl (dA 0, 7, .inl (fun _ => 0))), ((r9 4), .inl (dA 0, 7, .inl (fun _ => 0))), ((r9 5), .inl (dA 0, 7, .inl (fun _ => 0))), ((r9 6), .inl (dA 0, 7, .inl (fun _ => 0))), ((r9 7), .inl (dA 0, 7, .inl (fun _ => 0))), ((r9 8), .inl (dA 0, 7, .inl (fun _ => 0)))] H := hP
  have hD : va_D A [(h0, .inr (0, [.null, .int 0, .int 0, .int 0, .int 0, .int 0, .int 0])), (q9, .inl (dA 3, 9, .inr (.inr (.inr (.inr (fun i => if i < 9 then some (r9 i) else none)))))), ((r9 0), .inl (dA 0, 7, .inl (fun _ => 0))), ((r9 1), .inl (dA 0, 7, .inl (fun _ => 0))), ((r9 2), .inl (dA 0, 7, .inl (fun _ => 0))), ((r9 3), .inl (dA 0, 7, .inl (fun _ => 0))), ((r9 4), .inl (dA 0, 7, .inl (fun _ => 0))), ((r9 5), .inl (dA 0, 7, .inl (fun _ => 0))), ((r9 6), .inl (dA 0, 7, .inl (fun _ => 0))), ((r9 7), .inl (dA 0, 7, .inl (fun _ => 0))), ((r9 8), .inl (dA 0, 7, .inl (fun _ => 0)))] := hD
  refine W.widen (k := 10) (n := 72) (by omega) (by omega) ?_
  refine va_putF (D := (dC, dI)) (ci := 0) (v := .ref q9) (ty := tyX0 0) (C := RX0) (T := TX0) (N := 7) hx hb hts (fun w hw => List.mem_cons_of_mem _ (lyX0 w hw)) tyX0 tyX0_ok nmX0 hown hK hP hD hS 0 rfl rfl 0 (by decide) (hts _ (List.mem_cons_of_mem _ wd_111)) (fun _ h9 => h9) rfl hin rfl (tyX0_ok 0 (by decide)) rfl rfl (Nat.le_of_ble_eq_true rfl) dX0_init_13 (fun H locs hP hD hS => ?_)
  have hP : va_P (dC, dI) vwCl [(h0, .inr (0, [.ref q9, .int 0, .int 0, .int 0, .int 0, .int 0, .int 0])), (q9, .inl (dA 3, 9, .inr (.inr (.inr (.inr (fun i => if i < 9 then some (r9 i) else none)))))), ((r9 0), .inl (dA 0, 7, .inl (fun _ => 0))), ((r9 1), .inl (dA 0, 7, .inl (fun _ => 0))), ((r9 2), .inl (dA 0, 7, .inl (fun _ => 0))), ((r9 3), .inl (dA 0, 7, .inl (fun _ => 0))), ((r9 4), .inl (dA 0, 7, .inl (fun _ => 0))), ((r9 5), .inl (dA 0, 7, .inl (fun _ => 0))), ((r9 6), .inl (dA 0, 7, .inl (fun _ => 0))), ((r9 7), .inl (dA 0, 7, .inl (fun _ => 0))), ((r9 8), .inl (dA 0, 7, .inl (fun _ => 0)))] H := hP
  have hD : va_D A [(h0, .inr (0, [.ref q9, .int 0, .int 0, .int 0, .int 0, .int 0, .int 0])), (q9, .inl (dA 3, 9, .inr (.inr (.inr (.inr (fun i => if i < 9 then some (r9 i) else none)))))), ((r9 0), .inl (dA 0, 7, .inl (fun _ => 0))), ((r9 1), .inl (dA 0, 7, .inl (fun _ => 0))), ((r9 2), .inl (dA 0, 7, .inl (fun _ => 0))), ((r9 3), .inl (dA 0, 7, .inl (fun _ => 0))), ((r9 4), .inl (dA 0, 7, .inl (fun _ => 0))), ((r9 5), .inl (dA 0, 7, .inl (fun _ => 0))), ((r9 6), .inl (dA 0, 7, .inl (fun _ => 0))), ((r9 7), .inl (dA 0, 7, .inl (fun _ => 0))), ((r9 8), .inl (dA 0, 7, .inl (fun _ => 0)))] := hD
  refine lv_aload_n hx hb dX0_init_16 rfl (lv_at hl 0 rfl) ?_
  refine lv_iconst (v := 0) hx hb dX0_init_17 (by decide) ?_
  refine va_put (D := (dC, dI)) (ci := 0) (v := .int 0) (ty := tyX0 1) (C := RX0) (T := TX0) (N := 7) hx hb hts (fun w hw => List.mem_cons_of_mem _ (lyX0 w hw)) tyX0 tyX0_ok nmX0 hown hK hP hD hS 0 rfl rfl 1 (by decide) (hts _ (List.mem_cons_of_mem _ wd_110)) (fun _ h9 => h9) rfl (tyX0_ok 1 (by decide)) rfl rfl (Nat.le_of_ble_eq_true rfl) dX0_init_18 (fun H locs hP hD hS => ?_)
  have hP : va_P (dC, dI) vwCl [(h0, .inr (0, [.ref q9, .int 0, .int 0, .int 0, .int 0, .int 0, .int 0])), (q9, .inl (dA 3, 9, .inr (.inr (.inr (.inr (fun i => if i < 9 then some (r9 i) else none)))))), ((r9 0), .inl (dA 0, 7, .inl (fun _ => 0))), ((r9 1), .inl (dA 0, 7, .inl (fun _ => 0))), ((r9 2), .inl (dA 0, 7, .inl (fun _ => 0))), ((r9 3), .inl (dA 0, 7, .inl (fun _ => 0))), ((r9 4), .inl (dA 0, 7, .inl (fun _ => 0))), ((r9 5), .inl (dA 0, 7, .inl (fun _ => 0))), ((r9 6), .inl (dA 0, 7, .inl (fun _ => 0))), ((r9 7), .inl (dA 0, 7, .inl (fun _ => 0))), ((r9 8), .inl (dA 0, 7, .inl (fun _ => 0)))] H := hP
  have hD : va_D A [(h0, .inr (0, [.ref q9, .int 0, .int 0, .int 0, .int 0, .int 0, .int 0])), (q9, .inl (dA 3, 9, .inr (.inr (.inr (.inr (fun i => if i < 9 then some (r9 i) else none)))))), ((r9 0), .inl (dA 0, 7, .inl (fun _ => 0))), ((r9 1), .inl (dA 0, 7, .inl (fun _ => 0))), ((r9 2), .inl (dA 0, 7, .inl (fun _ => 0))), ((r9 3), .inl (dA 0, 7, .inl (fun _ => 0))), ((r9 4), .inl (dA 0, 7, .inl (fun _ => 0))), ((r9 5), .inl (dA 0, 7, .inl (fun _ => 0))), ((r9 6), .inl (dA 0, 7, .inl (fun _ => 0))), ((r9 7), .inl (dA 0, 7, .inl (fun _ => 0))), ((r9 8), .inl (dA 0, 7, .inl (fun _ => 0)))] := hD
  refine lv_aload_n hx hb dX0_init_21 rfl (lv_at hl 0 rfl) ?_
  refine lv_iconst (v := 3) hx hb dX0_init_22 (by decide) ?_
  refine va_put (D := (dC, dI)) (ci := 0) (v := .int 3) (ty := tyX0 2) (C := RX0) (T := TX0) (N := 7) hx hb hts (fun w hw => List.mem_cons_of_mem _ (lyX0 w hw)) tyX0 tyX0_ok nmX0 hown hK hP hD hS 0 rfl rfl 2 (by decide) (hts _ (List.mem_cons_of_mem _ wd_109)) (fun _ h9 => h9) rfl (tyX0_ok 2 (by decide)) rfl rfl (Nat.le_of_ble_eq_true rfl) dX0_init_23 (fun H locs hP hD hS => ?_)
  have hP : va_P (dC, dI) vwCl [(h0, .inr (0, [.ref q9, .int 0, .int 3, .int 0, .int 0, .int 0, .int 0])), (q9, .inl (dA 3, 9, .inr (.inr (.inr (.inr (fun i => if i < 9 then some (r9 i) else none)))))), ((r9 0), .inl (dA 0, 7, .inl (fun _ => 0))), ((r9 1), .inl (dA 0, 7, .inl (fun _ => 0))), ((r9 2), .inl (dA 0, 7, .inl (fun _ => 0))), ((r9 3), .inl (dA 0, 7, .inl (fun _ => 0))), ((r9 4), .inl (dA 0, 7, .inl (fun _ => 0))), ((r9 5), .inl (dA 0, 7, .inl (fun _ => 0))), ((r9 6), .inl (dA 0, 7, .inl (fun _ => 0))), ((r9 7), .inl (dA 0, 7, .inl (fun _ => 0))), ((r9 8), .inl (dA 0, 7, .inl (fun _ => 0)))] H := hP
  have hD : va_D A [(h0, .inr (0, [.ref q9, .int 0, .int 3, .int 0, .int 0, .int 0, .int 0])), (q9, .inl (dA 3, 9, .inr (.inr (.inr (.inr (fun i => if i < 9 then some (r9 i) else none)))))), ((r9 0), .inl (dA 0, 7, .inl (fun _ => 0))), ((r9 1), .inl (dA 0, 7, .inl (fun _ => 0))), ((r9 2), .inl (dA 0, 7, .inl (fun _ => 0))), ((r9 3), .inl (dA 0, 7, .inl (fun _ => 0))), ((r9 4), .inl (dA 0, 7, .inl (fun _ => 0))), ((r9 5), .inl (dA 0, 7, .inl (fun _ => 0))), ((r9 6), .inl (dA 0, 7, .inl (fun _ => 0))), ((r9 7), .inl (dA 0, 7, .inl (fun _ => 0))), ((r9 8), .inl (dA 0, 7, .inl (fun _ => 0)))] := hD
  refine lv_aload_n hx hb dX0_init_26 rfl (lv_at hl 0 rfl) ?_
  refine lv_iconst (v := 1) hx hb dX0_init_27 (by decide) ?_
  refine va_put (D := (dC, dI)) (ci := 0) (v := .int 1) (ty := tyX0 3) (C := RX0) (T := TX0) (N := 7) hx hb hts (fun w hw => List.mem_cons_of_mem _ (lyX0 w hw)) tyX0 tyX0_ok nmX0 hown hK hP hD hS 0 rfl rfl 3 (by decide) (hts _ (List.mem_cons_of_mem _ wd_108)) (fun _ h9 => h9) rfl (tyX0_ok 3 (by decide)) rfl rfl (Nat.le_of_ble_eq_true rfl) dX0_init_28 (fun H locs hP hD hS => ?_)
  have hP : va_P (dC, dI) vwCl [(h0, .inr (0, [.ref q9, .int 0, .int 3, .int 1, .int 0, .int 0, .int 0])), (q9, .inl (dA 3, 9, .inr (.inr (.inr (.inr (fun i => if i < 9 then some (r9 i) else none)))))), ((r9 0), .inl (dA 0, 7, .inl (fun _ => 0))), ((r9 1), .inl (dA 0, 7, .inl (fun _ => 0))), ((r9 2), .inl (dA 0, 7, .inl (fun _ => 0))), ((r9 3), .inl (dA 0, 7, .inl (fun _ => 0))), ((r9 4), .inl (dA 0, 7, .inl (fun _ => 0))), ((r9 5), .inl (dA 0, 7, .inl (fun _ => 0))), ((r9 6), .inl (dA 0, 7, .inl (fun _ => 0))), ((r9 7), .inl (dA 0, 7, .inl (fun _ => 0))), ((r9 8), .inl (dA 0, 7, .inl (fun _ => 0)))] H := hP
  have hD : va_D A [(h0, .inr (0, [.ref q9, .int 0, .int 3, .int 1, .int 0, .int 0, .int 0])), (q9, .inl (dA 3, 9, .inr (.inr (.inr (.inr (fun i => if i < 9 then some (r9 i) else none)))))), ((r9 0), .inl (dA 0, 7, .inl (fun _ => 0))), ((r9 1), .inl (dA 0, 7, .inl (fun _ => 0))), ((r9 2), .inl (dA 0, 7, .inl (fun _ => 0))), ((r9 3), .inl (dA 0, 7, .inl (fun _ => 0))), ((r9 4), .inl (dA 0, 7, .inl (fun _ => 0))), ((r9 5), .inl (dA 0, 7, .inl (fun _ => 0))), ((r9 6), .inl (dA 0, 7, .inl (fun _ => 0))), ((r9 7), .inl (dA 0, 7, .inl (fun _ => 0))), ((r9 8), .inl (dA 0, 7, .inl (fun _ => 0)))] := hD
  refine lv_aload_n hx hb dX0_init_31 rfl (lv_at hl 0 rfl) ?_
  refine lv_iconst (v := 1) hx hb dX0_init_32 (by decide) ?_
  refine va_put (D := (dC, dI)) (ci := 0) (v := .int 1) (ty := tyX0 4) (C := RX0) (T := TX0) (N := 7) hx hb hts (fun w hw => List.mem_cons_of_mem _ (lyX0 w hw)) tyX0 tyX0_ok nmX0 hown hK hP hD hS 0 rfl rfl 4 (by decide) (hts _ (List.mem_cons_of_mem _ wd_107)) (fun _ h9 => h9) rfl (tyX0_ok 4 (by decide)) rfl rfl (Nat.le_of_ble_eq_true rfl) dX0_init_33 (fun H locs hP hD hS => ?_)
  have hP : va_P (dC, dI) vwCl [(h0, .inr (0, [.ref q9, .int 0, .int 3, .int 1, .int 1, .int 0, .int 0])), (q9, .inl (dA 3, 9, .inr (.inr (.inr (.inr (fun i => if i < 9 then some (r9 i) else none)))))), ((r9 0), .inl (dA 0, 7, .inl (fun _ => 0))), ((r9 1), .inl (dA 0, 7, .inl (fun _ => 0))), ((r9 2), .inl (dA 0, 7, .inl (fun _ => 0))), ((r9 3), .inl (dA 0, 7, .inl (fun _ => 0))), ((r9 4), .inl (dA 0, 7, .inl (fun _ => 0))), ((r9 5), .inl (dA 0, 7, .inl (fun _ => 0))), ((r9 6), .inl (dA 0, 7, .inl (fun _ => 0))), ((r9 7), .inl (dA 0, 7, .inl (fun _ => 0))), ((r9 8), .inl (dA 0, 7, .inl (fun _ => 0)))] H := hP
  have hD : va_D A [(h0, .inr (0, [.ref q9, .int 0, .int 3, .int 1, .int 1, .int 0, .int 0])), (q9, .inl (dA 3, 9, .inr (.inr (.inr (.inr (fun i => if i < 9 then some (r9 i) else none)))))), ((r9 0), .inl (dA 0, 7, .inl (fun _ => 0))), ((r9 1), .inl (dA 0, 7, .inl (fun _ => 0))), ((r9 2), .inl (dA 0, 7, .inl (fun _ => 0))), ((r9 3), .inl (dA 0, 7, .inl (fun _ => 0))), ((r9 4), .inl (dA 0, 7, .inl (fun _ => 0))), ((r9 5), .inl (dA 0, 7, .inl (fun _ => 0))), ((r9 6), .inl (dA 0, 7, .inl (fun _ => 0))), ((r9 7), .inl (dA 0, 7, .inl (fun _ => 0))), ((r9 8), .inl (dA 0, 7, .inl (fun _ => 0)))] := hD
  refine lv_aload_n hx hb dX0_init_36 rfl (lv_at hl 0 rfl) ?_
  refine lv_iconst (v := 0) hx hb dX0_init_37 (by decide) ?_
  refine va_put (D := (dC, dI)) (ci := 0) (v := .int 0) (ty := tyX0 5) (C := RX0) (T := TX0) (N := 7) hx hb hts (fun w hw => List.mem_cons_of_mem _ (lyX0 w hw)) tyX0 tyX0_ok nmX0 hown hK hP hD hS 0 rfl rfl 5 (by decide) (hts _ (List.mem_cons_of_mem _ wd_106)) (fun _ h9 => h9) rfl (tyX0_ok 5 (by decide)) rfl rfl (Nat.le_of_ble_eq_true rfl) dX0_init_38 (fun H locs hP hD hS => ?_)
  have hP : va_P (dC, dI) vwCl [(h0, .inr (0, [.ref q9, .int 0, .int 3, .int 1, .int 1, .int 0, .int 0])), (q9, .inl (dA 3, 9, .inr (.inr (.inr (.inr (fun i => if i < 9 then some (r9 i) else none)))))), ((r9 0), .inl (dA 0, 7, .inl (fun _ => 0))), ((r9 1), .inl (dA 0, 7, .inl (fun _ => 0))), ((r9 2), .inl (dA 0, 7, .inl (fun _ => 0))), ((r9 3), .inl (dA 0, 7, .inl (fun _ => 0))), ((r9 4), .inl (dA 0, 7, .inl (fun _ => 0))), ((r9 5), .inl (dA 0, 7, .inl (fun _ => 0))), ((r9 6), .inl (dA 0, 7, .inl (fun _ => 0))), ((r9 7), .inl (dA 0, 7, .inl (fun _ => 0))), ((r9 8), .inl (dA 0, 7, .inl (fun _ => 0)))] H := hP
  have hD : va_D A [(h0, .inr (0, [.ref q9, .int 0, .int 3, .int 1, .int 1, .int 0, .int 0])), (q9, .inl (dA 3, 9, .inr (.inr (.inr (.inr (fun i => if i < 9 then some (r9 i) else none)))))), ((r9 0), .inl (dA 0, 7, .inl (fun _ => 0))), ((r9 1), .inl (dA 0, 7, .inl (fun _ => 0))), ((r9 2), .inl (dA 0, 7, .inl (fun _ => 0))), ((r9 3), .inl (dA 0, 7, .inl (fun _ => 0))), ((r9 4), .inl (dA 0, 7, .inl (fun _ => 0))), ((r9 5), .inl (dA 0, 7, .inl (fun _ => 0))), ((r9 6), .inl (dA 0, 7, .inl (fun _ => 0))), ((r9 7), .inl (dA 0, 7, .inl (fun _ => 0))), ((r9 8), .inl (dA 0, 7, .inl (fun _ => 0)))] := hD
  refine lv_aload_n hx hb dX0_init_41 rfl (lv_at hl 0 rfl) ?_
  refine lv_iconst (v := 0) hx hb dX0_init_42 (by decide) ?_
  refine va_put (D := (dC, dI)) (ci := 0) (v := .int 0) (ty := tyX0 6) (C := RX0) (T := TX0) (N := 7) hx hb hts (fun w hw => List.mem_cons_of_mem _ (lyX0 w hw)) tyX0 tyX0_ok nmX0 hown hK hP hD hS 0 rfl rfl 6 (by decide) (hts _ (List.mem_cons_of_mem _ wd_105)) (fun _ h9 => h9) rfl (tyX0_ok 6 (by decide)) rfl rfl (Nat.le_of_ble_eq_true rfl) dX0_init_43 (fun H locs hP hD hS => ?_)
  have hP : va_P (dC, dI) vwCl [(h0, .inr (0, [.ref q9, .int 0, .int 3, .int 1, .int 1, .int 0, .int 0])), (q9, .inl (dA 3, 9, .inr (.inr (.inr (.inr (fun i => if i < 9 then some (r9 i) else none)))))), ((r9 0), .inl (dA 0, 7, .inl (fun _ => 0))), ((r9 1), .inl (dA 0, 7, .inl (fun _ => 0))), ((r9 2), .inl (dA 0, 7, .inl (fun _ => 0))), ((r9 3), .inl (dA 0, 7, .inl (fun _ => 0))), ((r9 4), .inl (dA 0, 7, .inl (fun _ => 0))), ((r9 5), .inl (dA 0, 7, .inl (fun _ => 0))), ((r9 6), .inl (dA 0, 7, .inl (fun _ => 0))), ((r9 7), .inl (dA 0, 7, .inl (fun _ => 0))), ((r9 8), .inl (dA 0, 7, .inl (fun _ => 0)))] H := hP
  have hD : va_D A [(h0, .inr (0, [.ref q9, .int 0, .int 3, .int 1, .int 1, .int 0, .int 0])), (q9, .inl (dA 3, 9, .inr (.inr (.inr (.inr (fun i => if i < 9 then some (r9 i) else none)))))), ((r9 0), .inl (dA 0, 7, .inl (fun _ => 0))), ((r9 1), .inl (dA 0, 7, .inl (fun _ => 0))), ((r9 2), .inl (dA 0, 7, .inl (fun _ => 0))), ((r9 3), .inl (dA 0, 7, .inl (fun _ => 0))), ((r9 4), .inl (dA 0, 7, .inl (fun _ => 0))), ((r9 5), .inl (dA 0, 7, .inl (fun _ => 0))), ((r9 6), .inl (dA 0, 7, .inl (fun _ => 0))), ((r9 7), .inl (dA 0, 7, .inl (fun _ => 0))), ((r9 8), .inl (dA 0, 7, .inl (fun _ => 0)))] := hD
  exact W.vret hx hb hr (fun t ht hW => ⟨⟨(), rfl, trivial, q9, r9, by rw [ht]; exact hP, hD⟩, hS.F ht⟩) hS.2.2 dX0_init_46
set_option maxHeartbeats 8000000 in
set_option maxRecDepth 100000 in
theorem ci_X1 (l : Launch) (dC : Nat → ClassId) (dI : Nat → Nat → Nat) (dA : Nat → ClassId) (h0 sz : Nat) : Met l yX1_init (Jvm.Cond.code yX1_init cX1_init 1 none :: am_B) { frames := 2, cells := 13, slots := 241, locals := 32 } (va_Pc [.ref h0] (fun U => U.heap.size = sz ∧ va_P (dC, dI) vwCl [(h0, .inr (1, [.null, .null, .int 0, .int 0, .int 0, .int 0, .int 0, .int 0, .int 0, .int 0, .int 0]))] U.heap ∧ va_K (dC, dI) vwCl (am_ty dA) U ∧ va_D (fun _ => True) [(h0, .inr (1, [.null, .null, .int 0, .int 0, .int 0, .int 0, .int 0, .int 0, .int 0, .int 0, .int 0]))] ∧ am_NI U)) (va_Qv (fun _ : Unit => True) (fun _ t => ∃ (qt : Nat) (qb : Nat) (qc : Nat) (qo : Nat) (rr : Nat → Nat), va_P (dC, dI) vwCl [(h0, .inr (1, [.ref qt, .ref qc, .int 0, .int 0, .int 0, .int 0, .int 0, .int 0, .int 0, .int 0, .int 0])), (qt, .inr (5, [.ref qb, .int 0])), (qb, .inl (dA 1, 160, .inl (fun _ => 0))), (qc, .inr (0, [.ref qo, .int 0, .int 3, .int 1, .int 1, .int 0, .int 0])), (qo, .inl (dA 3, 9, .inr (.inr (.inr (.inr (fun i => if i < 9 then some (rr i) else none)))))), ((rr 0), .inl (dA 0, 7, .inl (fun _ => 0))), ((rr 1), .inl (dA 0, 7, .inl (fun _ => 0))), ((rr 2), .inl (dA 0, 7, .inl (fun _ => 0))), ((rr 3), .inl (dA 0, 7, .inl (fun _ => 0))), ((rr 4), .inl (dA 0, 7, .inl (fun _ => 0))), ((rr 5), .inl (dA 0, 7, .inl (fun _ => 0))), ((rr 6), .inl (dA 0, 7, .inl (fun _ => 0))), ((rr 7), .inl (dA 0, 7, .inl (fun _ => 0))), ((rr 8), .inl (dA 0, 7, .inl (fun _ => 0)))] t.heap ∧ va_D (va_A [(h0, .inr (1, [.null, .null, .int 0, .int 0, .int 0, .int 0, .int 0, .int 0, .int 0, .int 0, .int 0]))] sz) [(h0, .inr (1, [.ref qt, .ref qc, .int 0, .int 0, .int 0, .int 0, .int 0, .int 0, .int 0, .int 0, .int 0])), (qt, .inr (5, [.ref qb, .int 0])), (qb, .inl (dA 1, 160, .inl (fun _ => 0))), (qc, .inr (0, [.ref qo, .int 0, .int 3, .int 1, .int 1, .int 0, .int 0])), (qo, .inl (dA 3, 9, .inr (.inr (.inr (.inr (fun i => if i < 9 then some (rr i) else none)))))), ((rr 0), .inl (dA 0, 7, .inl (fun _ => 0))), ((rr 1), .inl (dA 0, 7, .inl (fun _ => 0))), ((rr 2), .inl (dA 0, 7, .inl (fun _ => 0))), ((rr 3), .inl (dA 0, 7, .inl (fun _ => 0))), ((rr 4), .inl (dA 0, 7, .inl (fun _ => 0))), ((rr 5), .inl (dA 0, 7, .inl (fun _ => 0))), ((rr 6), .inl (dA 0, 7, .inl (fun _ => 0))), ((rr 7), .inl (dA 0, 7, .inl (fun _ => 0))), ((rr 8), .inl (dA 0, 7, .inl (fun _ => 0)))]) (va_A [(h0, .inr (1, [.null, .null, .int 0, .int 0, .int 0, .int 0, .int 0, .int 0, .int 0, .int 0, .int 0]))] sz)) 13 241 (va_A [(h0, .inr (1, [.null, .null, .int 0, .int 0, .int 0, .int 0, .int 0, .int 0, .int 0, .int 0, .int 0]))] sz) := by
  refine Met.ofW (cc := cX1_init) (maxL := 1) (ret := none) (by decide) rfl ?_
  intro p e s m args below meth c s₁ B hml hv
  obtain ⟨rfl, hsz, hP, hK, hD0, hNI⟩ := hv
  have hx := B.exec
  have hb := B.bytes
  have hr := B.returns
  have hts := atoms_spec (ws := Jvm.Cond.code yX1_init cX1_init 1 none :: am_B) B.pre
  have hown : s.vm.findClass RX1 = some m.cls := findClass_of_methodNamed B.named
  have hlocks := B.notSynchronized
  have hin : meth.name = "<init>" := (name_of_methodNamed B.named B.method).1
  subst hsz
  have hD := hD0.self (sz := s.heap.size)
  generalize hAe : va_A [(h0, .inr (1, [.null, .null, .int 0, .int 0, .int 0, .int 0, .int 0, .int 0, .int 0, .int 0, .int 0]))] s.heap.size = A at hD ⊢
  have hA : ∀ q : Nat, s.heap.size ≤ q → A q := fun q h => by rw [← hAe]; exact Or.inr h
  have hS : va_S A s.heap s.heap [] := va_S.rf
  have hP : va_P (dC, dI) vwCl [(h0, .inr (1, [.null, .null, .int 0, .int 0, .int 0, .int 0, .int 0, .int 0, .int 0, .int 0, .int 0]))] s.heap := hP
  have hl := lv_entry ([.ref h0]) (n := 1) (Nat.le_of_ble_eq_true rfl)
  rw [lg_entry_eq]
  generalize (lg_sl ([.ref h0]) ++ List.replicate (1 - (lg_sl ([.ref h0])).length) Slot.unset).toArray = ls at hl ⊢
  have hl : lv_has ls 1 [(0, .ref h0)] := hl
  refine lv_aload_n hx hb dX1_init_0 rfl (lv_at hl 0 rfl) ?_
  refine W.objInit hx hb hown (hts _ (List.mem_cons_of_mem _ iw_7)) (hts _ (List.mem_cons_of_mem _ iw_1)) (hts _ (List.mem_cons_of_mem _ iw_2)) rfl (by rw [hml]; exact hl.1) rfl dX1_init_1 (Nat.le_of_ble_eq_true rfl) (Nat.le_of_ble_eq_true rfl) ?_
  refine W.eq (g2 := F0 m 4 ls []) rfl ?_
  refine lv_aload_n hx hb dX1_init_4 rfl (lv_at hl 0 rfl) ?_
  refine va_new (ci := 5) (fs := [.null, .int 0]) (C := RX5) (T := TX5) (N := 2) hx hb hts (fun w hw => List.mem_cons_of_mem _ (lyX5 w hw)) tyX5 tyX5_ok hown (hts _ (List.mem_cons_of_mem _ iw_8)) (hts _ (List.mem_cons_of_mem _ iw_9)) (hts _ (List.mem_cons_of_mem _ wd_189)) hK hP hD hS hA rfl (fun j hj => by rcases (show j = 0 ∨ j = 1 by omega) with rfl | rfl <;> rfl) (Nat.le_of_ble_eq_true rfl) (Nat.le_of_ble_eq_true rfl) dX1_init_5 (fun q5 H hP hD hS => ?_)
  have hP : va_P (dC, dI) vwCl [(h0, .inr (1, [.null, .null, .int 0, .int 0, .int 0, .int 0, .int 0, .int 0, .int 0, .int 0, .int 0])), (q5, .inr (5, [.null, .int 0]))] H := hP
  have hD : va_D A [(h0, .inr (1, [.null, .null, .int 0, .int 0, .int 0, .int 0, .int 0, .int 0, .int 0, .int 0, .int 0])), (q5, .inr (5, [.null, .int 0]))] := hD
  refine W.widen (k := 1) (n := 2) (by omega) (by omega) ?_
  refine lv_dup hx hb dX1_init_8 rfl ?_
  have hPc := hP.sub (ws' := [(q5, .inr (5, [.null, .int 0]))]) [1] rfl
  have hDc := hD.sub (ws' := [(q5, .inr (5, [.null, .int 0]))]) [1] (by decide) rfl
  have hFc := va_free (wc := [(q5, .inr (5, [.null, .int 0]))]) hD hS hA [1] rfl
  refine va_callv (va_runIN (host := "UnlikeFerry") (b := q5) (As := []) (rest := [.ref q5, .ref h0]) ⟨hx, hb, hml, hown, hts⟩ (ci_X5 l dC dI dA q5 H.size ) ⟨va_cnB (host := "UnlikeFerry") 0 hts (am_gB iw_11) rfl rfl rfl hNI.2.2.2.2.2.2.1 (hts _ (List.mem_cons_of_mem _ wd_189)) (by decide +kernel) ⟨Nat.le_of_ble_eq_true rfl, Nat.le_of_ble_eq_true rfl⟩, rfl, (hts _ (List.mem_cons_of_mem _ iw_10))⟩ ⟨am_blind, fun U hU hW => ⟨rfl, by rw [hU], by rw [hU]; exact hPc, va_K.moved hW.alike hK, hDc.weaken (fun _ _ _ _ => trivial), hNI.to hW⟩⟩ rfl rfl hl.1 rfl (lv_room (Nat.le_of_ble_eq_true rfl)) dX1_init_9 ⟨Nat.le_of_ble_eq_true rfl, Nat.le_of_ble_eq_true rfl⟩) hS (fun q _ h => hFc q h) hFc (fun u t H1 locs ht hvm hw hB hz1 hk1 hS => ?_)
  obtain ⟨qb_9, hP1, hD1⟩ := hB
  rw [ht] at hP1
  obtain ⟨hP, hD⟩ := va_join (wr := [(h0, .inr (1, [.null, .null, .int 0, .int 0, .int 0, .int 0, .int 0, .int 0, .int 0, .int 0, .int 0]))]) (w1 := [(q5, .inr (5, [.ref qb_9, .int 0])), (qb_9, .inl (dA 1, 160, .inl (fun _ => 0)))]) hP hD [1] [0] rfl rfl (by decide) (by decide) hk1 hFc hP1 hD1
  clear hPc hDc hFc hP1 hD1 hk1
  generalize H1 = H at hP hS ⊢
  have hP : va_P (dC, dI) vwCl [(h0, .inr (1, [.null, .null, .int 0, .int 0, .int 0, .int 0, .int 0, .int 0, .int 0, .int 0, .int 0])), (q5, .inr (5, [.ref qb_9, .int 0])), (qb_9, .inl (dA 1, 160, .inl (fun _ => 0)))] H := hP
  have hD : va_D A [(h0, .inr (1, [.null, .null, .int 0, .int 0, .int 0, .int 0, .int 0, .int 0, .int 0, .int 0, .int 0])), (q5, .inr (5, [.ref qb_9, .int 0])), (qb_9, .inl (dA 1, 160, .inl (fun _ => 0)))] := hD
  refine W.widen (k := 2) (n := 162) (by omega) (by omega) ?_
  refine va_putF (D := (dC, dI)) (ci := 1) (v := .ref q5) (ty := tyX1 0) (C := RX1) (T := TX1) (N := 11) hx hb hts (fun w hw => List.mem_cons_of_mem _ (lyX1 w hw)) tyX1 tyX1_ok nmX1 hown hK hP hD hS 0 rfl rfl 0 (by decide) (hts _ (List.mem_cons_of_mem _ wd_179)) (fun _ h9 => h9) rfl hin rfl (tyX1_ok 0 (by decide)) rfl rfl (Nat.le_of_ble_eq_true rfl) dX1_init_12 (fun H locs hP hD hS => ?_)
  have hP : va_P (dC, dI) vwCl [(h0, .inr (1, [.ref q5, .null, .int 0, .int 0, .int 0, .int 0, .int 0, .int 0, .int 0, .int 0, .int 0])), (q5, .inr (5, [.ref qb_9, .int 0])), (qb_9, .inl (dA 1, 160, .inl (fun _ => 0)))] H := hP
  have hD : va_D A [(h0, .inr (1, [.ref q5, .null, .int 0, .int 0, .int 0, .int 0, .int 0, .int 0, .int 0, .int 0, .int 0])), (q5, .inr (5, [.ref qb_9, .int 0])), (qb_9, .inl (dA 1, 160, .inl (fun _ => 0)))] := hD
  refine lv_aload_n hx hb dX1_init_15 rfl (lv_at hl 0 rfl) ?_
  refine va_new (ci := 0) (fs := [.null, .int 0, .int 0, .int 0, .int 0, .int 0, .int 0]) (C := RX0) (T := TX0) (N := 7) hx hb hts (fun w hw => List.mem_cons_of_mem _ (lyX0 w hw)) tyX0 tyX0_ok hown (hts _ (List.mem_cons_of_mem _ iw_12)) (hts _ (List.mem_cons_of_mem _ iw_13)) (hts _ (List.mem_cons_of_mem _ wd_126)) hK hP hD hS hA rfl (fun j hj => by rcases (show j = 0 ∨ j = 1 ∨ j = 2 ∨ j = 3 ∨ j = 4 ∨ j = 5 ∨ j = 6 by omega) with rfl | rfl | rfl | rfl | rfl | rfl | rfl <;> rfl) (Nat.le_of_ble_eq_true rfl) (Nat.le_of_ble_eq_true rfl) dX1_init_16 (fun q16 H hP hD hS => ?_)
  have hP : va_P (dC, dI) vwCl [(h0, .inr (1, [.ref q5, .null, .int 0, .int 0, .int 0, .int 0, .int 0, .int 0, .int 0, .int 0, .int 0])), (q5, .inr (5, [.ref qb_9, .int 0])), (qb_9, .inl (dA 1, 160, .inl (fun _ => 0))), (q16, .inr (0, [.null, .int 0, .int 0, .int 0, .int 0, .int 0, .int 0]))] H := hP
  have hD : va_D A [(h0, .inr (1, [.ref q5, .null, .int 0, .int 0, .int 0, .int 0, .int 0, .int 0, .int 0, .int 0, .int 0])), (q5, .inr (5, [.ref qb_9, .int 0])), (qb_9, .inl (dA 1, 160, .inl (fun _ => 0))), (q16, .inr (0, [.null, .int 0, .int 0, .int 0, .int 0, .int 0, .int 0]))] := hD
  refine W.widen (k := 3) (n := 169) (by omega) (by omega) ?_
  refine lv_dup hx hb dX1_init_19 rfl ?_
  have hPc := hP.sub (ws' := [(q16, .inr (0, [.null, .int 0, .int 0, .int 0, .int 0, .int 0, .int 0]))]) [3] rfl
  have hDc := hD.sub (ws' := [(q16, .inr (0, [.null, .int 0, .int 0, .int 0, .int 0, .int 0, .int 0]))]) [3] (by decide) rfl
  have hFc := va_free (wc := [(q16, .inr (0, [.null, .int 0, .int 0, .int 0, .int 0, .int 0, .int 0]))]) hD hS hA [3] rfl
  refine va_callv (va_runIN (host := "UnlikeFerry") (b := q16) (As := []) (rest := [.ref q16, .ref h0]) ⟨hx, hb, hml, hown, hts⟩ (ci_X0 l dC dI dA q16 H.size ) ⟨va_cnB (host := "UnlikeFerry") 0 hts (am_gB iw_15) rfl rfl rfl hNI.2.2.2.2.2.2.2 (hts _ (List.mem_cons_of_mem _ wd_126)) (by decide +kernel) ⟨Nat.le_of_ble_eq_true rfl, Nat.le_of_ble_eq_true rfl⟩, rfl, (hts _ (List.mem_cons_of_mem _ iw_14))⟩ ⟨am_blind, fun U hU hW => ⟨rfl, by rw [hU], by rw [hU]; exact hPc, va_K.moved hW.alike hK, hDc.weaken (fun _ _ _ _ => trivial), hNI.to hW⟩⟩ rfl rfl hl.1 rfl (lv_room (Nat.le_of_ble_eq_true rfl)) dX1_init_20 ⟨Nat.le_of_ble_eq_true rfl, Nat.le_of_ble_eq_true rfl⟩) hS (fun q _ h => hFc q h) hFc (fun u t H1 locs ht hvm hw hB hz1 hk1 hS => ?_)
  obtain ⟨qo_20, rr_20, hP1, hD1⟩ := hB
  rw [ht] at hP1
  obtain ⟨hP, hD⟩ := va_join (wr := [(h0, .inr (1, [.ref q5, .null, .int 0, .int 0, .int 0, .int 0, .int 0, .int 0, .int 0, .int 0, .int 0])), (q5, .inr (5, [.ref qb_9, .int 0])), (qb_9, .inl (dA 1, 160, .inl (fun _ => 0)))]) (w1 := [(q16, .inr (0, [.ref qo_20, .int 0, .int 3, .int 1, .int 1, .int 0, .int 0])), (qo_20, .inl (dA 3, 9, .inr (.inr (.inr (.inr (fun i => if i < 9 then some (rr_20 i) else none)))))), ((rr_20 0), .inl (dA 0, 7, .inl (fun _ => 0))), ((rr_20 1), .inl (dA 0, 7, .inl (fun _ => 0))), ((rr_20 2), .inl (dA 0, 7, .inl (fun _ => 0))), ((rr_20 3), .inl (dA 0, 7, .inl (fun _ => 0))), ((rr_20 4), .inl (dA 0, 7, .inl (fun _ => 0))), ((rr_20 5), .inl (dA 0, 7, .inl (fun _ => 0))), ((rr_20 6), .inl (dA 0, 7, .inl (fun _ => 0))), ((rr_20 7), .inl (dA 0, 7, .inl (fun _ => 0))), ((rr_20 8), .inl (dA 0, 7, .inl (fun _ => 0)))]) hP hD [3] [0, 1, 2] rfl rfl (by decide) (by decide) hk1 hFc hP1 hD1
  clear hPc hDc hFc hP1 hD1 hk1
  generalize H1 = H at hP hS ⊢
  have hP : va_P (dC, dI) vwCl [(h0, .inr (1, [.ref q5, .null, .int 0, .int 0, .int 0, .int 0, .int 0, .int 0, .int 0, .int 0, .int 0])), (q5, .inr (5, [.ref qb_9, .int 0])), (qb_9, .inl (dA 1, 160, .inl (fun _ => 0))), (q16, .inr (0, [.ref qo_20, .int 0, .int 3, .int 1, .int 1, .int 0, .int 0])), (qo_20, .inl (dA 3, 9, .inr (.inr (.inr (.inr (fun i => if i < 9 then some (rr_20 i) else none)))))), ((rr_20 0), .inl (dA 0, 7, .inl (fun _ => 0))), ((rr_20 1), .inl (dA 0, 7, .inl (fun _ => 0))), ((rr_20 2), .inl (dA 0, 7, .inl (fun _ => 0))), ((rr_20 3), .inl (dA 0, 7, .inl (fun _ => 0))), ((rr_20 4), .inl (dA 0, 7, .inl (fun _ => 0))), ((rr_20 5), .inl (dA 0, 7, .inl (fun _ => 0))), ((rr_20 6), .inl (dA 0, 7, .inl (fun _ => 0))), ((rr_20 7), .inl (dA 0, 7, .inl (fun _ => 0))), ((rr_20 8), .inl (dA 0, 7, .inl (fun _ => 0)))] H := hP
  have hD : va_D A [(h0, .inr (1, [.ref q5, .null, .int 0, .int 0, .int 0, .int 0, .int 0, .int 0, .int 0, .int 0, .int 0])), (q5, .inr (5, [.ref qb_9, .int 0])), (qb_9, .inl (dA 1, 160, .inl (fun _ => 0))), (q16, .inr (0, [.ref qo_20, .int 0, .int 3, .int 1, .int 1, .int 0, .int 0])), (qo_20, .inl (dA 3, 9, .inr (.inr (.inr (.inr (fun i => if i < 9 then some (rr_20 i) else none)))))), ((rr_20 0), .inl (dA 0, 7, .inl (fun _ => 0))), ((rr_20 1), .inl (dA 0, 7, .inl (fun _ => 0))), ((rr_20 2), .inl (dA 0, 7, .inl (fun _ => 0))), ((rr_20 3), .inl (dA 0, 7, .inl (fun _ => 0))), ((rr_20 4), .inl (dA 0, 7, .inl (fun _ => 0))), ((rr_20 5), .inl (dA 0, 7, .inl (fun _ => 0))), ((rr_20 6), .inl (dA 0, 7, .inl (fun _ => 0))), ((rr_20 7), .inl (dA 0, 7, .inl (fun _ => 0))), ((rr_20 8), .inl (dA 0, 7, .inl (fun _ => 0)))] := hD
  refine W.widen (k := 13) (n := 241) (by omega) (by omega) ?_
  refine va_putF (D := (dC, dI)) (ci := 1) (v := .ref q16) (ty := tyX1 1) (C := RX1) (T := TX1) (N := 11) hx hb hts (fun w hw => List.mem_cons_of_mem _ (lyX1 w hw)) tyX1 tyX1_ok nmX1 hown hK hP hD hS 0 rfl rfl 1 (by decide) (hts _ (List.mem_cons_of_mem _ wd_170)) (fun _ h9 => h9) rfl hin rfl (tyX1_ok 1 (by decide)) rfl rfl (Nat.le_of_ble_eq_true rfl) dX1_init_23 (fun H locs hP hD hS => ?_)
  have hP : va_P (dC, dI) vwCl [(h0, .inr (1, [.ref q5, .ref q16, .int 0, .int 0, .int 0, .int 0, .int 0, .int 0, .int 0, .int 0, .int 0])), (q5, .inr (5, [.ref qb_9, .int 0])), (qb_9, .inl (dA 1, 160, .inl (fun _ => 0))), (q16, .inr (0, [.ref qo_20, .int 0, .int 3, .int 1, .int 1, .int 0, .int 0])), (qo_20, .inl (dA 3, 9, .inr (.inr (.inr (.inr (fun i => if i < 9 then some (rr_20 i) else none)))))), ((rr_20 0), .inl (dA 0, 7, .inl (fun _ => 0))), ((rr_20 1), .inl (dA 0, 7, .inl (fun _ => 0))), ((rr_20 2), .inl (dA 0, 7, .inl (fun _ => 0))), ((rr_20 3), .inl (dA 0, 7, .inl (fun _ => 0))), ((rr_20 4), .inl (dA 0, 7, .inl (fun _ => 0))), ((rr_20 5), .inl (dA 0, 7, .inl (fun _ => 0))), ((rr_20 6), .inl (dA 0, 7, .inl (fun _ => 0))), ((rr_20 7), .inl (dA 0, 7, .inl (fun _ => 0))), ((rr_20 8), .inl (dA 0, 7, .inl (fun _ => 0)))] H := hP
  have hD : va_D A [(h0, .inr (1, [.ref q5, .ref q16, .int 0, .int 0, .int 0, .int 0, .int 0, .int 0, .int 0, .int 0, .int 0])), (q5, .inr (5, [.ref qb_9, .int 0])), (qb_9, .inl (dA 1, 160, .inl (fun _ => 0))), (q16, .inr (0, [.ref qo_20, .int 0, .int 3, .int 1, .int 1, .int 0, .int 0])), (qo_20, .inl (dA 3, 9, .inr (.inr (.inr (.inr (fun i => if i < 9 then some (rr_20 i) else none)))))), ((rr_20 0), .inl (dA 0, 7, .inl (fun _ => 0))), ((rr_20 1), .inl (dA 0, 7, .inl (fun _ => 0))), ((rr_20 2), .inl (dA 0, 7, .inl (fun _ => 0))), ((rr_20 3), .inl (dA 0, 7, .inl (fun _ => 0))), ((rr_20 4), .inl (dA 0, 7, .inl (fun _ => 0))), ((rr_20 5), .inl (dA 0, 7, .inl (fun _ => 0))), ((rr_20 6), .inl (dA 0, 7, .inl (fun _ => 0))), ((rr_20 7), .inl (dA 0, 7, .inl (fun _ => 0))), ((rr_20 8), .inl (dA 0, 7, .inl (fun _ => 0)))] := hD
  refine lv_aload_n hx hb dX1_init_26 rfl (lv_at hl 0 rfl) ?_
  refine lv_iconst (v := 0) hx hb dX1_init_27 (by decide) ?_
  refine va_put (D := (dC, dI)) (ci := 1) (v := .int 0) (ty := tyX1 2) (C := RX1) (T := TX1) (N := 11) hx hb hts (fun w hw => List.mem_cons_of_mem _ (lyX1 w hw)) tyX1 tyX1_ok nmX1 hown hK hP hD hS 0 rfl rfl 2 (by decide) (hts _ (List.mem_cons_of_mem _ wd_169)) (fun _ h9 => h9) rfl (tyX1_ok 2 (by decide)) rfl rfl (Nat.le_of_ble_eq_true rfl) dX1_init_28 (fun H locs hP hD hS => ?_)
  have hP : va_P (dC, dI) vwCl [(h0, .inr (1, [.ref q5, .ref q16, .int 0, .int 0, .int 0, .int 0, .int 0, .int 0, .int 0, .int 0, .int 0])), (q5, .inr (5, [.ref qb_9, .int 0])), (qb_9, .inl (dA 1, 160, .inl (fun _ => 0))), (q16, .inr (0, [.ref qo_20, .int 0, .int 3, .int 1, .int 1, .int 0, .int 0])), (qo_20, .inl (dA 3, 9, .inr (.inr (.inr (.inr (fun i => if i < 9 then some (rr_20 i) else none)))))), ((rr_20 0), .inl (dA 0, 7, .inl (fun _ => 0))), ((rr_20 1), .inl (dA 0, 7, .inl (fun _ => 0))), ((rr_20 2), .inl (dA 0, 7, .inl (fun _ => 0))), ((rr_20 3), .inl (dA 0, 7, .inl (fun _ => 0))), ((rr_20 4), .inl (dA 0, 7, .inl (fun _ => 0))), ((rr_20 5), .inl (dA 0, 7, .inl (fun _ => 0))), ((rr_20 6), .inl (dA 0, 7, .inl (fun _ => 0))), ((rr_20 7), .inl (dA 0, 7, .inl (fun _ => 0))), ((rr_20 8), .inl (dA 0, 7, .inl (fun _ => 0)))] H := hP
  have hD : va_D A [(h0, .inr (1, [.ref q5, .ref q16, .int 0, .int 0, .int 0, .int 0, .int 0, .int 0, .int 0, .int 0, .int 0])), (q5, .inr (5, [.ref qb_9, .int 0])), (qb_9, .inl (dA 1, 160, .inl (fun _ => 0))), (q16, .inr (0, [.ref qo_20, .int 0, .int 3, .int 1, .int 1, .int 0, .int 0])), (qo_20, .inl (dA 3, 9, .inr (.inr (.inr (.inr (fun i => if i < 9 then some (rr_20 i) else none)))))), ((rr_20 0), .inl (dA 0, 7, .inl (fun _ => 0))), ((rr_20 1), .inl (dA 0, 7, .inl (fun _ => 0))), ((rr_20 2), .inl (dA 0, 7, .inl (fun _ => 0))), ((rr_20 3), .inl (dA 0, 7, .inl (fun _ => 0))), ((rr_20 4), .inl (dA 0, 7, .inl (fun _ => 0))), ((rr_20 5), .inl (dA 0, 7, .inl (fun _ => 0))), ((rr_20 6), .inl (dA 0, 7, .inl (fun _ => 0))), ((rr_20 7), .inl (dA 0, 7, .inl (fun _ => 0))), ((rr_20 8), .inl (dA 0, 7, .inl (fun _ => 0)))] := hD
  refine lv_aload_n hx hb dX1_init_31 rfl (lv_at hl 0 rfl) ?_
  refine lv_iconst (v := 0) hx hb dX1_init_32 (by decide) ?_
  refine va_put (D := (dC, dI)) (ci := 1) (v := .int 0) (ty := tyX1 3) (C := RX1) (T := TX1) (N := 11) hx hb hts (fun w hw => List.mem_cons_of_mem _ (lyX1 w hw)) tyX1 tyX1_ok nmX1 hown hK hP hD hS 0 rfl rfl 3 (by decide) (hts _ (List.mem_cons_of_mem _ wd_168)) (fun _ h9 => h9) rfl (tyX1_ok 3 (by decide)) rfl rfl (Nat.le_of_ble_eq_true rfl) dX1_init_33 (fun H locs hP hD hS => ?_)
  have hP : va_P (dC, dI) vwCl [(h0, .inr (1, [.ref q5, .ref q16, .int 0, .int 0, .int 0, .int 0, .int 0, .int 0, .int 0, .int 0, .int 0])), (q5, .inr (5, [.ref qb_9, .int 0])), (qb_9, .inl (dA 1, 160, .inl (fun _ => 0))), (q16, .inr (0, [.ref qo_20, .int 0, .int 3, .int 1, .int 1, .int 0, .int 0])), (qo_20, .inl (dA 3, 9, .inr (.inr (.inr (.inr (fun i => if i < 9 then some (rr_20 i) else none)))))), ((rr_20 0), .inl (dA 0, 7, .inl (fun _ => 0))), ((rr_20 1), .inl (dA 0, 7, .inl (fun _ => 0))), ((rr_20 2), .inl (dA 0, 7, .inl (fun _ => 0))), ((rr_20 3), .inl (dA 0, 7, .inl (fun _ => 0))), ((rr_20 4), .inl (dA 0, 7, .inl (fun _ => 0))), ((rr_20 5), .inl (dA 0, 7, .inl (fun _ => 0))), ((rr_20 6), .inl (dA 0, 7, .inl (fun _ => 0))), ((rr_20 7), .inl (dA 0, 7, .inl (fun _ => 0))), ((rr_20 8), .inl (dA 0, 7, .inl (fun _ => 0)))] H := hP
  have hD : va_D A [(h0, .inr (1, [.ref q5, .ref q16, .int 0, .int 0, .int 0, .int 0, .int 0, .int 0, .int 0, .int 0, .int 0])), (q5, .inr (5, [.ref qb_9, .int 0])), (qb_9, .inl (dA 1, 160, .inl (fun _ => 0))), (q16, .inr (0, [.ref qo_20, .int 0, .int 3, .int 1, .int 1, .int 0, .int 0])), (qo_20, .inl (dA 3, 9, .inr (.inr (.inr (.inr (fun i => if i < 9 then some (rr_20 i) else none)))))), ((rr_20 0), .inl (dA 0, 7, .inl (fun _ => 0))), ((rr_20 1), .inl (dA 0, 7, .inl (fun _ => 0))), ((rr_20 2), .inl (dA 0, 7, .inl (fun _ => 0))), ((rr_20 3), .inl (dA 0, 7, .inl (fun _ => 0))), ((rr_20 4), .inl (dA 0, 7, .inl (fun _ => 0))), ((rr_20 5), .inl (dA 0, 7, .inl (fun _ => 0))), ((rr_20 6), .inl (dA 0, 7, .inl (fun _ => 0))), ((rr_20 7), .inl (dA 0, 7, .inl (fun _ => 0))), ((rr_20 8), .inl (dA 0, 7, .inl (fun _ => 0)))] := hD
  refine lv_aload_n hx hb dX1_init_36 rfl (lv_at hl 0 rfl) ?_
  refine lv_iconst (v := 0) hx hb dX1_init_37 (by decide) ?_
  refine va_put (D := (dC, dI)) (ci := 1) (v := .int 0) (ty := tyX1 4) (C := RX1) (T := TX1) (N := 11) hx hb hts (fun w hw => List.mem_cons_of_mem _ (lyX1 w hw)) tyX1 tyX1_ok nmX1 hown hK hP hD hS 0 rfl rfl 4 (by decide) (hts _ (List.mem_cons_of_mem _ wd_167)) (fun _ h9 => h9) rfl (tyX1_ok 4 (by decide)) rfl rfl (Nat.le_of_ble_eq_true rfl) dX1_init_38 (fun H locs hP hD hS => ?_)
  have hP : va_P (dC, dI) vwCl [(h0, .inr (1, [.ref q5, .ref q16, .int 0, .int 0, .int 0, .int 0, .int 0, .int 0, .int 0, .int 0, .int 0])), (q5, .inr (5, [.ref qb_9, .int 0])), (qb_9, .inl (dA 1, 160, .inl (fun _ => 0))), (q16, .inr (0, [.ref qo_20, .int 0, .int 3, .int 1, .int 1, .int 0, .int 0])), (qo_20, .inl (dA 3, 9, .inr (.inr (.inr (.inr (fun i => if i < 9 then some (rr_20 i) else none)))))), ((rr_20 0), .inl (dA 0, 7, .inl (fun _ => 0))), ((rr_20 1), .inl (dA 0, 7, .inl (fun _ => 0))), ((rr_20 2), .inl (dA 0, 7, .inl (fun _ => 0))), ((rr_20 3), .inl (dA 0, 7, .inl (fun _ => 0))), ((rr_20 4), .inl (dA 0, 7, .inl (fun _ => 0))), ((rr_20 5), .inl (dA 0, 7, .inl (fun _ => 0))), ((rr_20 6), .inl (dA 0, 7, .inl (fun _ => 0))), ((rr_20 7), .inl (dA 0, 7, .inl (fun _ => 0))), ((rr_20 8), .inl (dA 0, 7, .inl (fun _ => 0)))] H := hP
  have hD : va_D A [(h0, .inr (1, [.ref q5, .ref q16, .int 0, .int 0, .int 0, .int 0, .int 0, .int 0, .int 0, .int 0, .int 0])), (q5, .inr (5, [.ref qb_9, .int 0])), (qb_9, .inl (dA 1, 160, .inl (fun _ => 0))), (q16, .inr (0, [.ref qo_20, .int 0, .int 3, .int 1, .int 1, .int 0, .int 0])), (qo_20, .inl (dA 3, 9, .inr (.inr (.inr (.inr (fun i => if i < 9 then some (rr_20 i) else none)))))), ((rr_20 0), .inl (dA 0, 7, .inl (fun _ => 0))), ((rr_20 1), .inl (dA 0, 7, .inl (fun _ => 0))), ((rr_20 2), .inl (dA 0, 7, .inl (fun _ => 0))), ((rr_20 3), .inl (dA 0, 7, .inl (fun _ => 0))), ((rr_20 4), .inl (dA 0, 7, .inl (fun _ => 0))), ((rr_20 5), .inl (dA 0, 7, .inl (fun _ => 0))), ((rr_20 6), .inl (dA 0, 7, .inl (fun _ => 0))), ((rr_20 7), .inl (dA 0, 7, .inl (fun _ => 0))), ((rr_20 8), .inl (dA 0, 7, .inl (fun _ => 0)))] := hD
  refine lv_aload_n hx hb dX1_init_41 rfl (lv_at hl 0 rfl) ?_
  refine lv_iconst (v := 0) hx hb dX1_init_42 (by decide) ?_
  refine va_put (D := (dC, dI)) (ci := 1) (v := .int 0) (ty := tyX1 5) (C := RX1) (T := TX1) (N := 11) hx hb hts (fun w hw => List.mem_cons_of_mem _ (lyX1 w hw)) tyX1 tyX1_ok nmX1 hown hK hP hD hS 0 rfl rfl 5 (by decide) (hts _ (List.mem_cons_of_mem _ wd_177)) (fun _ h9 => h9) rfl (tyX1_ok 5 (by decide)) rfl rfl (Nat.le_of_ble_eq_true rfl) dX1_init_43 (fun H locs hP hD hS => ?_)
  have hP : va_P (dC, dI) vwCl [(h0, .inr (1, [.ref q5, .ref q16, .int 0, .int 0, .int 0, .int 0, .int 0, .int 0, .int 0, .int 0, .int 0])), (q5, .inr (5, [.ref qb_9, .int 0])), (qb_9, .inl (dA 1, 160, .inl (fun _ => 0))), (q16, .inr (0, [.ref qo_20, .int 0, .int 3, .int 1, .int 1, .int 0, .int 0])), (qo_20, .inl (dA 3, 9, .inr (.inr (.inr (.inr (fun i => if i < 9 then some (rr_20 i) else none)))))), ((rr_20 0), .inl (dA 0, 7, .inl (fun _ => 0))), ((rr_20 1), .inl (dA 0, 7, .inl (fun _ => 0))), ((rr_20 2), .inl (dA 0, 7, .inl (fun _ => 0))), ((rr_20 3), .inl (dA 0, 7, .inl (fun _ => 0))), ((rr_20 4), .inl (dA 0, 7, .inl (fun _ => 0))), ((rr_20 5), .inl (dA 0, 7, .inl (fun _ => 0))), ((rr_20 6), .inl (dA 0, 7, .inl (fun _ => 0))), ((rr_20 7), .inl (dA 0, 7, .inl (fun _ => 0))), ((rr_20 8), .inl (dA 0, 7, .inl (fun _ => 0)))] H := hP
  have hD : va_D A [(h0, .inr (1, [.ref q5, .ref q16, .int 0, .int 0, .int 0, .int 0, .int 0, .int 0, .int 0, .int 0, .int 0])), (q5, .inr (5, [.ref qb_9, .int 0])), (qb_9, .inl (dA 1, 160, .inl (fun _ => 0))), (q16, .inr (0, [.ref qo_20, .int 0, .int 3, .int 1, .int 1, .int 0, .int 0])), (qo_20, .inl (dA 3, 9, .inr (.inr (.inr (.inr (fun i => if i < 9 then some (rr_20 i) else none)))))), ((rr_20 0), .inl (dA 0, 7, .inl (fun _ => 0))), ((rr_20 1), .inl (dA 0, 7, .inl (fun _ => 0))), ((rr_20 2), .inl (dA 0, 7, .inl (fun _ => 0))), ((rr_20 3), .inl (dA 0, 7, .inl (fun _ => 0))), ((rr_20 4), .inl (dA 0, 7, .inl (fun _ => 0))), ((rr_20 5), .inl (dA 0, 7, .inl (fun _ => 0))), ((rr_20 6), .inl (dA 0, 7, .inl (fun _ => 0))), ((rr_20 7), .inl (dA 0, 7, .inl (fun _ => 0))), ((rr_20 8), .inl (dA 0, 7, .inl (fun _ => 0)))] := hD
  refine lv_aload_n hx hb dX1_init_46 rfl (lv_at hl 0 rfl) ?_
  refine lv_iconst (v := 0) hx hb dX1_init_47 (by decide) ?_
  refine va_put (D := (dC, dI)) (ci := 1) (v := .int 0) (ty := tyX1 6) (C := RX1) (T := TX1) (N := 11) hx hb hts (fun w hw => List.mem_cons_of_mem _ (lyX1 w hw)) tyX1 tyX1_ok nmX1 hown hK hP hD hS 0 rfl rfl 6 (by decide) (hts _ (List.mem_cons_of_mem _ wd_180)) (fun _ h9 => h9) rfl (tyX1_ok 6 (by decide)) rfl rfl (Nat.le_of_ble_eq_true rfl) dX1_init_48 (fun H locs hP hD hS => ?_)
  have hP : va_P (dC, dI) vwCl [(h0, .inr (1, [.ref q5, .ref q16, .int 0, .int 0, .int 0, .int 0, .int 0, .int 0, .int 0, .int 0, .int 0])), (q5, .inr (5, [.ref qb_9, .int 0])), (qb_9, .inl (dA 1, 160, .inl (fun _ => 0))), (q16, .inr (0, [.ref qo_20, .int 0, .int 3, .int 1, .int 1, .int 0, .int 0])), (qo_20, .inl (dA 3, 9, .inr (.inr (.inr (.inr (fun i => if i < 9 then some (rr_20 i) else none)))))), ((rr_20 0), .inl (dA 0, 7, .inl (fun _ => 0))), ((rr_20 1), .inl (dA 0, 7, .inl (fun _ => 0))), ((rr_20 2), .inl (dA 0, 7, .inl (fun _ => 0))), ((rr_20 3), .inl (dA 0, 7, .inl (fun _ => 0))), ((rr_20 4), .inl (dA 0, 7, .inl (fun _ => 0))), ((rr_20 5), .inl (dA 0, 7, .inl (fun _ => 0))), ((rr_20 6), .inl (dA 0, 7, .inl (fun _ => 0))), ((rr_20 7), .inl (dA 0, 7, .inl (fun _ => 0))), ((rr_20 8), .inl (dA 0, 7, .inl (fun _ => 0)))] H := hP
  have hD : va_D A [(h0, .inr (1, [.ref q5, .ref q16, .int 0, .int 0, .int 0, .int 0, .int 0, .int 0, .int 0, .int 0, .int 0])), (q5, .inr (5, [.ref qb_9, .int 0])), (qb_9, .inl (dA 1, 160, .inl (fun _ => 0))), (q16, .inr (0, [.ref qo_20, .int 0, .int 3, .int 1, .int 1, .int 0, .int 0])), (qo_20, .inl (dA 3, 9, .inr (.inr (.inr (.inr (fun i => if i < 9 then some (rr_20 i) else none)))))), ((rr_20 0), .inl (dA 0, 7, .inl (fun _ => 0))), ((rr_20 1), .inl (dA 0, 7, .inl (fun _ => 0))), ((rr_20 2), .inl (dA 0, 7, .inl (fun _ => 0))), ((rr_20 3), .inl (dA 0, 7, .inl (fun _ => 0))), ((rr_20 4), .inl (dA 0, 7, .inl (fun _ => 0))), ((rr_20 5), .inl (dA 0, 7, .inl (fun _ => 0))), ((rr_20 6), .inl (dA 0, 7, .inl (fun _ => 0))), ((rr_20 7), .inl (dA 0, 7, .inl (fun _ => 0))), ((rr_20 8), .inl (dA 0, 7, .inl (fun _ => 0)))] := hD
  refine lv_aload_n hx hb dX1_init_51 rfl (lv_at hl 0 rfl) ?_
  refine lv_iconst (v := 0) hx hb dX1_init_52 (by decide) ?_
  refine va_put (D := (dC, dI)) (ci := 1) (v := .int 0) (ty := tyX1 7) (C := RX1) (T := TX1) (N := 11) hx hb hts (fun w hw => List.mem_cons_of_mem _ (lyX1 w hw)) tyX1 tyX1_ok nmX1 hown hK hP hD hS 0 rfl rfl 7 (by decide) (hts _ (List.mem_cons_of_mem _ wd_166)) (fun _ h9 => h9) rfl (tyX1_ok 7 (by decide)) rfl rfl (Nat.le_of_ble_eq_true rfl) dX1_init_53 (fun H locs hP hD hS => ?_)
  have hP : va_P (dC, dI) vwCl [(h0, .inr (1, [.ref q5, .ref q16, .int 0, .int 0, .int 0, .int 0, .int 0, .int 0, .int 0, .int 0, .int 0])), (q5, .inr (5, [.ref qb_9, .int 0])), (qb_9, .inl (dA 1, 160, .inl (fun _ => 0))), (q16, .inr (0, [.ref qo_20, .int 0, .int 3, .int 1, .int 1, .int 0, .int 0])), (qo_20, .inl (dA 3, 9, .inr (.inr (.inr (.inr (fun i => if i < 9 then some (rr_20 i) else none)))))), ((rr_20 0), .inl (dA 0, 7, .inl (fun _ => 0))), ((rr_20 1), .inl (dA 0, 7, .inl (fun _ => 0))), ((rr_20 2), .inl (dA 0, 7, .inl (fun _ => 0))), ((rr_20 3), .inl (dA 0, 7, .inl (fun _ => 0))), ((rr_20 4), .inl (dA 0, 7, .inl (fun _ => 0))), ((rr_20 5), .inl (dA 0, 7, .inl (fun _ => 0))), ((rr_20 6), .inl (dA 0, 7, .inl (fun _ => 0))), ((rr_20 7), .inl (dA 0, 7, .inl (fun _ => 0))), ((rr_20 8), .inl (dA 0, 7, .inl (fun _ => 0)))] H := hP
  have hD : va_D A [(h0, .inr (1, [.ref q5, .ref q16, .int 0, .int 0, .int 0, .int 0, .int 0, .int 0, .int 0, .int 0, .int 0])), (q5, .inr (5, [.ref qb_9, .int 0])), (qb_9, .inl (dA 1, 160, .inl (fun _ => 0))), (q16, .inr (0, [.ref qo_20, .int 0, .int 3, .int 1, .int 1, .int 0, .int 0])), (qo_20, .inl (dA 3, 9, .inr (.inr (.inr (.inr (fun i => if i < 9 then some (rr_20 i) else none)))))), ((rr_20 0), .inl (dA 0, 7, .inl (fun _ => 0))), ((rr_20 1), .inl (dA 0, 7, .inl (fun _ => 0))), ((rr_20 2), .inl (dA 0, 7, .inl (fun _ => 0))), ((rr_20 3), .inl (dA 0, 7, .inl (fun _ => 0))), ((rr_20 4), .inl (dA 0, 7, .inl (fun _ => 0))), ((rr_20 5), .inl (dA 0, 7, .inl (fun _ => 0))), ((rr_20 6), .inl (dA 0, 7, .inl (fun _ => 0))), ((rr_20 7), .inl (dA 0, 7, .inl (fun _ => 0))), ((rr_20 8), .inl (dA 0, 7, .inl (fun _ => 0)))] := hD
  refine lv_aload_n hx hb dX1_init_56 rfl (lv_at hl 0 rfl) ?_
  refine lv_iconst (v := 0) hx hb dX1_init_57 (by decide) ?_
  refine va_put (D := (dC, dI)) (ci := 1) (v := .int 0) (ty := tyX1 8) (C := RX1) (T := TX1) (N := 11) hx hb hts (fun w hw => List.mem_cons_of_mem _ (lyX1 w hw)) tyX1 tyX1_ok nmX1 hown hK hP hD hS 0 rfl rfl 8 (by decide) (hts _ (List.mem_cons_of_mem _ wd_165)) (fun _ h9 => h9) rfl (tyX1_ok 8 (by decide)) rfl rfl (Nat.le_of_ble_eq_true rfl) dX1_init_58 (fun H locs hP hD hS => ?_)
  have hP : va_P (dC, dI) vwCl [(h0, .inr (1, [.ref q5, .ref q16, .int 0, .int 0, .int 0, .int 0, .int 0, .int 0, .int 0, .int 0, .int 0])), (q5, .inr (5, [.ref qb_9, .int 0])), (qb_9, .inl (dA 1, 160, .inl (fun _ => 0))), (q16, .inr (0, [.ref qo_20, .int 0, .int 3, .int 1, .int 1, .int 0, .int 0])), (qo_20, .inl (dA 3, 9, .inr (.inr (.inr (.inr (fun i => if i < 9 then some (rr_20 i) else none)))))), ((rr_20 0), .inl (dA 0, 7, .inl (fun _ => 0))), ((rr_20 1), .inl (dA 0, 7, .inl (fun _ => 0))), ((rr_20 2), .inl (dA 0, 7, .inl (fun _ => 0))), ((rr_20 3), .inl (dA 0, 7, .inl (fun _ => 0))), ((rr_20 4), .inl (dA 0, 7, .inl (fun _ => 0))), ((rr_20 5), .inl (dA 0, 7, .inl (fun _ => 0))), ((rr_20 6), .inl (dA 0, 7, .inl (fun _ => 0))), ((rr_20 7), .inl (dA 0, 7, .inl (fun _ => 0))), ((rr_20 8), .inl (dA 0, 7, .inl (fun _ => 0)))] H := hP
  have hD : va_D A [(h0, .inr (1, [.ref q5, .ref q16, .int 0, .int 0, .int 0, .int 0, .int 0, .int 0, .int 0, .int 0, .int 0])), (q5, .inr (5, [.ref qb_9, .int 0])), (qb_9, .inl (dA 1, 160, .inl (fun _ => 0))), (q16, .inr (0, [.ref qo_20, .int 0, .int 3, .int 1, .int 1, .int 0, .int 0])), (qo_20, .inl (dA 3, 9, .inr (.inr (.inr (.inr (fun i => if i < 9 then some (rr_20 i) else none)))))), ((rr_20 0), .inl (dA 0, 7, .inl (fun _ => 0))), ((rr_20 1), .inl (dA 0, 7, .inl (fun _ => 0))), ((rr_20 2), .inl (dA 0, 7, .inl (fun _ => 0))), ((rr_20 3), .inl (dA 0, 7, .inl (fun _ => 0))), ((rr_20 4), .inl (dA 0, 7, .inl (fun _ => 0))), ((rr_20 5), .inl (dA 0, 7, .inl (fun _ => 0))), ((rr_20 6), .inl (dA 0, 7, .inl (fun _ => 0))), ((rr_20 7), .inl (dA 0, 7, .inl (fun _ => 0))), ((rr_20 8), .inl (dA 0, 7, .inl (fun _ => 0)))] := hD
  refine lv_aload_n hx hb dX1_init_61 rfl (lv_at hl 0 rfl) ?_
  refine lv_iconst (v := 0) hx hb dX1_init_62 (by decide) ?_
  refine va_put (D := (dC, dI)) (ci := 1) (v := .int 0) (ty := tyX1 9) (C := RX1) (T := TX1) (N := 11) hx hb hts (fun w hw => List.mem_cons_of_mem _ (lyX1 w hw)) tyX1 tyX1_ok nmX1 hown hK hP hD hS 0 rfl rfl 9 (by decide) (hts _ (List.mem_cons_of_mem _ wd_164)) (fun _ h9 => h9) rfl (tyX1_ok 9 (by decide)) rfl rfl (Nat.le_of_ble_eq_true rfl) dX1_init_63 (fun H locs hP hD hS => ?_)
  have hP : va_P (dC, dI) vwCl [(h0, .inr (1, [.ref q5, .ref q16, .int 0, .int 0, .int 0, .int 0, .int 0, .int 0, .int 0, .int 0, .int 0])), (q5, .inr (5, [.ref qb_9, .int 0])), (qb_9, .inl (dA 1, 160, .inl (fun _ => 0))), (q16, .inr (0, [.ref qo_20, .int 0, .int 3, .int 1, .int 1, .int 0, .int 0])), (qo_20, .inl (dA 3, 9, .inr (.inr (.inr (.inr (fun i => if i < 9 then some (rr_20 i) else none)))))), ((rr_20 0), .inl (dA 0, 7, .inl (fun _ => 0))), ((rr_20 1), .inl (dA 0, 7, .inl (fun _ => 0))), ((rr_20 2), .inl (dA 0, 7, .inl (fun _ => 0))), ((rr_20 3), .inl (dA 0, 7, .inl (fun _ => 0))), ((rr_20 4), .inl (dA 0, 7, .inl (fun _ => 0))), ((rr_20 5), .inl (dA 0, 7, .inl (fun _ => 0))), ((rr_20 6), .inl (dA 0, 7, .inl (fun _ => 0))), ((rr_20 7), .inl (dA 0, 7, .inl (fun _ => 0))), ((rr_20 8), .inl (dA 0, 7, .inl (fun _ => 0)))] H := hP
  have hD : va_D A [(h0, .inr (1, [.ref q5, .ref q16, .int 0, .int 0, .int 0, .int 0, .int 0, .int 0, .int 0, .int 0, .int 0])), (q5, .inr (5, [.ref qb_9, .int 0])), (qb_9, .inl (dA 1, 160, .inl (fun _ => 0))), (q16, .inr (0, [.ref qo_20, .int 0, .int 3, .int 1, .int 1, .int 0, .int 0])), (qo_20, .inl (dA 3, 9, .inr (.inr (.inr (.inr (fun i => if i < 9 then some (rr_20 i) else none)))))), ((rr_20 0), .inl (dA 0, 7, .inl (fun _ => 0))), ((rr_20 1), .inl (dA 0, 7, .inl (fun _ => 0))), ((rr_20 2), .inl (dA 0, 7, .inl (fun _ => 0))), ((rr_20 3), .inl (dA 0, 7, .inl (fun _ => 0))), ((rr_20 4), .inl (dA 0, 7, .inl (fun _ => 0))), ((rr_20 5), .inl (dA 0, 7, .inl (fun _ => 0))), ((rr_20 6), .inl (dA 0, 7, .inl (fun _ => 0))), ((rr_20 7), .inl (dA 0, 7, .inl (fun _ => 0))), ((rr_20 8), .inl (dA 0, 7, .inl (fun _ => 0)))] := hD
  refine lv_aload_n hx hb dX1_init_66 rfl (lv_at hl 0 rfl) ?_
  refine lv_iconst (v := 0) hx hb dX1_init_67 (by decide) ?_
  refine va_put (D := (dC, dI)) (ci := 1) (v := .int 0) (ty := tyX1 10) (C := RX1) (T := TX1) (N := 11) hx hb hts (fun w hw => List.mem_cons_of_mem _ (lyX1 w hw)) tyX1 tyX1_ok nmX1 hown hK hP hD hS 0 rfl rfl 10 (by decide) (hts _ (List.mem_cons_of_mem _ wd_163)) (fun _ h9 => h9) rfl (tyX1_ok 10 (by decide)) rfl rfl (Nat.le_of_ble_eq_true rfl) dX1_init_68 (fun H locs hP hD hS => ?_)
  have hP : va_P (dC, dI) vwCl [(h0, .inr (1, [.ref q5, .ref q16, .int 0, .int 0, .int 0, .int 0, .int 0, .int 0, .int 0, .int 0, .int 0])), (q5, .inr (5, [.ref qb_9, .int 0])), (qb_9, .inl (dA 1, 160, .inl (fun _ => 0))), (q16, .inr (0, [.ref qo_20, .int 0, .int 3, .int 1, .int 1, .int 0, .int 0])), (qo_20, .inl (dA 3, 9, .inr (.inr (.inr (.inr (fun i => if i < 9 then some (rr_20 i) else none)))))), ((rr_20 0), .inl (dA 0, 7, .inl (fun _ => 0))), ((rr_20 1), .inl (dA 0, 7, .inl (fun _ => 0))), ((rr_20 2), .inl (dA 0, 7, .inl (fun _ => 0))), ((rr_20 3), .inl (dA 0, 7, .inl (fun _ => 0))), ((rr_20 4), .inl (dA 0, 7, .inl (fun _ => 0))), ((rr_20 5), .inl (dA 0, 7, .inl (fun _ => 0))), ((rr_20 6), .inl (dA 0, 7, .inl (fun _ => 0))), ((rr_20 7), .inl (dA 0, 7, .inl (fun _ => 0))), ((rr_20 8), .inl (dA 0, 7, .inl (fun _ => 0)))] H := hP
  have hD : va_D A [(h0, .inr (1, [.ref q5, .ref q16, .int 0, .int 0, .int 0, .int 0, .int 0, .int 0, .int 0, .int 0, .int 0])), (q5, .inr (5, [.ref qb_9, .int 0])), (qb_9, .inl (dA 1, 160, .inl (fun _ => 0))), (q16, .inr (0, [.ref qo_20, .int 0, .int 3, .int 1, .int 1, .int 0, .int 0])), (qo_20, .inl (dA 3, 9, .inr (.inr (.inr (.inr (fun i => if i < 9 then some (rr_20 i) else none)))))), ((rr_20 0), .inl (dA 0, 7, .inl (fun _ => 0))), ((rr_20 1), .inl (dA 0, 7, .inl (fun _ => 0))), ((rr_20 2), .inl (dA 0, 7, .inl (fun _ => 0))), ((rr_20 3), .inl (dA 0, 7, .inl (fun _ => 0))), ((rr_20 4), .inl (dA 0, 7, .inl (fun _ => 0))), ((rr_20 5), .inl (dA 0, 7, .inl (fun _ => 0))), ((rr_20 6), .inl (dA 0, 7, .inl (fun _ => 0))), ((rr_20 7), .inl (dA 0, 7, .inl (fun _ => 0))), ((rr_20 8), .inl (dA 0, 7, .inl (fun _ => 0)))] := hD
  exact W.vret hx hb hr (fun t ht hW => ⟨⟨(), rfl, trivial, q5, qb_9, q16, qo_20, rr_20, by rw [ht]; exact hP, hD⟩, hS.F ht⟩) hS.2.2 dX1_init_71
set_option maxHeartbeats 8000000 in
set_option maxRecDepth 100000 in
theorem ci_X3 (l : Launch) (dC : Nat → ClassId) (dI : Nat → Nat → Nat) (dA : Nat → ClassId) (h0 sz : Nat) : Met l yX3_init (Jvm.Cond.code yX3_init cX3_init 1 none :: am_B) { frames := 1, cells := 3, slots := 647, locals := 12 } (va_Pc [.ref h0] (fun U => U.heap.size = sz ∧ va_P (dC, dI) vwCl [(h0, .inr (3, [.null, .null, .null, .int 0, .int 0]))] U.heap ∧ va_K (dC, dI) vwCl (am_ty dA) U ∧ va_D (fun _ => True) [(h0, .inr (3, [.null, .null, .null, .int 0, .int 0]))] ∧ am_NI U)) (va_Qv (fun _ : Unit => True) (fun _ t => ∃ (qa : Nat) (qb : Nat) (qc : Nat), va_P (dC, dI) vwCl [(h0, .inr (3, [.ref qa, .ref qb, .ref qc, .int 0, .int 1])), (qa, .inl (dA 0, 9, .inl (fun _ => 0))), (qb, .inl (dA 0, 126, .inl (fun _ => 0))), (qc, .inl (dA 0, 512, .inl (fun _ => 0)))] t.heap ∧ va_D (va_A [(h0, .inr (3, [.null, .null, .null, .int 0, .int 0]))] sz) [(h0, .inr (3, [.ref qa, .ref qb, .ref qc, .int 0, .int 1])), (qa, .inl (dA 0, 9, .inl (fun _ => 0))), (qb, .inl (dA 0, 126, .inl (fun _ => 0))), (qc, .inl (dA 0, 512, .inl (fun _ => 0)))]) (va_A [(h0, .inr (3, [.null, .null, .null, .int 0, .int 0]))] sz)) 3 647 (va_A [(h0, .inr (3, [.null, .null, .null, .int 0, .int 0]))] sz) := by
  refine Met.ofW (cc := cX3_init) (maxL := 1) (ret := none) (by decide) rfl ?_
  intro p e s m args below meth c s₁ B hml hv
  obtain ⟨rfl, hsz, hP, hK, hD0, hNI⟩ := hv
  have hx := B.exec
  have hb := B.bytes
  have hr := B.returns
  have hts := atoms_spec (ws := Jvm.Cond.code yX3_init cX3_init 1 none :: am_B) B.pre
  have hown : s.vm.findClass RX3 = some m.cls := findClass_of_methodNamed B.named
  have hlocks := B.notSynchronized
  have hin : meth.name = "<init>" := (name_of_methodNamed B.named B.method).1
  subst hsz
  have hD := hD0.self (sz := s.heap.size)
  generalize hAe : va_A [(h0, .inr (3, [.null, .null, .null, .int 0, .int 0]))] s.heap.size = A at hD ⊢
  have hA : ∀ q : Nat, s.heap.size ≤ q → A q := fun q h => by rw [← hAe]; exact Or.inr h
  have hS : va_S A s.heap s.heap [] := va_S.rf
  have hP : va_P (dC, dI) vwCl [(h0, .inr (3, [.null, .null, .null, .int 0, .int 0]))] s.heap := hP
  have hl := lv_entry ([.ref h0]) (n := 1) (Nat.le_of_ble_eq_true rfl)
  rw [lg_entry_eq]
  generalize (lg_sl ([.ref h0]) ++ List.replicate (1 - (lg_sl ([.ref h0])).length) Slot.unset).toArray = ls at hl ⊢
  have hl : lv_has ls 1 [(0, .ref h0)] := hl
  refine lv_aload_n hx hb dX3_init_0 rfl (lv_at hl 0 rfl) ?_
  refine W.objInit hx hb hown (hts _ (List.mem_cons_of_mem _ iw_16)) (hts _ (List.mem_cons_of_mem _ iw_1)) (hts _ (List.mem_cons_of_mem _ iw_2)) rfl (by rw [hml]; exact hl.1) rfl dX3_init_1 (Nat.le_of_ble_eq_true rfl) (Nat.le_of_ble_eq_true rfl) ?_
  refine W.eq (g2 := F0 m 4 ls []) rfl ?_
  refine lv_aload_n hx hb dX3_init_4 rfl (lv_at hl 0 rfl) ?_
  refine lv_bipush (v := 9) hx hb dX3_init_5 (by decide) ?_
  refine va_newa (atype := .int) (ty := .int) (N' := 9) (a0 := (9, .inl (fun _ => 0))) hx hb (hts _ (List.mem_cons_of_mem _ iw_6)) rfl hK hP hD hS hA (fun _ => rfl) (by decide) (by decide) (by decide) (Nat.le_of_ble_eq_true rfl) (Nat.le_of_ble_eq_true rfl) dX3_init_7 (fun q7 cA H hK2 hP hD hS => ?_)
  obtain rfl := am_uni 0 (dA 0) hK2 rfl
  clear hK2
  have hP : va_P (dC, dI) vwCl [(h0, .inr (3, [.null, .null, .null, .int 0, .int 0])), (q7, .inl (dA 0, 9, .inl (fun _ => 0)))] H := hP
  have hD : va_D A [(h0, .inr (3, [.null, .null, .null, .int 0, .int 0])), (q7, .inl (dA 0, 9, .inl (fun _ => 0)))] := hD
  refine W.widen (k := 1) (n := 9) (by omega) (by omega) ?_
  refine va_putF (D := (dC, dI)) (ci := 3) (v := .ref q7) (ty := tyX3 0) (C := RX3) (T := TX3) (N := 5) hx hb hts (fun w hw => List.mem_cons_of_mem _ (lyX3 w hw)) tyX3 tyX3_ok nmX3 hown hK hP hD hS 0 rfl rfl 0 (by decide) (hts _ (List.mem_cons_of_mem _ wd_270)) (fun _ h9 => h9) rfl hin rfl (tyX3_ok 0 (by decide)) rfl rfl (Nat.le_of_ble_eq_true rfl) dX3_init_9 (fun H locs hP hD hS => ?_)
  have hP : va_P (dC, dI) vwCl [(h0, .inr (3, [.ref q7, .null, .null, .int 0, .int 0])), (q7, .inl (dA 0, 9, .inl (fun _ => 0)))] H := hP
  have hD : va_D A [(h0, .inr (3, [.ref q7, .null, .null, .int 0, .int 0])), (q7, .inl (dA 0, 9, .inl (fun _ => 0)))] := hD
  refine lv_aload_n hx hb dX3_init_12 rfl (lv_at hl 0 rfl) ?_
  refine lv_bipush (v := 126) hx hb dX3_init_13 (by decide) ?_
  refine va_newa (atype := .int) (ty := .int) (N' := 126) (a0 := (126, .inl (fun _ => 0))) hx hb (hts _ (List.mem_cons_of_mem _ iw_6)) rfl hK hP hD hS hA (fun _ => rfl) (by decide) (by decide) (by decide) (Nat.le_of_ble_eq_true rfl) (Nat.le_of_ble_eq_true rfl) dX3_init_15 (fun q15 cA H hK2 hP hD hS => ?_)
  obtain rfl := am_uni 0 (dA 0) hK2 rfl
  clear hK2
  have hP : va_P (dC, dI) vwCl [(h0, .inr (3, [.ref q7, .null, .null, .int 0, .int 0])), (q7, .inl (dA 0, 9, .inl (fun _ => 0))), (q15, .inl (dA 0, 126, .inl (fun _ => 0)))] H := hP
  have hD : va_D A [(h0, .inr (3, [.ref q7, .null, .null, .int 0, .int 0])), (q7, .inl (dA 0, 9, .inl (fun _ => 0))), (q15, .inl (dA 0, 126, .inl (fun _ => 0)))] := hD
  refine W.widen (k := 2) (n := 135) (by omega) (by omega) ?_
  refine va_putF (D := (dC, dI)) (ci := 3) (v := .ref q15) (ty := tyX3 1) (C := RX3) (T := TX3) (N := 5) hx hb hts (fun w hw => List.mem_cons_of_mem _ (lyX3 w hw)) tyX3 tyX3_ok nmX3 hown hK hP hD hS 0 rfl rfl 1 (by decide) (hts _ (List.mem_cons_of_mem _ wd_271)) (fun _ h9 => h9) rfl hin rfl (tyX3_ok 1 (by decide)) rfl rfl (Nat.le_of_ble_eq_true rfl) dX3_init_17 (fun H locs hP hD hS => ?_)
  have hP : va_P (dC, dI) vwCl [(h0, .inr (3, [.ref q7, .ref q15, .null, .int 0, .int 0])), (q7, .inl (dA 0, 9, .inl (fun _ => 0))), (q15, .inl (dA 0, 126, .inl (fun _ => 0)))] H := hP
  have hD : va_D A [(h0, .inr (3, [.ref q7, .ref q15, .null, .int 0, .int 0])), (q7, .inl (dA 0, 9, .inl (fun _ => 0))), (q15, .inl (dA 0, 126, .inl (fun _ => 0)))] := hD
  refine lv_aload_n hx hb dX3_init_20 rfl (lv_at hl 0 rfl) ?_
  refine lv_sipush (v := 512) hx hb dX3_init_21 (by decide) ?_
  refine va_newa (atype := .int) (ty := .int) (N' := 512) (a0 := (512, .inl (fun _ => 0))) hx hb (hts _ (List.mem_cons_of_mem _ iw_6)) rfl hK hP hD hS hA (fun _ => rfl) (by decide) (by decide) (by decide) (Nat.le_of_ble_eq_true rfl) (Nat.le_of_ble_eq_true rfl) dX3_init_24 (fun q24 cA H hK2 hP hD hS => ?_)
  obtain rfl := am_uni 0 (dA 0) hK2 rfl
  clear hK2
  have hP : va_P (dC, dI) vwCl [(h0, .inr (3, [.ref q7, .ref q15, .null, .int 0, .int 0])), (q7, .inl (dA 0, 9, .inl (fun _ => 0))), (q15, .inl (dA 0, 126, .inl (fun _ => 0))), (q24, .inl (dA 0, 512, .inl (fun _ => 0)))] H := hP
  have hD : va_D A [(h0, .inr (3, [.ref q7, .ref q15, .null, .int 0, .int 0])), (q7, .inl (dA 0, 9, .inl (fun _ => 0))), (q15, .inl (dA 0, 126, .inl (fun _ => 0))), (q24, .inl (dA 0, 512, .inl (fun _ => 0)))] := hD
  refine W.widen (k := 3) (n := 647) (by omega) (by omega) ?_
  refine va_putF (D := (dC, dI)) (ci := 3) (v := .ref q24) (ty := tyX3 2) (C := RX3) (T := TX3) (N := 5) hx hb hts (fun w hw => List.mem_cons_of_mem _ (lyX3 w hw)) tyX3 tyX3_ok nmX3 hown hK hP hD hS 0 rfl rfl 2 (by decide) (hts _ (List.mem_cons_of_mem _ wd_289)) (fun _ h9 => h9) rfl hin rfl (tyX3_ok 2 (by decide)) rfl rfl (Nat.le_of_ble_eq_true rfl) dX3_init_26 (fun H locs hP hD hS => ?_)
  have hP : va_P (dC, dI) vwCl [(h0, .inr (3, [.ref q7, .ref q15, .ref q24, .int 0, .int 0])), (q7, .inl (dA 0, 9, .inl (fun _ => 0))), (q15, .inl (dA 0, 126, .inl (fun _ => 0))), (q24, .inl (dA 0, 512, .inl (fun _ => 0)))] H := hP
  have hD : va_D A [(h0, .inr (3, [.ref q7, .ref q15, .ref q24, .int 0, .int 0])), (q7, .inl (dA 0, 9, .inl (fun _ => 0))), (q15, .inl (dA 0, 126, .inl (fun _ => 0))), (q24, .inl (dA 0, 512, .inl (fun _ => 0)))] := hD
  refine lv_aload_n hx hb dX3_init_29 rfl (lv_at hl 0 rfl) ?_
  refine lv_iconst (v := 0) hx hb dX3_init_30 (by decide) ?_
  refine va_put (D := (dC, dI)) (ci := 3) (v := .int 0) (ty := tyX3 3) (C := RX3) (T := TX3) (N := 5) hx hb hts (fun w hw => List.mem_cons_of_mem _ (lyX3 w hw)) tyX3 tyX3_ok nmX3 hown hK hP hD hS 0 rfl rfl 3 (by decide) (hts _ (List.mem_cons_of_mem _ wd_272)) (fun _ h9 => h9) rfl (tyX3_ok 3 (by decide)) rfl rfl (Nat.le_of_ble_eq_true rfl) dX3_init_31 (fun H locs hP hD hS => ?_)
  have hP : va_P (dC, dI) vwCl [(h0, .inr (3, [.ref q7, .ref q15, .ref q24, .int 0, .int 0])), (q7, .inl (dA 0, 9, .inl (fun _ => 0))), (q15, .inl (dA 0, 126, .inl (fun _ => 0))), (q24, .inl (dA 0, 512, .inl (fun _ => 0)))] H := hP
  have hD : va_D A [(h0, .inr (3, [.ref q7, .ref q15, .ref q24, .int 0, .int 0])), (q7, .inl (dA 0, 9, .inl (fun _ => 0))), (q15, .inl (dA 0, 126, .inl (fun _ => 0))), (q24, .inl (dA 0, 512, .inl (fun _ => 0)))] := hD
  refine lv_aload_n hx hb dX3_init_34 rfl (lv_at hl 0 rfl) ?_
  refine lv_iconst (v := 1) hx hb dX3_init_35 (by decide) ?_
  refine va_put (D := (dC, dI)) (ci := 3) (v := .int 1) (ty := tyX3 4) (C := RX3) (T := TX3) (N := 5) hx hb hts (fun w hw => List.mem_cons_of_mem _ (lyX3 w hw)) tyX3 tyX3_ok nmX3 hown hK hP hD hS 0 rfl rfl 4 (by decide) (hts _ (List.mem_cons_of_mem _ wd_273)) (fun _ h9 => h9) rfl (tyX3_ok 4 (by decide)) rfl rfl (Nat.le_of_ble_eq_true rfl) dX3_init_36 (fun H locs hP hD hS => ?_)
  have hP : va_P (dC, dI) vwCl [(h0, .inr (3, [.ref q7, .ref q15, .ref q24, .int 0, .int 1])), (q7, .inl (dA 0, 9, .inl (fun _ => 0))), (q15, .inl (dA 0, 126, .inl (fun _ => 0))), (q24, .inl (dA 0, 512, .inl (fun _ => 0)))] H := hP
  have hD : va_D A [(h0, .inr (3, [.ref q7, .ref q15, .ref q24, .int 0, .int 1])), (q7, .inl (dA 0, 9, .inl (fun _ => 0))), (q15, .inl (dA 0, 126, .inl (fun _ => 0))), (q24, .inl (dA 0, 512, .inl (fun _ => 0)))] := hD
  exact W.vret hx hb hr (fun t ht hW => ⟨⟨(), rfl, trivial, q7, q15, q24, by rw [ht]; exact hP, hD⟩, hS.F ht⟩) hS.2.2 dX3_init_39
set_option maxHeartbeats 8000000 in
set_option maxRecDepth 100000 in
theorem ci_X2 (l : Launch) (dC : Nat → ClassId) (dI : Nat → Nat → Nat) (dA : Nat → ClassId) (h0 sz : Nat) : Met l yX2_init (Jvm.Cond.code yX2_init cX2_init 1 none :: am_B) { frames := 1, cells := 2, slots := 12, locals := 12 } (va_Pc [.ref h0] (fun U => U.heap.size = sz ∧ va_P (dC, dI) vwCl [(h0, .inr (2, [.null, .null, .int 0]))] U.heap ∧ va_K (dC, dI) vwCl (am_ty dA) U ∧ va_D (fun _ => True) [(h0, .inr (2, [.null, .null, .int 0]))] ∧ am_NI U)) (va_Qv (fun _ : Unit => True) (fun _ t => ∃ (qa : Nat) (qb : Nat), va_P (dC, dI) vwCl [(h0, .inr (2, [.ref qa, .ref qb, .int 0])), (qa, .inl (dA 0, 6, .inl (fun _ => 0))), (qb, .inl (dA 2, 6, .inl (fun _ => 0)))] t.heap ∧ va_D (va_A [(h0, .inr (2, [.null, .null, .int 0]))] sz) [(h0, .inr (2, [.ref qa, .ref qb, .int 0])), (qa, .inl (dA 0, 6, .inl (fun _ => 0))), (qb, .inl (dA 2, 6, .inl (fun _ => 0)))]) (va_A [(h0, .inr (2, [.null, .null, .int 0]))] sz)) 2 12 (va_A [(h0, .inr (2, [.null, .null, .int 0]))] sz) := by
  refine Met.ofW (cc := cX2_init) (maxL := 1) (ret := none) (by decide) rfl ?_
  intro p e s m args below meth c s₁ B hml hv
  obtain ⟨rfl, hsz, hP, hK, hD0, hNI⟩ := hv
  have hx := B.exec
  have hb := B.bytes
  have hr := B.returns
  have hts := atoms_spec (ws := Jvm.Cond.code yX2_init cX2_init 1 none :: am_B) B.pre
  have hown : s.vm.findClass RX2 = some m.cls := findClass_of_methodNamed B.named
  have hlocks := B.notSynchronized
  have hin : meth.name = "<init>" := (name_of_methodNamed B.named B.method).1
  subst hsz
  have hD := hD0.self (sz := s.heap.size)
  generalize hAe : va_A [(h0, .inr (2, [.null, .null, .int 0]))] s.heap.size = A at hD ⊢
  have hA : ∀ q : Nat, s.heap.size ≤ q → A q := fun q h => by rw [← hAe]; exact Or.inr h
  have hS : va_S A s.heap s.heap [] := va_S.rf
  have hP : va_P (dC, dI) vwCl [(h0, .inr (2, [.null, .null, .int 0]))] s.heap := hP
  have hl := lv_entry ([.ref h0]) (n := 1) (Nat.le_of_ble_eq_true rfl)
  rw [lg_entry_eq]
  generalize (lg_sl ([.ref h0]) ++ List.replicate (1 - (lg_sl ([.ref h0])).length) Slot.unset).toArray = ls at hl ⊢
  have hl : lv_has ls 1 [(0, .ref h0)] := hl
  refine lv_aload_n hx hb dX2_init_0 rfl (lv_at hl 0 rfl) ?_
  refine W.objInit hx hb hown (hts _ (List.mem_cons_of_mem _ iw_17)) (hts _ (List.mem_cons_of_mem _ iw_1)) (hts _ (List.mem_cons_of_mem _ iw_2)) rfl (by rw [hml]; exact hl.1) rfl dX2_init_1 (Nat.le_of_ble_eq_true rfl) (Nat.le_of_ble_eq_true rfl) ?_
  refine W.eq (g2 := F0 m 4 ls []) rfl ?_
  refine lv_aload_n hx hb dX2_init_4 rfl (lv_at hl 0 rfl) ?_
  refine lv_bipush (v := 6) hx hb dX2_init_5 (by decide) ?_
  refine va_newa (atype := .int) (ty := .int) (N' := 6) (a0 := (6, .inl (fun _ => 0))) hx hb (hts _ (List.mem_cons_of_mem _ iw_6)) rfl hK hP hD hS hA (fun _ => rfl) (by decide) (by decide) (by decide) (Nat.le_of_ble_eq_true rfl) (Nat.le_of_ble_eq_true rfl) dX2_init_7 (fun q7 cA H hK2 hP hD hS => ?_)
  obtain rfl := am_uni 0 (dA 0) hK2 rfl
  clear hK2
  have hP : va_P (dC, dI) vwCl [(h0, .inr (2, [.null, .null, .int 0])), (q7, .inl (dA 0, 6, .inl (fun _ => 0)))] H := hP
  have hD : va_D A [(h0, .inr (2, [.null, .null, .int 0])), (q7, .inl (dA 0, 6, .inl (fun _ => 0)))] := hD
  refine W.widen (k := 1) (n := 6) (by omega) (by omega) ?_
  refine va_putF (D := (dC, dI)) (ci := 2) (v := .ref q7) (ty := tyX2 0) (C := RX2) (T := TX2) (N := 3) hx hb hts (fun w hw => List.mem_cons_of_mem _ (lyX2 w hw)) tyX2 tyX2_ok nmX2 hown hK hP hD hS 0 rfl rfl 0 (by decide) (hts _ (List.mem_cons_of_mem _ wd_268)) (fun _ h9 => h9) rfl hin rfl (tyX2_ok 0 (by decide)) rfl rfl (Nat.le_of_ble_eq_true rfl) dX2_init_9 (fun H locs hP hD hS => ?_)
  have hP : va_P (dC, dI) vwCl [(h0, .inr (2, [.ref q7, .null, .int 0])), (q7, .inl (dA 0, 6, .inl (fun _ => 0)))] H := hP
  have hD : va_D A [(h0, .inr (2, [.ref q7, .null, .int 0])), (q7, .inl (dA 0, 6, .inl (fun _ => 0)))] := hD
  refine lv_aload_n hx hb dX2_init_12 rfl (lv_at hl 0 rfl) ?_
  refine lv_bipush (v := 6) hx hb dX2_init_13 (by decide) ?_
  refine va_newa (atype := .boolean) (ty := .boolean) (N' := 6) (a0 := (6, .inl (fun _ => 0))) hx hb (hts _ (List.mem_cons_of_mem _ iw_18)) rfl hK hP hD hS hA (fun _ => rfl) (by decide) (by decide) (by decide) (Nat.le_of_ble_eq_true rfl) (Nat.le_of_ble_eq_true rfl) dX2_init_15 (fun q15 cA H hK2 hP hD hS => ?_)
  obtain rfl := am_uni 2 (dA 2) hK2 rfl
  clear hK2
  have hP : va_P (dC, dI) vwCl [(h0, .inr (2, [.ref q7, .null, .int 0])), (q7, .inl (dA 0, 6, .inl (fun _ => 0))), (q15, .inl (dA 2, 6, .inl (fun _ => 0)))] H := hP
  have hD : va_D A [(h0, .inr (2, [.ref q7, .null, .int 0])), (q7, .inl (dA 0, 6, .inl (fun _ => 0))), (q15, .inl (dA 2, 6, .inl (fun _ => 0)))] := hD
  refine W.widen (k := 2) (n := 12) (by omega) (by omega) ?_
  refine va_putF (D := (dC, dI)) (ci := 2) (v := .ref q15) (ty := tyX2 1) (C := RX2) (T := TX2) (N := 3) hx hb hts (fun w hw => List.mem_cons_of_mem _ (lyX2 w hw)) tyX2 tyX2_ok nmX2 hown hK hP hD hS 0 rfl rfl 1 (by decide) (hts _ (List.mem_cons_of_mem _ wd_267)) (fun _ h9 => h9) rfl hin rfl (tyX2_ok 1 (by decide)) rfl rfl (Nat.le_of_ble_eq_true rfl) dX2_init_17 (fun H locs hP hD hS => ?_)
  have hP : va_P (dC, dI) vwCl [(h0, .inr (2, [.ref q7, .ref q15, .int 0])), (q7, .inl (dA 0, 6, .inl (fun _ => 0))), (q15, .inl (dA 2, 6, .inl (fun _ => 0)))] H := hP
  have hD : va_D A [(h0, .inr (2, [.ref q7, .ref q15, .int 0])), (q7, .inl (dA 0, 6, .inl (fun _ => 0))), (q15, .inl (dA 2, 6, .inl (fun _ => 0)))] := hD
  refine lv_aload_n hx hb dX2_init_20 rfl (lv_at hl 0 rfl) ?_
  refine lv_iconst (v := 0) hx hb dX2_init_21 (by decide) ?_
  refine va_put (D := (dC, dI)) (ci := 2) (v := .int 0) (ty := tyX2 2) (C := RX2) (T := TX2) (N := 3) hx hb hts (fun w hw => List.mem_cons_of_mem _ (lyX2 w hw)) tyX2 tyX2_ok nmX2 hown hK hP hD hS 0 rfl rfl 2 (by decide) (hts _ (List.mem_cons_of_mem _ wd_269)) (fun _ h9 => h9) rfl (tyX2_ok 2 (by decide)) rfl rfl (Nat.le_of_ble_eq_true rfl) dX2_init_22 (fun H locs hP hD hS => ?_)
  have hP : va_P (dC, dI) vwCl [(h0, .inr (2, [.ref q7, .ref q15, .int 0])), (q7, .inl (dA 0, 6, .inl (fun _ => 0))), (q15, .inl (dA 2, 6, .inl (fun _ => 0)))] H := hP
  have hD : va_D A [(h0, .inr (2, [.ref q7, .ref q15, .int 0])), (q7, .inl (dA 0, 6, .inl (fun _ => 0))), (q15, .inl (dA 2, 6, .inl (fun _ => 0)))] := hD
  exact W.vret hx hb hr (fun t ht hW => ⟨⟨(), rfl, trivial, q7, q15, by rw [ht]; exact hP, hD⟩, hS.F ht⟩) hS.2.2 dX2_init_25
set_option maxHeartbeats 8000000 in
set_option maxRecDepth 100000 in
theorem ci_X4 (l : Launch) (dC : Nat → ClassId) (dI : Nat → Nat → Nat) (dA : Nat → ClassId) (h0 sz : Nat) : Met l yX4_init (Jvm.Cond.code yX4_init cX4_init 1 none :: am_B) { frames := 1, cells := 1, slots := 40, locals := 12 } (va_Pc [.ref h0] (fun U => U.heap.size = sz ∧ va_P (dC, dI) vwCl [(h0, .inr (4, [.null, .int 0, .int 0, .int 0]))] U.heap ∧ va_K (dC, dI) vwCl (am_ty dA) U ∧ va_D (fun _ => True) [(h0, .inr (4, [.null, .int 0, .int 0, .int 0]))] ∧ am_NI U)) (va_Qv (fun _ : Unit => True) (fun _ t => ∃ (qa : Nat), va_P (dC, dI) vwCl [(h0, .inr (4, [.ref qa, .int 0, .int 0, .int 0])), (qa, .inl (dA 0, 40, .inl (fun _ => 0)))] t.heap ∧ va_D (va_A [(h0, .inr (4, [.null, .int 0, .int 0, .int 0]))] sz) [(h0, .inr (4, [.ref qa, .int 0, .int 0, .int 0])), (qa, .inl (dA 0, 40, .inl (fun _ => 0)))]) (va_A [(h0, .inr (4, [.null, .int 0, .int 0, .int 0]))] sz)) 1 40 (va_A [(h0, .inr (4, [.null, .int 0, .int 0, .int 0]))] sz) := by
  refine Met.ofW (cc := cX4_init) (maxL := 1) (ret := none) (by decide) rfl ?_
  intro p e s m args below meth c s₁ B hml hv
  obtain ⟨rfl, hsz, hP, hK, hD0, hNI⟩ := hv
  have hx := B.exec
  have hb := B.bytes
  have hr := B.returns
  have hts := atoms_spec (ws := Jvm.Cond.code yX4_init cX4_init 1 none :: am_B) B.pre
  have hown : s.vm.findClass RX4 = some m.cls := findClass_of_methodNamed B.named
  have hlocks := B.notSynchronized
  have hin : meth.name = "<init>" := (name_of_methodNamed B.named B.method).1
  subst hsz
  have hD := hD0.self (sz := s.heap.size)
  generalize hAe : va_A [(h0, .inr (4, [.null, .int 0, .int 0, .int 0]))] s.heap.size = A at hD ⊢
  have hA : ∀ q : Nat, s.heap.size ≤ q → A q := fun q h => by rw [← hAe]; exact Or.inr h
  have hS : va_S A s.heap s.heap [] := va_S.rf
  have hP : va_P (dC, dI) vwCl [(h0, .inr (4, [.null, .int 0, .int 0, .int 0]))] s.heap := hP
  have hl := lv_entry ([.ref h0]) (n := 1) (Nat.le_of_ble_eq_true rfl)
  rw [lg_entry_eq]
  generalize (lg_sl ([.ref h0]) ++ List.replicate (1 - (lg_sl ([.ref h0])).length) Slot.unset).toArray = ls at hl ⊢
  have hl : lv_has ls 1 [(0, .ref h0)] := hl
  refine lv_aload_n hx hb dX4_init_0 rfl (lv_at hl 0 rfl) ?_
  refine W.objInit hx hb hown (hts _ (List.mem_cons_of_mem _ iw_19)) (hts _ (List.mem_cons_of_mem _ iw_1)) (hts _ (List.mem_cons_of_mem _ iw_2)) rfl (by rw [hml]; exact hl.1) rfl dX4_init_1 (Nat.le_of_ble_eq_true rfl) (Nat.le_of_ble_eq_true rfl) ?_
  refine W.eq (g2 := F0 m 4 ls []) rfl ?_
  refine lv_aload_n hx hb dX4_init_4 rfl (lv_at hl 0 rfl) ?_
  refine lv_bipush (v := 40) hx hb dX4_init_5 (by decide) ?_
  refine va_newa (atype := .int) (ty := .int) (N' := 40) (a0 := (40, .inl (fun _ => 0))) hx hb (hts _ (List.mem_cons_of_mem _ iw_6)) rfl hK hP hD hS hA (fun _ => rfl) (by decide) (by decide) (by decide) (Nat.le_of_ble_eq_true rfl) (Nat.le_of_ble_eq_true rfl) dX4_init_7 (fun q7 cA H hK2 hP hD hS => ?_)
  obtain rfl := am_uni 0 (dA 0) hK2 rfl
  clear hK2
  have hP : va_P (dC, dI) vwCl [(h0, .inr (4, [.null, .int 0, .int 0, .int 0])), (q7, .inl (dA 0, 40, .inl (fun _ => 0)))] H := hP
  have hD : va_D A [(h0, .inr (4, [.null, .int 0, .int 0, .int 0])), (q7, .inl (dA 0, 40, .inl (fun _ => 0)))] := hD
  refine W.widen (k := 1) (n := 40) (by omega) (by omega) ?_
  refine va_putF (D := (dC, dI)) (ci := 4) (v := .ref q7) (ty := tyX4 0) (C := RX4) (T := TX4) (N := 4) hx hb hts (fun w hw => List.mem_cons_of_mem _ (lyX4 w hw)) tyX4 tyX4_ok nmX4 hown hK hP hD hS 0 rfl rfl 0 (by decide) (hts _ (List.mem_cons_of_mem _ wd_300)) (fun _ h9 => h9) rfl hin rfl (tyX4_ok 0 (by decide)) rfl rfl (Nat.le_of_ble_eq_true rfl) dX4_init_9 (fun H locs hP hD hS => ?_)
  have hP : va_P (dC, dI) vwCl [(h0, .inr (4, [.ref q7, .int 0, .int 0, .int 0])), (q7, .inl (dA 0, 40, .inl (fun _ => 0)))] H := hP
  have hD : va_D A [(h0, .inr (4, [.ref q7, .int 0, .int 0, .int 0])), (q7, .inl (dA 0, 40, .inl (fun _ => 0)))] := hD
  refine lv_aload_n hx hb dX4_init_12 rfl (lv_at hl 0 rfl) ?_
  refine lv_iconst (v := 0) hx hb dX4_init_13 (by decide) ?_
  refine va_put (D := (dC, dI)) (ci := 4) (v := .int 0) (ty := tyX4 1) (C := RX4) (T := TX4) (N := 4) hx hb hts (fun w hw => List.mem_cons_of_mem _ (lyX4 w hw)) tyX4 tyX4_ok nmX4 hown hK hP hD hS 0 rfl rfl 1 (by decide) (hts _ (List.mem_cons_of_mem _ wd_299)) (fun _ h9 => h9) rfl (tyX4_ok 1 (by decide)) rfl rfl (Nat.le_of_ble_eq_true rfl) dX4_init_14 (fun H locs hP hD hS => ?_)
  have hP : va_P (dC, dI) vwCl [(h0, .inr (4, [.ref q7, .int 0, .int 0, .int 0])), (q7, .inl (dA 0, 40, .inl (fun _ => 0)))] H := hP
  have hD : va_D A [(h0, .inr (4, [.ref q7, .int 0, .int 0, .int 0])), (q7, .inl (dA 0, 40, .inl (fun _ => 0)))] := hD
  refine lv_aload_n hx hb dX4_init_17 rfl (lv_at hl 0 rfl) ?_
  refine lv_iconst (v := 0) hx hb dX4_init_18 (by decide) ?_
  refine va_put (D := (dC, dI)) (ci := 4) (v := .int 0) (ty := tyX4 2) (C := RX4) (T := TX4) (N := 4) hx hb hts (fun w hw => List.mem_cons_of_mem _ (lyX4 w hw)) tyX4 tyX4_ok nmX4 hown hK hP hD hS 0 rfl rfl 2 (by decide) (hts _ (List.mem_cons_of_mem _ wd_298)) (fun _ h9 => h9) rfl (tyX4_ok 2 (by decide)) rfl rfl (Nat.le_of_ble_eq_true rfl) dX4_init_19 (fun H locs hP hD hS => ?_)
  have hP : va_P (dC, dI) vwCl [(h0, .inr (4, [.ref q7, .int 0, .int 0, .int 0])), (q7, .inl (dA 0, 40, .inl (fun _ => 0)))] H := hP
  have hD : va_D A [(h0, .inr (4, [.ref q7, .int 0, .int 0, .int 0])), (q7, .inl (dA 0, 40, .inl (fun _ => 0)))] := hD
  refine lv_aload_n hx hb dX4_init_22 rfl (lv_at hl 0 rfl) ?_
  refine lv_iconst (v := 0) hx hb dX4_init_23 (by decide) ?_
  refine va_put (D := (dC, dI)) (ci := 4) (v := .int 0) (ty := tyX4 3) (C := RX4) (T := TX4) (N := 4) hx hb hts (fun w hw => List.mem_cons_of_mem _ (lyX4 w hw)) tyX4 tyX4_ok nmX4 hown hK hP hD hS 0 rfl rfl 3 (by decide) (hts _ (List.mem_cons_of_mem _ wd_297)) (fun _ h9 => h9) rfl (tyX4_ok 3 (by decide)) rfl rfl (Nat.le_of_ble_eq_true rfl) dX4_init_24 (fun H locs hP hD hS => ?_)
  have hP : va_P (dC, dI) vwCl [(h0, .inr (4, [.ref q7, .int 0, .int 0, .int 0])), (q7, .inl (dA 0, 40, .inl (fun _ => 0)))] H := hP
  have hD : va_D A [(h0, .inr (4, [.ref q7, .int 0, .int 0, .int 0])), (q7, .inl (dA 0, 40, .inl (fun _ => 0)))] := hD
  exact W.vret hx hb hr (fun t ht hW => ⟨⟨(), rfl, trivial, q7, by rw [ht]; exact hP, hD⟩, hS.F ht⟩) hS.2.2 dX4_init_27
