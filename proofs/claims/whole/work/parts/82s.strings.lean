/-! the JDK's String.length, String.charAt (laid by gen/mkstr.py) -/
theorem dJ0_length_8abf5_0 : decode cJ0_length_8abf5 0 = .ok (.aload_n 0, 1) := by decide +kernel
theorem dJ0_length_8abf5_1 : decode cJ0_length_8abf5 1 = .ok (.getfield 9, 3) := by decide +kernel
theorem dJ0_length_8abf5_4 : decode cJ0_length_8abf5 4 = .ok (.arraylength, 1) := by decide +kernel
theorem dJ0_length_8abf5_5 : decode cJ0_length_8abf5 5 = .ok (.aload_n 0, 1) := by decide +kernel
theorem dJ0_length_8abf5_6 : decode cJ0_length_8abf5 6 = .ok (.invokevirtual 335, 3) := by decide +kernel
theorem dJ0_length_8abf5_9 : decode cJ0_length_8abf5 9 = .ok (.ishr, 1) := by decide +kernel
theorem dJ0_length_8abf5_10 : decode cJ0_length_8abf5 10 = .ok (.ireturn, 1) := by decide +kernel
theorem dJ0_coder_7d493_0 : decode cJ0_coder_7d493 0 = .ok (.getstatic 38, 3) := by decide +kernel
theorem dJ0_coder_7d493_3 : decode cJ0_coder_7d493 3 = .ok (.ifCond .eq 10, 3) := by decide +kernel
theorem dJ0_coder_7d493_6 : decode cJ0_coder_7d493 6 = .ok (.aload_n 0, 1) := by decide +kernel
theorem dJ0_coder_7d493_7 : decode cJ0_coder_7d493 7 = .ok (.getfield 15, 3) := by decide +kernel
theorem dJ0_coder_7d493_10 : decode cJ0_coder_7d493 10 = .ok (.goto 4, 3) := by decide +kernel
theorem dJ0_coder_7d493_13 : decode cJ0_coder_7d493 13 = .ok (.iconst 1, 1) := by decide +kernel
theorem dJ0_coder_7d493_14 : decode cJ0_coder_7d493 14 = .ok (.ireturn, 1) := by decide +kernel
theorem dJ0_charAt_5068e_0 : decode cJ0_charAt_5068e 0 = .ok (.aload_n 0, 1) := by decide +kernel
theorem dJ0_charAt_5068e_1 : decode cJ0_charAt_5068e 1 = .ok (.invokevirtual 492, 3) := by decide +kernel
theorem dJ0_charAt_5068e_4 : decode cJ0_charAt_5068e 4 = .ok (.ifCond .eq 12, 3) := by decide +kernel
theorem dJ0_charAt_5068e_7 : decode cJ0_charAt_5068e 7 = .ok (.aload_n 0, 1) := by decide +kernel
theorem dJ0_charAt_5068e_8 : decode cJ0_charAt_5068e 8 = .ok (.getfield 9, 3) := by decide +kernel
theorem dJ0_charAt_5068e_11 : decode cJ0_charAt_5068e 11 = .ok (.iload_n 1, 1) := by decide +kernel
theorem dJ0_charAt_5068e_12 : decode cJ0_charAt_5068e 12 = .ok (.invokestatic 495, 3) := by decide +kernel
theorem dJ0_charAt_5068e_15 : decode cJ0_charAt_5068e 15 = .ok (.ireturn, 1) := by decide +kernel
theorem dJ0_charAt_5068e_16 : decode cJ0_charAt_5068e 16 = .ok (.aload_n 0, 1) := by decide +kernel
theorem dJ0_charAt_5068e_17 : decode cJ0_charAt_5068e 17 = .ok (.getfield 9, 3) := by decide +kernel
theorem dJ0_charAt_5068e_20 : decode cJ0_charAt_5068e 20 = .ok (.iload_n 1, 1) := by decide +kernel
theorem dJ0_charAt_5068e_21 : decode cJ0_charAt_5068e 21 = .ok (.invokestatic 498, 3) := by decide +kernel
theorem dJ0_charAt_5068e_24 : decode cJ0_charAt_5068e 24 = .ok (.ireturn, 1) := by decide +kernel
theorem dJ0_isLatin1_aae02_0 : decode cJ0_isLatin1_aae02 0 = .ok (.getstatic 38, 3) := by decide +kernel
theorem dJ0_isLatin1_aae02_3 : decode cJ0_isLatin1_aae02 3 = .ok (.ifCond .eq 14, 3) := by decide +kernel
theorem dJ0_isLatin1_aae02_6 : decode cJ0_isLatin1_aae02 6 = .ok (.aload_n 0, 1) := by decide +kernel
theorem dJ0_isLatin1_aae02_7 : decode cJ0_isLatin1_aae02 7 = .ok (.getfield 15, 3) := by decide +kernel
theorem dJ0_isLatin1_aae02_10 : decode cJ0_isLatin1_aae02 10 = .ok (.ifCond .ne 7, 3) := by decide +kernel
theorem dJ0_isLatin1_aae02_13 : decode cJ0_isLatin1_aae02 13 = .ok (.iconst 1, 1) := by decide +kernel
theorem dJ0_isLatin1_aae02_14 : decode cJ0_isLatin1_aae02 14 = .ok (.goto 4, 3) := by decide +kernel
theorem dJ0_isLatin1_aae02_17 : decode cJ0_isLatin1_aae02 17 = .ok (.iconst 0, 1) := by decide +kernel
theorem dJ0_isLatin1_aae02_18 : decode cJ0_isLatin1_aae02 18 = .ok (.ireturn, 1) := by decide +kernel
theorem dJ0_checkIndex_df160_0 : decode cJ0_checkIndex_df160 0 = .ok (.iload_n 0, 1) := by decide +kernel
theorem dJ0_checkIndex_df160_1 : decode cJ0_checkIndex_df160 1 = .ok (.iload_n 1, 1) := by decide +kernel
theorem dJ0_checkIndex_df160_2 : decode cJ0_checkIndex_df160 2 = .ok (.getstatic 1053, 3) := by decide +kernel
theorem dJ0_checkIndex_df160_5 : decode cJ0_checkIndex_df160 5 = .ok (.invokestatic 1059, 3) := by decide +kernel
theorem dJ0_checkIndex_df160_8 : decode cJ0_checkIndex_df160 8 = .ok (.pop, 1) := by decide +kernel
theorem dJ0_checkIndex_df160_9 : decode cJ0_checkIndex_df160 9 = .ok (.return_, 1) := by decide +kernel
theorem dJ1_charAt_3b067_0 : decode cJ1_charAt_3b067 0 = .ok (.iload_n 1, 1) := by decide +kernel
theorem dJ1_charAt_3b067_1 : decode cJ1_charAt_3b067 1 = .ok (.aload_n 0, 1) := by decide +kernel
theorem dJ1_charAt_3b067_2 : decode cJ1_charAt_3b067 2 = .ok (.arraylength, 1) := by decide +kernel
theorem dJ1_charAt_3b067_3 : decode cJ1_charAt_3b067 3 = .ok (.invokestatic 9, 3) := by decide +kernel
theorem dJ1_charAt_3b067_6 : decode cJ1_charAt_3b067 6 = .ok (.aload_n 0, 1) := by decide +kernel
theorem dJ1_charAt_3b067_7 : decode cJ1_charAt_3b067 7 = .ok (.iload_n 1, 1) := by decide +kernel
theorem dJ1_charAt_3b067_8 : decode cJ1_charAt_3b067 8 = .ok (.baload, 1) := by decide +kernel
theorem dJ1_charAt_3b067_9 : decode cJ1_charAt_3b067 9 = .ok (.sipush 255, 3) := by decide +kernel
theorem dJ1_charAt_3b067_12 : decode cJ1_charAt_3b067 12 = .ok (.iand, 1) := by decide +kernel
theorem dJ1_charAt_3b067_13 : decode cJ1_charAt_3b067 13 = .ok (.i2c, 1) := by decide +kernel
theorem dJ1_charAt_3b067_14 : decode cJ1_charAt_3b067 14 = .ok (.ireturn, 1) := by decide +kernel
theorem dJ3_checkIndex_8e157_0 : decode cJ3_checkIndex_8e157 0 = .ok (.iload_n 0, 1) := by decide +kernel
theorem dJ3_checkIndex_8e157_1 : decode cJ3_checkIndex_8e157 1 = .ok (.ifCond .lt 8, 3) := by decide +kernel
theorem dJ3_checkIndex_8e157_4 : decode cJ3_checkIndex_8e157 4 = .ok (.iload_n 0, 1) := by decide +kernel
theorem dJ3_checkIndex_8e157_5 : decode cJ3_checkIndex_8e157 5 = .ok (.iload_n 1, 1) := by decide +kernel
theorem dJ3_checkIndex_8e157_6 : decode cJ3_checkIndex_8e157 6 = .ok (.if_icmp .lt 10, 3) := by decide +kernel
theorem dJ3_checkIndex_8e157_9 : decode cJ3_checkIndex_8e157 9 = .ok (.aload_n 2, 1) := by decide +kernel
theorem dJ3_checkIndex_8e157_10 : decode cJ3_checkIndex_8e157 10 = .ok (.iload_n 0, 1) := by decide +kernel
theorem dJ3_checkIndex_8e157_11 : decode cJ3_checkIndex_8e157 11 = .ok (.iload_n 1, 1) := by decide +kernel
theorem dJ3_checkIndex_8e157_12 : decode cJ3_checkIndex_8e157 12 = .ok (.invokestatic 95, 3) := by decide +kernel
theorem dJ3_checkIndex_8e157_15 : decode cJ3_checkIndex_8e157 15 = .ok (.athrow, 1) := by decide +kernel
theorem dJ3_checkIndex_8e157_16 : decode cJ3_checkIndex_8e157 16 = .ok (.iload_n 0, 1) := by decide +kernel
theorem dJ3_checkIndex_8e157_17 : decode cJ3_checkIndex_8e157 17 = .ok (.ireturn, 1) := by decide +kernel
abbrev NW (sz : Nat) : Nat → Prop := fun q => sz ≤ q
def SF (a v N : Nat) (f : Nat → Value) (A : Nat → Prop) (U : State) (H : Heap) : Prop := va_O "java/lang/String" a A U H ∧ va_OF "java/lang/String" "coder" "B" (.int 0) a A U H ∧ va_OF "java/lang/String" "value" "[B" (.ref v) a A U H ∧ va_T .byte v N f A U H ∧ va_Z "java/lang/String" "COMPACT_STRINGS" "Z" (.int 1) A U H ∧ va_Zq "jdk/internal/util/Preconditions" "SIOOBE_FORMATTER" "Ljava/util/function/BiFunction;" A U H
theorem SF.moved {a v N : Nat} {f : Nat → Value} {A : Nat → Prop} {u U : State} {H : Heap} (hvm : u.vm.Alike U.vm) (h : SF a v N f A u H) : SF a v N f A U H := ⟨va_O.moved hvm h.1, va_OF.moved hvm h.2.1, va_OF.moved hvm h.2.2.1, va_T.moved hvm h.2.2.2.1, va_Z.moved hvm h.2.2.2.2.1, va_Zq.moved hvm h.2.2.2.2.2⟩
theorem SF.kept {a v N : Nat} {f : Nat → Value} {A : Nat → Prop} {U : State} {H H1 : Heap} (h : SF a v N f A U H) (hq : ∀ a : Nat, a < H.size → ¬ A a → H1[a]? = H[a]?) : SF a v N f A U H1 := ⟨h.1.kept hq, h.2.1.kept hq, h.2.2.1.kept hq, h.2.2.2.1.kept hq, h.2.2.2.2.1.kept hq, h.2.2.2.2.2.kept hq⟩
theorem SF.narrow {a v N : Nat} {f : Nat → Value} {A B : Nat → Prop} {U : State} {H : Heap} (h : SF a v N f A U H) (hAB : ∀ q, B q → A q) : SF a v N f B U H := ⟨h.1.narrow hAB, h.2.1.narrow hAB, h.2.2.1.narrow hAB, h.2.2.2.1.narrow hAB, h.2.2.2.2.1.narrow hAB, h.2.2.2.2.2.narrow hAB⟩
theorem SF.blind {a v N sz : Nat} {f : Nat → Value} {As : List Value} : FrameBlind (va_Pc As (fun U => U.heap.size = sz ∧ SF a v N f (NW sz) U U.heap)) := fun b U g mk q => ⟨q.1, q.2.1, SF.moved (u := U) (U := U.calling g mk b) (Vm.Alike.refl U.vm) q.2.2⟩
theorem SF.to {a v N : Nat} {f : Nat → Value} {s U : State} {H : Heap} {locs : List Loc} {As : List Value} (hS : va_S (NW s.heap.size) s.heap H locs) (h : SF a v N f (NW s.heap.size) s s.heap) (hU : U.heap = H) (hW : s.WarmedH U.vm) : va_Pc As (fun U => U.heap.size = H.size ∧ SF a v N f (NW H.size) U U.heap) As.toArray U := ⟨rfl, by rw [hU], by rw [hU]; exact ((h.kept hS.2.1).narrow (fun q z => Nat.le_trans hS.1 z)).moved hW.alike⟩
theorem SF.recv {a v N : Nat} {f : Nat → Value} {s : State} {H : Heap} {locs : List Loc} {A : Nat → Prop} (hS : va_S A s.heap H locs) (h : SF a v N f A s s.heap) : ∃ cell : Cell, H[a]? = some cell ∧ cell.vm.isStatics = false ∧ s.vm.findClass "java/lang/String" = some cell.cls := by
  obtain ⟨cell, h1, h2, h3, -⟩ := h.1.kept hS.2.1
  exact ⟨cell, h1, h2, h3⟩
theorem nw_to {A : Nat → Prop} {H0 H : Heap} {locs : List Loc} (hS : va_S (NW H0.size) H0 H locs) : ∀ q, NW H.size q → NW H0.size q := fun q z => Nat.le_trans hS.1 z
set_option maxHeartbeats 4000000 in
set_option maxRecDepth 100000 in
theorem st_coder (l : Launch) (a v N sz : Nat) (f : Nat → Value) : Met l yJ0_coder_7d493 (Jvm.Cond.code yJ0_coder_7d493 cJ0_coder_7d493 1 (some .byte) :: am_B) { frames := 0, cells := 0, slots := 0, locals := 0 } (va_Pc [.ref a] (fun U => U.heap.size = sz ∧ SF a v N f (NW sz) U U.heap)) (va_Qi (fun (r : Int32) (_ : Unit) => r = 0) (fun _ _ => True) (NW sz)) 0 0 (NW sz) := by
  refine Met.ofW (cc := cJ0_coder_7d493) (maxL := 1) (ret := (some .byte)) (by decide) rfl ?_
  intro p e s m args below meth c s₁ B hml hv
  obtain ⟨rfl, hsz, hF⟩ := hv
  have hx := B.exec
  have hb := B.bytes
  have hr := B.returns
  have hts := atoms_spec (ws := Jvm.Cond.code yJ0_coder_7d493 cJ0_coder_7d493 1 (some .byte) :: am_B) B.pre
  have hown : s.vm.findClass yJ0_coder_7d493.cls = some m.cls := findClass_of_methodNamed B.named
  have hlocks := B.notSynchronized
  subst hsz
  have hS : va_S (NW s.heap.size) s.heap s.heap [] := va_S.rf
  have hl := lv_entry ([.ref a]) (n := 1) (Nat.le_of_ble_eq_true rfl)
  rw [lg_entry_eq]
  generalize (lg_sl ([.ref a]) ++ List.replicate (1 - (lg_sl ([.ref a])).length) Slot.unset).toArray = ls at hl ⊢
  have hl : lv_has ls 1 [(0, .ref a)] := hl
  refine va_gets hx hb hF.2.2.2.2.1 hS hown (hts _ (List.mem_cons_of_mem _ wd_0)) (fun _ h => h) dJ0_coder_7d493_0 ?_
  refine lv_if_eq (tgt := 13) hx hb dJ0_coder_7d493_3 (by decide) (fun h => absurd h (by decide)) (fun _ => ?_)
  refine lv_aload_n hx hb dJ0_coder_7d493_6 rfl (lv_at hl 0 rfl) ?_
  refine vk_getf hx hb hF.2.1 hS hown (hts _ (List.mem_cons_of_mem _ wd_1)) (fun _ h => h) dJ0_coder_7d493_7 ?_
  refine lv_goto (tgt := 14) hx hb dJ0_coder_7d493_10 (by decide) ?_
  exact W.zret (v := 0) (ty := .byte) hx hb hr rfl (fun t ht hW => ⟨⟨0, (), rfl, rfl, trivial⟩, hS.F ht⟩) hS.2.2 dJ0_coder_7d493_14
set_option maxHeartbeats 4000000 in
set_option maxRecDepth 100000 in
theorem st_isL (l : Launch) (a v N sz : Nat) (f : Nat → Value) : Met l yJ0_isLatin1_aae02 (Jvm.Cond.code yJ0_isLatin1_aae02 cJ0_isLatin1_aae02 1 (some .boolean) :: am_B) { frames := 0, cells := 0, slots := 0, locals := 0 } (va_Pc [.ref a] (fun U => U.heap.size = sz ∧ SF a v N f (NW sz) U U.heap)) (va_Qi (fun (r : Int32) (_ : Unit) => r = 1) (fun _ _ => True) (NW sz)) 0 0 (NW sz) := by
  refine Met.ofW (cc := cJ0_isLatin1_aae02) (maxL := 1) (ret := (some .boolean)) (by decide) rfl ?_
  intro p e s m args below meth c s₁ B hml hv
  obtain ⟨rfl, hsz, hF⟩ := hv
  have hx := B.exec
  have hb := B.bytes
  have hr := B.returns
  have hts := atoms_spec (ws := Jvm.Cond.code yJ0_isLatin1_aae02 cJ0_isLatin1_aae02 1 (some .boolean) :: am_B) B.pre
  have hown : s.vm.findClass yJ0_isLatin1_aae02.cls = some m.cls := findClass_of_methodNamed B.named
  have hlocks := B.notSynchronized
  subst hsz
  have hS : va_S (NW s.heap.size) s.heap s.heap [] := va_S.rf
  have hl := lv_entry ([.ref a]) (n := 1) (Nat.le_of_ble_eq_true rfl)
  rw [lg_entry_eq]
  generalize (lg_sl ([.ref a]) ++ List.replicate (1 - (lg_sl ([.ref a])).length) Slot.unset).toArray = ls at hl ⊢
  have hl : lv_has ls 1 [(0, .ref a)] := hl
  refine va_gets hx hb hF.2.2.2.2.1 hS hown (hts _ (List.mem_cons_of_mem _ wd_0)) (fun _ h => h) dJ0_isLatin1_aae02_0 ?_
  refine lv_if_eq (tgt := 17) hx hb dJ0_isLatin1_aae02_3 (by decide) (fun h => absurd h (by decide)) (fun _ => ?_)
  refine lv_aload_n hx hb dJ0_isLatin1_aae02_6 rfl (lv_at hl 0 rfl) ?_
  refine vk_getf hx hb hF.2.1 hS hown (hts _ (List.mem_cons_of_mem _ wd_1)) (fun _ h => h) dJ0_isLatin1_aae02_7 ?_
  refine lv_if_ne (tgt := 17) hx hb dJ0_isLatin1_aae02_10 (by decide) (fun h => absurd rfl h) (fun _ => ?_)
  refine lv_iconst (v := 1) hx hb dJ0_isLatin1_aae02_13 (by decide) ?_
  refine lv_goto (tgt := 18) hx hb dJ0_isLatin1_aae02_14 (by decide) ?_
  exact W.zret (v := 1) (ty := .boolean) hx hb hr rfl (fun t ht hW => ⟨⟨1, (), rfl, rfl, trivial⟩, hS.F ht⟩) hS.2.2 dJ0_isLatin1_aae02_18
set_option maxHeartbeats 4000000 in
set_option maxRecDepth 100000 in
theorem st_pcN (l : Launch) (a v N sz : Nat) (f : Nat → Value) (x : Int32) (hi : vp_in x N) (hN : N < 2 ^ 31) : Met l yJ3_checkIndex_8e157 (Jvm.Cond.code yJ3_checkIndex_8e157 cJ3_checkIndex_8e157 3 (some .int) :: am_B) { frames := 0, cells := 0, slots := 0, locals := 0 } (va_Pc [.int x, .int (nI N), .null] (fun U => U.heap.size = sz ∧ SF a v N f (NW sz) U U.heap)) (va_Qi (fun (r : Int32) (_ : Unit) => True) (fun _ _ => True) (NW sz)) 0 0 (NW sz) := by
  refine Met.ofW (cc := cJ3_checkIndex_8e157) (maxL := 3) (ret := (some .int)) (by decide) rfl ?_
  intro p e s m args below meth c s₁ B hml hv
  obtain ⟨rfl, hsz, hF⟩ := hv
  have hx := B.exec
  have hb := B.bytes
  have hr := B.returns
  have hts := atoms_spec (ws := Jvm.Cond.code yJ3_checkIndex_8e157 cJ3_checkIndex_8e157 3 (some .int) :: am_B) B.pre
  have hown : s.vm.findClass yJ3_checkIndex_8e157.cls = some m.cls := findClass_of_methodNamed B.named
  have hlocks := B.notSynchronized
  subst hsz
  have hS : va_S (NW s.heap.size) s.heap s.heap [] := va_S.rf
  have hl := lv_entry ([.int x, .int (nI N), .null]) (n := 3) (Nat.le_of_ble_eq_true rfl)
  rw [lg_entry_eq]
  generalize (lg_sl ([.int x, .int (nI N), .null]) ++ List.replicate (3 - (lg_sl ([.int x, .int (nI N), .null])).length) Slot.unset).toArray = ls at hl ⊢
  have hl : lv_has ls 3 [(0, .int x), (1, .int (nI N)), (2, .null)] := hl
  obtain ⟨k, hk, rfl⟩ : ∃ k : Nat, k < N ∧ x = nI k := by
    obtain ⟨k, hk, rfl⟩ := nI_of (fun q => hi (Or.inl q))
    refine ⟨k, ?_, rfl⟩
    rcases Nat.lt_or_ge k N with q | q
    · exact q
    · exact absurd (Or.inr (by rw [nI_clamp hk]; exact q)) hi
  refine lv_iload_n hx hb dJ3_checkIndex_8e157_0 rfl (lv_at hl 0 rfl) ?_
  refine lv_if_lt (tgt := 9) hx hb dJ3_checkIndex_8e157_1 (by decide) (fun h => absurd h (nI_pos (by omega))) (fun _ => ?_)
  refine lv_iload_n hx hb dJ3_checkIndex_8e157_4 rfl (lv_at hl 0 rfl) ?_
  refine lv_iload_n hx hb dJ3_checkIndex_8e157_5 rfl (lv_at hl 1 rfl) ?_
  refine lv_icmp_lt (tgt := 16) hx hb dJ3_checkIndex_8e157_6 (by decide) (fun _ => ?_) (fun h => absurd (nI_lt hk hN) h)
  refine lv_iload_n hx hb dJ3_checkIndex_8e157_16 rfl (lv_at hl 0 rfl) ?_
  exact W.iret (v := nI k) hx hb hr (fun t ht hW => ⟨⟨nI k, (), rfl, trivial, trivial⟩, hS.F ht⟩) hS.2.2 dJ3_checkIndex_8e157_17
set_option maxHeartbeats 4000000 in
set_option maxRecDepth 100000 in
theorem st_pcR (l : Launch) (a v N sz : Nat) (f : Nat → Value) (g : Nat) (x : Int32) (hi : vp_in x N) (hN : N < 2 ^ 31) : Met l yJ3_checkIndex_8e157 (Jvm.Cond.code yJ3_checkIndex_8e157 cJ3_checkIndex_8e157 3 (some .int) :: am_B) { frames := 0, cells := 0, slots := 0, locals := 0 } (va_Pc [.int x, .int (nI N), .ref g] (fun U => U.heap.size = sz ∧ SF a v N f (NW sz) U U.heap)) (va_Qi (fun (r : Int32) (_ : Unit) => True) (fun _ _ => True) (NW sz)) 0 0 (NW sz) := by
  refine Met.ofW (cc := cJ3_checkIndex_8e157) (maxL := 3) (ret := (some .int)) (by decide) rfl ?_
  intro p e s m args below meth c s₁ B hml hv
  obtain ⟨rfl, hsz, hF⟩ := hv
  have hx := B.exec
  have hb := B.bytes
  have hr := B.returns
  have hts := atoms_spec (ws := Jvm.Cond.code yJ3_checkIndex_8e157 cJ3_checkIndex_8e157 3 (some .int) :: am_B) B.pre
  have hown : s.vm.findClass yJ3_checkIndex_8e157.cls = some m.cls := findClass_of_methodNamed B.named
  have hlocks := B.notSynchronized
  subst hsz
  have hS : va_S (NW s.heap.size) s.heap s.heap [] := va_S.rf
  have hl := lv_entry ([.int x, .int (nI N), .ref g]) (n := 3) (Nat.le_of_ble_eq_true rfl)
  rw [lg_entry_eq]
  generalize (lg_sl ([.int x, .int (nI N), .ref g]) ++ List.replicate (3 - (lg_sl ([.int x, .int (nI N), .ref g])).length) Slot.unset).toArray = ls at hl ⊢
  have hl : lv_has ls 3 [(0, .int x), (1, .int (nI N)), (2, .ref g)] := hl
  obtain ⟨k, hk, rfl⟩ : ∃ k : Nat, k < N ∧ x = nI k := by
    obtain ⟨k, hk, rfl⟩ := nI_of (fun q => hi (Or.inl q))
    refine ⟨k, ?_, rfl⟩
    rcases Nat.lt_or_ge k N with q | q
    · exact q
    · exact absurd (Or.inr (by rw [nI_clamp hk]; exact q)) hi
  refine lv_iload_n hx hb dJ3_checkIndex_8e157_0 rfl (lv_at hl 0 rfl) ?_
  refine lv_if_lt (tgt := 9) hx hb dJ3_checkIndex_8e157_1 (by decide) (fun h => absurd h (nI_pos (by omega))) (fun _ => ?_)
  refine lv_iload_n hx hb dJ3_checkIndex_8e157_4 rfl (lv_at hl 0 rfl) ?_
  refine lv_iload_n hx hb dJ3_checkIndex_8e157_5 rfl (lv_at hl 1 rfl) ?_
  refine lv_icmp_lt (tgt := 16) hx hb dJ3_checkIndex_8e157_6 (by decide) (fun _ => ?_) (fun h => absurd (nI_lt hk hN) h)
  refine lv_iload_n hx hb dJ3_checkIndex_8e157_16 rfl (lv_at hl 0 rfl) ?_
  exact W.iret (v := nI k) hx hb hr (fun t ht hW => ⟨⟨nI k, (), rfl, trivial, trivial⟩, hS.F ht⟩) hS.2.2 dJ3_checkIndex_8e157_17
set_option maxHeartbeats 4000000 in
set_option maxRecDepth 100000 in
theorem st_chk (l : Launch) (a v N sz : Nat) (f : Nat → Value) (x : Int32) (hi : vp_in x N) (hN : N < 2 ^ 31) : Met l yJ0_checkIndex_df160 (Jvm.Cond.code yJ0_checkIndex_df160 cJ0_checkIndex_df160 2 none :: am_B) { frames := 1, cells := 0, slots := 0, locals := 22 } (va_Pc [.int x, .int (nI N)] (fun U => U.heap.size = sz ∧ SF a v N f (NW sz) U U.heap)) (va_Qv (fun (_ : Unit) => True) (fun _ _ => True) (NW sz)) 0 0 (NW sz) := by
  refine Met.ofW (cc := cJ0_checkIndex_df160) (maxL := 2) (ret := none) (by decide) rfl ?_
  intro p e s m args below meth c s₁ B hml hv
  obtain ⟨rfl, hsz, hF⟩ := hv
  have hx := B.exec
  have hb := B.bytes
  have hr := B.returns
  have hts := atoms_spec (ws := Jvm.Cond.code yJ0_checkIndex_df160 cJ0_checkIndex_df160 2 none :: am_B) B.pre
  have hown : s.vm.findClass yJ0_checkIndex_df160.cls = some m.cls := findClass_of_methodNamed B.named
  have hlocks := B.notSynchronized
  subst hsz
  have hS : va_S (NW s.heap.size) s.heap s.heap [] := va_S.rf
  have hl := lv_entry ([.int x, .int (nI N)]) (n := 2) (Nat.le_of_ble_eq_true rfl)
  rw [lg_entry_eq]
  generalize (lg_sl ([.int x, .int (nI N)]) ++ List.replicate (2 - (lg_sl ([.int x, .int (nI N)])).length) Slot.unset).toArray = ls at hl ⊢
  have hl : lv_has ls 2 [(0, .int x), (1, .int (nI N))] := hl
  refine lv_iload_n hx hb dJ0_checkIndex_df160_0 rfl (lv_at hl 0 rfl) ?_
  refine lv_iload_n hx hb dJ0_checkIndex_df160_1 rfl (lv_at hl 1 rfl) ?_
  rcases hF.2.2.2.2.2 with hq | ⟨g, hq⟩
  · refine va_gets hx hb hq hS hown (hts _ (List.mem_cons_of_mem _ wd_3)) (fun _ h => h) dJ0_checkIndex_df160_2 ?_
    refine va_calli (va_runS (As := [.int x, .int (nI N), .null]) (rest := []) ⟨hx, hb, hml, hown, hts⟩ (st_pcN l a v N s.heap.size f x hi hN) (va_cwS 3 hts (am_gS wd_4 wd_5 wd_6 wd_7) rfl rfl rfl (by decide +kernel) ⟨Nat.le_of_ble_eq_true rfl, Nat.le_of_ble_eq_true rfl⟩) ⟨SF.blind, fun U hU hW => SF.to hS hF hU hW⟩ rfl rfl hl.1 rfl (lv_room (Nat.le_of_ble_eq_true rfl)) dJ0_checkIndex_df160_5 ⟨Nat.le_refl _, Nat.le_refl _⟩) hS (fun q _ h => h) (fun q h => h) (fun r u t H locs ht hvm hw hB hz1 hk1 hS => ?_)
    refine lv_pop hx hb dJ0_checkIndex_df160_8 rfl ?_
    exact W.vret hx hb hr (fun t ht hW => ⟨⟨(), rfl, trivial, trivial⟩, hS.F ht⟩) hS.2.2 dJ0_checkIndex_df160_9
  · refine va_gets hx hb hq hS hown (hts _ (List.mem_cons_of_mem _ wd_3)) (fun _ h => h) dJ0_checkIndex_df160_2 ?_
    refine va_calli (va_runS (As := [.int x, .int (nI N), .ref g]) (rest := []) ⟨hx, hb, hml, hown, hts⟩ (st_pcR l a v N s.heap.size f g x hi hN) (va_cwS 3 hts (am_gS wd_4 wd_5 wd_6 wd_7) rfl rfl rfl (by decide +kernel) ⟨Nat.le_of_ble_eq_true rfl, Nat.le_of_ble_eq_true rfl⟩) ⟨SF.blind, fun U hU hW => SF.to hS hF hU hW⟩ rfl rfl hl.1 rfl (lv_room (Nat.le_of_ble_eq_true rfl)) dJ0_checkIndex_df160_5 ⟨Nat.le_refl _, Nat.le_refl _⟩) hS (fun q _ h => h) (fun q h => h) (fun r u t H locs ht hvm hw hB hz1 hk1 hS => ?_)
    refine lv_pop hx hb dJ0_checkIndex_df160_8 rfl ?_
    exact W.vret hx hb hr (fun t ht hW => ⟨⟨(), rfl, trivial, trivial⟩, hS.F ht⟩) hS.2.2 dJ0_checkIndex_df160_9
set_option maxHeartbeats 4000000 in
set_option maxRecDepth 100000 in
theorem st_l1c (l : Launch) (a v N sz : Nat) (f : Nat → Value) (x : Int32) (y : Int32) (hi : vp_in x N) (hN : N < 2 ^ 31) (hy : f x.toNatClampNeg = .int y) : Met l yJ1_charAt_3b067 (Jvm.Cond.code yJ1_charAt_3b067 cJ1_charAt_3b067 2 (some .char) :: am_B) { frames := 2, cells := 0, slots := 0, locals := 43 } (va_Pc [.ref v, .int x] (fun U => U.heap.size = sz ∧ SF a v N f (NW sz) U U.heap)) (va_Qi (fun (r : Int32) (_ : Unit) => r = ((y &&& 255).toUInt32 % 65536).toInt32) (fun _ _ => True) (NW sz)) 0 0 (NW sz) := by
  refine Met.ofW (cc := cJ1_charAt_3b067) (maxL := 2) (ret := (some .char)) (by decide) rfl ?_
  intro p e s m args below meth c s₁ B hml hv
  obtain ⟨rfl, hsz, hF⟩ := hv
  have hx := B.exec
  have hb := B.bytes
  have hr := B.returns
  have hts := atoms_spec (ws := Jvm.Cond.code yJ1_charAt_3b067 cJ1_charAt_3b067 2 (some .char) :: am_B) B.pre
  have hown : s.vm.findClass yJ1_charAt_3b067.cls = some m.cls := findClass_of_methodNamed B.named
  have hlocks := B.notSynchronized
  subst hsz
  have hS : va_S (NW s.heap.size) s.heap s.heap [] := va_S.rf
  have hl := lv_entry ([.ref v, .int x]) (n := 2) (Nat.le_of_ble_eq_true rfl)
  rw [lg_entry_eq]
  generalize (lg_sl ([.ref v, .int x]) ++ List.replicate (2 - (lg_sl ([.ref v, .int x])).length) Slot.unset).toArray = ls at hl ⊢
  have hl : lv_has ls 2 [(0, .ref v), (1, .int x)] := hl
  refine lv_iload_n hx hb dJ1_charAt_3b067_0 rfl (lv_at hl 1 rfl) ?_
  refine lv_aload_n hx hb dJ1_charAt_3b067_1 rfl (lv_at hl 0 rfl) ?_
  refine va_tlen hx hb hF.2.2.2.1 hS (v := nI N) rfl dJ1_charAt_3b067_2 ?_
  refine va_callv (va_runS (As := [.int x, .int (nI N)]) (rest := []) ⟨hx, hb, hml, hown, hts⟩ (st_chk l a v N s.heap.size f x hi hN) (va_cwS 2 hts (am_gS wd_8 wd_9 wd_10 wd_11) rfl rfl rfl (by decide +kernel) ⟨Nat.le_of_ble_eq_true rfl, Nat.le_of_ble_eq_true rfl⟩) ⟨SF.blind, fun U hU hW => SF.to hS hF hU hW⟩ rfl rfl hl.1 rfl (lv_room (Nat.le_of_ble_eq_true rfl)) dJ1_charAt_3b067_3 ⟨Nat.le_refl _, Nat.le_refl _⟩) hS (fun q _ h => h) (fun q h => h) (fun u t H locs ht hvm hw hB hz1 hk1 hS => ?_)
  refine lv_aload_n hx hb dJ1_charAt_3b067_6 rfl (lv_at hl 0 rfl) ?_
  refine lv_iload_n hx hb dJ1_charAt_3b067_7 rfl (lv_at hl 1 rfl) ?_
  refine va_tb hx hb hF.2.2.2.1 hS hi (v := .int y) hy dJ1_charAt_3b067_8 ?_
  refine lv_sipush (v := 255) hx hb dJ1_charAt_3b067_9 (by decide) ?_
  refine lv_iand hx hb dJ1_charAt_3b067_12 ?_
  refine lv_i2c hx hb dJ1_charAt_3b067_13 rfl ?_
  exact W.zret (v := ((y &&& 255).toUInt32 % 65536).toInt32) (ty := .char) hx hb hr (pk_nc _) (fun t ht hW => ⟨⟨_, (), rfl, rfl, trivial⟩, hS.F ht⟩) hS.2.2 dJ1_charAt_3b067_14
set_option maxHeartbeats 4000000 in
set_option maxRecDepth 100000 in
theorem st_chr (l : Launch) (a v N sz : Nat) (f : Nat → Value) (x : Int32) (y : Int32) (hi : vp_in x N) (hN : N < 2 ^ 31) (hy : f x.toNatClampNeg = .int y) : Met l yJ0_charAt_5068e (Jvm.Cond.code yJ0_charAt_5068e cJ0_charAt_5068e 2 (some .char) :: am_B) { frames := 3, cells := 0, slots := 0, locals := 64 } (va_Pc [.ref a, .int x] (fun U => U.heap.size = sz ∧ SF a v N f (NW sz) U U.heap)) (va_Qi (fun (r : Int32) (_ : Unit) => r = ((y &&& 255).toUInt32 % 65536).toInt32) (fun _ _ => True) (NW sz)) 0 0 (NW sz) := by
  refine Met.ofW (cc := cJ0_charAt_5068e) (maxL := 2) (ret := (some .char)) (by decide) rfl ?_
  intro p e s m args below meth c s₁ B hml hv
  obtain ⟨rfl, hsz, hF⟩ := hv
  have hx := B.exec
  have hb := B.bytes
  have hr := B.returns
  have hts := atoms_spec (ws := Jvm.Cond.code yJ0_charAt_5068e cJ0_charAt_5068e 2 (some .char) :: am_B) B.pre
  have hown : s.vm.findClass yJ0_charAt_5068e.cls = some m.cls := findClass_of_methodNamed B.named
  have hlocks := B.notSynchronized
  subst hsz
  have hS : va_S (NW s.heap.size) s.heap s.heap [] := va_S.rf
  have hl := lv_entry ([.ref a, .int x]) (n := 2) (Nat.le_of_ble_eq_true rfl)
  rw [lg_entry_eq]
  generalize (lg_sl ([.ref a, .int x]) ++ List.replicate (2 - (lg_sl ([.ref a, .int x])).length) Slot.unset).toArray = ls at hl ⊢
  have hl : lv_has ls 2 [(0, .ref a), (1, .int x)] := hl
  refine lv_aload_n hx hb dJ0_charAt_5068e_0 rfl (lv_at hl 0 rfl) ?_
  refine va_calli (va_runV (C := RJ0) (b := a) (As := []) (rest := []) ⟨hx, hb, hml, hown, hts⟩ (st_isL l a v N s.heap.size f) (cwV 0 hts (am_gV wd_12 wd_13 wd_14 wd_10 wd_15) rfl rfl rfl (by decide +kernel) ⟨Nat.le_of_ble_eq_true rfl, Nat.le_of_ble_eq_true rfl⟩) ⟨SF.blind, SF.recv hS hF, fun U hU hW => SF.to hS hF hU hW⟩ rfl rfl hl.1 rfl (lv_room (Nat.le_of_ble_eq_true rfl)) dJ0_charAt_5068e_1 ⟨Nat.le_refl _, Nat.le_refl _⟩) hS (fun q _ h => h) (fun q h => h) (fun r u t H locs ht hvm hw hB hz1 hk1 hS => ?_)
  rw [hw]
  refine lv_if_eq (tgt := 16) hx hb dJ0_charAt_5068e_4 (by decide) (fun h => absurd h (by decide)) (fun _ => ?_)
  refine lv_aload_n hx hb dJ0_charAt_5068e_7 rfl (lv_at hl 0 rfl) ?_
  refine vk_getf hx hb hF.2.2.1 hS hown (hts _ (List.mem_cons_of_mem _ wd_2)) (fun _ h => h) dJ0_charAt_5068e_8 ?_
  refine lv_iload_n hx hb dJ0_charAt_5068e_11 rfl (lv_at hl 1 rfl) ?_
  refine va_calli (va_runS (As := [.ref v, .int x]) (rest := []) ⟨hx, hb, hml, hown, hts⟩ (st_l1c l a v N H.size f x y hi hN hy) (va_cwS 2 hts (am_gS wd_16 wd_17 wd_18 wd_19) rfl rfl rfl (by decide +kernel) ⟨Nat.le_of_ble_eq_true rfl, Nat.le_of_ble_eq_true rfl⟩) ⟨SF.blind, fun U hU hW => SF.to hS hF hU hW⟩ rfl rfl hl.1 rfl (lv_room (Nat.le_of_ble_eq_true rfl)) dJ0_charAt_5068e_12 ⟨Nat.le_refl _, Nat.le_refl _⟩) hS (fun q _ h => Nat.le_trans hS.1 h) (fun q h => Nat.le_trans hS.1 h) (fun r u t H locs ht hvm hw hB hz1 hk1 hS => ?_)
  rw [hw]
  exact W.zret (v := ((y &&& 255).toUInt32 % 65536).toInt32) (ty := .char) hx hb hr (pk_nc _) (fun t ht hW => ⟨⟨_, (), rfl, rfl, trivial⟩, hS.F ht⟩) hS.2.2 dJ0_charAt_5068e_15
set_option maxHeartbeats 4000000 in
set_option maxRecDepth 100000 in
theorem st_len (l : Launch) (a v N sz : Nat) (f : Nat → Value) (hN : N < 2 ^ 31) : Met l yJ0_length_8abf5 (Jvm.Cond.code yJ0_length_8abf5 cJ0_length_8abf5 1 (some .int) :: am_B) { frames := 1, cells := 0, slots := 0, locals := 20 } (va_Pc [.ref a] (fun U => U.heap.size = sz ∧ SF a v N f (NW sz) U U.heap)) (va_Qi (fun (r : Int32) (_ : Unit) => r = nI N) (fun _ _ => True) (NW sz)) 0 0 (NW sz) := by
  refine Met.ofW (cc := cJ0_length_8abf5) (maxL := 1) (ret := (some .int)) (by decide) rfl ?_
  intro p e s m args below meth c s₁ B hml hv
  obtain ⟨rfl, hsz, hF⟩ := hv
  have hx := B.exec
  have hb := B.bytes
  have hr := B.returns
  have hts := atoms_spec (ws := Jvm.Cond.code yJ0_length_8abf5 cJ0_length_8abf5 1 (some .int) :: am_B) B.pre
  have hown : s.vm.findClass yJ0_length_8abf5.cls = some m.cls := findClass_of_methodNamed B.named
  have hlocks := B.notSynchronized
  subst hsz
  have hS : va_S (NW s.heap.size) s.heap s.heap [] := va_S.rf
  have hl := lv_entry ([.ref a]) (n := 1) (Nat.le_of_ble_eq_true rfl)
  rw [lg_entry_eq]
  generalize (lg_sl ([.ref a]) ++ List.replicate (1 - (lg_sl ([.ref a])).length) Slot.unset).toArray = ls at hl ⊢
  have hl : lv_has ls 1 [(0, .ref a)] := hl
  refine lv_aload_n hx hb dJ0_length_8abf5_0 rfl (lv_at hl 0 rfl) ?_
  refine vk_getf hx hb hF.2.2.1 hS hown (hts _ (List.mem_cons_of_mem _ wd_2)) (fun _ h => h) dJ0_length_8abf5_1 ?_
  refine va_tlen hx hb hF.2.2.2.1 hS (v := nI N) rfl dJ0_length_8abf5_4 ?_
  refine lv_aload_n hx hb dJ0_length_8abf5_5 rfl (lv_at hl 0 rfl) ?_
  refine va_calli (va_runV (C := RJ0) (b := a) (As := []) (rest := [.int (nI N)]) ⟨hx, hb, hml, hown, hts⟩ (st_coder l a v N s.heap.size f) (cwV 0 hts (am_gV wd_20 wd_21 wd_22 wd_10 wd_23) rfl rfl rfl (by decide +kernel) ⟨Nat.le_of_ble_eq_true rfl, Nat.le_of_ble_eq_true rfl⟩) ⟨SF.blind, SF.recv hS hF, fun U hU hW => SF.to hS hF hU hW⟩ rfl rfl hl.1 rfl (lv_room (Nat.le_of_ble_eq_true rfl)) dJ0_length_8abf5_6 ⟨Nat.le_refl _, Nat.le_refl _⟩) hS (fun q _ h => h) (fun q h => h) (fun r u t H locs ht hvm hw hB hz1 hk1 hS => ?_)
  rw [hw]
  refine lv_ishr hx hb dJ0_length_8abf5_9 ?_
  have e0 : nI N >>> ((0 : Int32) &&& 31) = nI N := by
    have := q_shr (S := N) (p := 0) hN (by decide)
    rw [Nat.pow_zero, Nat.div_one] at this
    exact this
  rw [e0]
  exact W.iret (v := nI N) hx hb hr (fun t ht hW => ⟨⟨_, (), rfl, rfl, trivial⟩, hS.F ht⟩) hS.2.2 dJ0_length_8abf5_10
theorem am_keep {dC : Nat → ClassId} {dI : Nat → Nat → Nat} {cl : List vw_C} {ws : va_W} {H H1 : Heap} (hP : va_P (dC, dI) cl ws H) (hk : ∀ q : Nat, q < H.size → ¬ NW H.size q → H1[q]? = H[q]?) : va_P (dC, dI) cl ws H1 := fun k q hq => (hP k q hq).kept (hk q.1 (hP k q hq).lt (Nat.not_le.mpr (hP k q hq).lt))
theorem am_SF {ad : Nat → Nat → Nat} {adV : Nat → Nat} {A : Nat → Prop} {U : State} {H : Heap} {i : Nat} (hi : i < 8) (h : am_Xs ad adV A U H) : SF (ad 40 i) (adV i) (am_sln.getD i 0) (fun j => .int ((am_sby.getD i []).getD j 0)) A U H := ⟨(h.1.1 i hi).1, (h.1.1 i hi).2.1, (h.1.1 i hi).2.2.1, (h.1.1 i hi).2.2.2, h.2.2.1, h.2.2.2.1⟩
theorem am_st8 : ∀ i, i < 8 → am_sln.getD i 0 = (am_str i).length ∧ am_sby.getD i [] = am_str i ∧ (am_str i).length < 100 ∧ ∀ j, j < (am_str i).length → (((am_str i).getD j 0 &&& 255).toUInt32 % 65536).toInt32 = (am_str i).getD j 0 := by decide +kernel
theorem am_Xto {ad : Nat → Nat → Nat} {adV : Nat → Nat} {s U : State} {H : Heap} {locs : List Loc} {i : Nat} {As : List Value} (hi : i < 8) (hX : am_Xs ad adV (am_A ad s.heap.size) s s.heap) (hS : va_S (am_A ad s.heap.size) s.heap H locs) (hU : U.heap = H) (hW : s.WarmedH U.vm) : va_Pc As (fun U => U.heap.size = H.size ∧ SF (ad 40 i) (adV i) (am_sln.getD i 0) (fun j => .int ((am_sby.getD i []).getD j 0)) (NW H.size) U U.heap) As.toArray U := by
  refine ⟨rfl, by rw [hU], ?_⟩
  rw [hU]
  exact ((am_SF hi hX).kept hS.2.1).narrow (fun q z => Or.inr (Nat.le_trans hS.1 z)) |>.moved hW.alike
set_option maxHeartbeats 4000000 in
set_option maxRecDepth 100000 in
theorem am_cal_len {R : Room} {a : Jvm.Cond} (hR : 2 ≤ R.frames ∧ 8 + 12 + 20 ≤ R.locals) : am_Cal vwCl yX5_hasWord.cls (a :: am_B) R 19 1 (some 99) s_len := by
  intro p l e s m args below meth c Q dC dI dA ad adV nL cc hx hb hml hown hts hK hD hX pc ls as rest σ hn hcat hrcv hdec hf
  unfold s_len at hf
  split at hf
  · rename_i i
    intro H locs arr hR0
    obtain ⟨hH, hv1, hv2, hP, hS⟩ := id hR0
    have hi : i < 8 := hv2 (.inr (.inr (40, i))) (by simp)
    obtain ⟨e1, e2, e3, e4⟩ := am_st8 i hi
    refine va_calli (A0 := am_A ad s.heap.size) (H0 := s.heap) (va_runV (C := RJ0) (b := ad 40 i) (As := []) (rest := rest.map (am_c ad)) ⟨hx, hb, hml, hown, hts⟩ (st_len l (ad 40 i) (adV i) (am_sln.getD i 0) H.size (fun j => .int ((am_sby.getD i []).getD j 0)) (by rw [e1]; omega)) (cwV 0 hts (am_gV wd_24 wd_25 wd_26 wd_10 wd_27) rfl rfl rfl (by decide +kernel) ⟨hR.1, hR.2⟩) ⟨SF.blind, SF.recv hS (am_SF hi hX), fun U hU hW => am_Xto hi hX hS hU hW⟩ rfl rfl hH.1.1 rfl (lv_room (by rw [am_cat_map]; exact hcat)) hdec ⟨Nat.zero_le _, Nat.zero_le _⟩) hS (fun q _ h => Or.inr (Nat.le_trans hS.1 h)) (fun q h => Or.inr (Nat.le_trans hS.1 h)) (fun r u t H1 locs1 ht hvm hw hB hz1 hk1 hS1 => ?_)
    rw [hw, e1]
    exact hf H1 locs1 arr ⟨hH, hv1, fun v hv => (List.mem_cons.mp hv).elim (fun z => by rw [z]; trivial) (fun z => hv2 v (List.mem_append_right _ z)), am_keep hP hk1, hS1⟩
  · exact hf.elim
set_option maxHeartbeats 4000000 in
set_option maxRecDepth 100000 in
theorem am_cal_chr {R : Room} {a : Jvm.Cond} (hR : 4 ≤ R.frames ∧ 8 + 13 + 64 ≤ R.locals) : am_Cal vwCl yX5_hasWord.cls (a :: am_B) R 28 2 (some 99) s_chr := by
  intro p l e s m args below meth c Q dC dI dA ad adV nL cc hx hb hml hown hts hK hD hX pc ls as rest σ hn hcat hrcv hdec hf
  unfold s_chr at hf
  split at hf
  · rename_i i x
    obtain ⟨hin, hf⟩ := hf
    intro H locs arr hR0
    obtain ⟨hH, hv1, hv2, hP, hS⟩ := id hR0
    have hi : i < 8 := hv2 (.inr (.inr (40, i))) (by simp)
    obtain ⟨e1, e2, e3, e4⟩ := am_st8 i hi
    refine va_calli (A0 := am_A ad s.heap.size) (H0 := s.heap) (va_runV (C := RJ0) (b := ad 40 i) (As := [.int x]) (rest := rest.map (am_c ad)) ⟨hx, hb, hml, hown, hts⟩ (st_chr l (ad 40 i) (adV i) (am_sln.getD i 0) H.size (fun j => .int ((am_sby.getD i []).getD j 0)) x ((am_str i).getD x.toNatClampNeg 0) (by rw [e1]; exact hin) (by rw [e1]; omega) (by rw [e2])) (cwV 1 hts (am_gV wd_28 wd_29 wd_30 wd_10 wd_31) rfl rfl rfl (by decide +kernel) ⟨hR.1, hR.2⟩) ⟨SF.blind, SF.recv hS (am_SF hi hX), fun U hU hW => am_Xto hi hX hS hU hW⟩ rfl rfl hH.1.1 rfl (lv_room (by rw [am_cat_map]; exact hcat)) hdec ⟨Nat.zero_le _, Nat.zero_le _⟩) hS (fun q _ h => Or.inr (Nat.le_trans hS.1 h)) (fun q h => Or.inr (Nat.le_trans hS.1 h)) (fun r u t H1 locs1 ht hvm hw hB hz1 hk1 hS1 => ?_)
    have hlt : x.toNatClampNeg < (am_str i).length := Nat.not_le.mp fun q => hin (Or.inr q)
    rw [hw, e4 _ hlt]
    exact hf H1 locs1 arr ⟨hH, hv1, fun v hv => (List.mem_cons.mp hv).elim (fun z => by rw [z]; trivial) (fun z => hv2 v (List.mem_append_right _ z)), am_keep hP hk1, hS1⟩
  · exact hf.elim
