theorem iw_0 : Jvm.Cond.methodLink RX5 3 Lib.objectInit ∈ am_B := am_inB (i := 35) (by decide +kernel) rfl
theorem iw_1 : Jvm.Cond.instanceMethod Lib.objectInit ∈ am_B := am_inB (i := 22) (by decide +kernel) rfl
theorem iw_2 : Jvm.Cond.code Lib.objectInit ⟨#[0xb1]⟩ 1 none ∈ am_B := am_inB (i := 23) (by decide +kernel) rfl
theorem iw_3 : Jvm.Cond.arrayClass .byte ∈ am_B := am_inB (i := 45) (by decide +kernel) rfl
theorem iw_4 : Jvm.Cond.methodLink RX0 3 Lib.objectInit ∈ am_B := am_inB (i := 51) (by decide +kernel) rfl
theorem iw_5 : Jvm.Cond.classLink RX0 9 "[[I" ∈ am_B := am_inB (i := 52) (by decide +kernel) rfl
theorem iw_6 : Jvm.Cond.arrayClass .int ∈ am_B := am_inB (i := 90) (by decide +kernel) rfl
theorem iw_7 : Jvm.Cond.methodLink RX1 3 Lib.objectInit ∈ am_B := am_inB (i := 29) (by decide +kernel) rfl
theorem iw_8 : Jvm.Cond.classLink RX1 9 RX5 ∈ am_B := am_inB (i := 30) (by decide +kernel) rfl
theorem iw_9 : Jvm.Cond.instantiable RX5 2 ∈ am_B := am_inB (i := 31) (by decide +kernel) rfl
theorem iw_10 : Jvm.Cond.instanceMethod yX5_init ∈ am_B := am_inB (i := 33) (by decide +kernel) rfl
theorem iw_11 : Jvm.Cond.code yX5_init cX5_init 1 none ∈ am_B := am_inB (i := 34) (by decide +kernel) rfl
theorem iw_12 : Jvm.Cond.classLink RX1 18 RX0 ∈ am_B := am_inB (i := 46) (by decide +kernel) rfl
theorem iw_13 : Jvm.Cond.instantiable RX0 7 ∈ am_B := am_inB (i := 47) (by decide +kernel) rfl
theorem iw_14 : Jvm.Cond.instanceMethod yX0_init ∈ am_B := am_inB (i := 49) (by decide +kernel) rfl
theorem iw_15 : Jvm.Cond.code yX0_init cX0_init 1 none ∈ am_B := am_inB (i := 50) (by decide +kernel) rfl
theorem iw_16 : Jvm.Cond.methodLink RX3 3 Lib.objectInit ∈ am_B := am_inB (i := 137) (by decide +kernel) rfl
theorem iw_17 : Jvm.Cond.methodLink RX2 3 Lib.objectInit ∈ am_B := am_inB (i := 162) (by decide +kernel) rfl
theorem iw_18 : Jvm.Cond.arrayClass .boolean ∈ am_B := am_inB (i := 174) (by decide +kernel) rfl
theorem iw_19 : Jvm.Cond.methodLink RX4 3 Lib.objectInit ∈ am_B := am_inB (i := 182) (by decide +kernel) rfl
theorem iw_20 : Jvm.Cond.methodLink RX7 1 Lib.objectInit ∈ am_B := am_inB (i := 725) (by decide +kernel) rfl
theorem iw_21 : Jvm.Cond.methodLink RX6 3 Lib.objectInit ∈ am_B := am_inB (i := 21) (by decide +kernel) rfl
theorem iw_22 : Jvm.Cond.classLink RX6 9 RX1 ∈ am_B := am_inB (i := 24) (by decide +kernel) rfl
theorem iw_23 : Jvm.Cond.instantiable RX1 11 ∈ am_B := am_inB (i := 25) (by decide +kernel) rfl
theorem iw_24 : Jvm.Cond.instanceMethod yX1_init ∈ am_B := am_inB (i := 27) (by decide +kernel) rfl
theorem iw_25 : Jvm.Cond.code yX1_init cX1_init 1 none ∈ am_B := am_inB (i := 28) (by decide +kernel) rfl
theorem iw_26 : Jvm.Cond.fieldLink RX6 16 (TX1 0).1 (TX1 0).2.1 (TX1 0).2.2.1 ∈ am_B := am_inB (i := 92) (by decide +kernel) rfl
theorem iw_27 : Jvm.Cond.classLink RX6 21 RX0 ∈ am_B := am_inB (i := 130) (by decide +kernel) rfl
theorem iw_28 : Jvm.Cond.classLink RX6 31 RX3 ∈ am_B := am_inB (i := 132) (by decide +kernel) rfl
theorem iw_29 : Jvm.Cond.instantiable RX3 5 ∈ am_B := am_inB (i := 133) (by decide +kernel) rfl
theorem iw_30 : Jvm.Cond.instanceMethod yX3_init ∈ am_B := am_inB (i := 135) (by decide +kernel) rfl
theorem iw_31 : Jvm.Cond.code yX3_init cX3_init 1 none ∈ am_B := am_inB (i := 136) (by decide +kernel) rfl
theorem iw_32 : Jvm.Cond.classLink RX6 38 RX2 ∈ am_B := am_inB (i := 157) (by decide +kernel) rfl
theorem iw_33 : Jvm.Cond.instantiable RX2 3 ∈ am_B := am_inB (i := 158) (by decide +kernel) rfl
theorem iw_34 : Jvm.Cond.instanceMethod yX2_init ∈ am_B := am_inB (i := 160) (by decide +kernel) rfl
theorem iw_35 : Jvm.Cond.code yX2_init cX2_init 1 none ∈ am_B := am_inB (i := 161) (by decide +kernel) rfl
theorem iw_36 : Jvm.Cond.classLink RX6 53 RX4 ∈ am_B := am_inB (i := 176) (by decide +kernel) rfl
theorem iw_37 : Jvm.Cond.instantiable RX4 4 ∈ am_B := am_inB (i := 178) (by decide +kernel) rfl
theorem iw_38 : Jvm.Cond.instanceMethod yX4_init ∈ am_B := am_inB (i := 180) (by decide +kernel) rfl
theorem iw_39 : Jvm.Cond.code yX4_init cX4_init 1 none ∈ am_B := am_inB (i := 181) (by decide +kernel) rfl
/-! the constructors: what they stand on (laid by gen/mkinit.py) -/
/-! ===== BEGIN new T[n][m]: the outer array a place, the inner ones among the pooled ===== -/
/-- f, but v at every address of l -/
def vr_up {α : Type} (f : Nat → α) (l : List Nat) (v : α) : Nat → α := fun a => if a ∈ l then v else f a
theorem vr_up_in {α : Type} {f : Nat → α} {l : List Nat} {v : α} {a : Nat} (h : a ∈ l) : vr_up f l v a = v := if_pos h
theorem vr_up_ne {α : Type} {f : Nat → α} {l : List Nat} {v : α} {a : Nat} (h : a ∉ l) : vr_up f l v a = f a := if_neg h
theorem vr_rows {L l : List Nat} {f : Nat → va_E} {e : va_E} (h : ∀ a, a ∈ l → a ∉ L) : va_pl L f ++ l.map (fun a => (a, e)) = va_pl (L ++ l) (vr_up f l e) := by
  unfold va_pl
  rw [List.map_append]
  congr 1
  · apply List.map_congr_left
    intro a ha
    rw [vr_up_ne (fun q => h a q ha)]
  · apply List.map_congr_left
    intro a ha
    rw [vr_up_in ha]
theorem vr_lay {X rows : va_W} {x : Nat × va_E} {pl : va_W} {D : va_G} {cl : List vw_C} {H : Heap} (hP : va_P D cl (((X ++ pl) ++ [x]) ++ rows) H) : va_P D cl ((X ++ [x]) ++ (pl ++ rows)) H := by
  rw [List.append_assoc (X ++ pl)] at hP
  have h := va_P.swap hP
  rw [← List.append_assoc X] at h
  have h2 := va_P.swap h
  rw [List.append_assoc (X ++ [x])] at h2
  exact h2
theorem vr_layD {X rows : va_W} {x : Nat × va_E} {pl : va_W} {A : Nat → Prop} (hD : va_D A (((X ++ pl) ++ [x]) ++ rows)) : va_D A ((X ++ [x]) ++ (pl ++ rows)) := by
  rw [List.append_assoc (X ++ pl)] at hD
  have h := va_D.swap hD
  rw [← List.append_assoc X] at h
  have h2 := va_D.swap h
  rw [List.append_assoc (X ++ [x])] at h2
  exact h2
theorem vr_outer (c : ClassId) (N h0 : Nat) : ∀ i : Nat, Jvm.Free.Multi.outerC c N h0 i = arrV c N (fun j => va_rf (if j < i then some (h0 + 1 + j) else none))
  | 0 => by
    show ({ cls := c, slots := Array.replicate N .null, vm := .none } : Cell) = _
    rw [arrV_new]
    refine congrArg (arrV c N) (funext fun j => ?_)
    simp [va_rf]
  | i + 1 => by
    show (Jvm.Free.Multi.outerC c N h0 i).setSlot i (.ref (h0 + 1 + i)) = _
    rw [vr_outer c N h0 i, arrV_store]
    refine congrArg (arrV c N) (funext fun j => ?_)
    by_cases e : j = i
    · subst e
      simp [updV, va_rf]
    · by_cases h : j < i
      · simp [updV, e, h, Nat.lt_succ_of_lt h]
      · simp [updV, e, h, show ¬ j < i + 1 by omega]
section VGM
variable {p : Program} {l : Launch} {e : Env} {R : Room} {s : State} {m : MethodId} {args : Array Value} {below : List Frame} {meth : Method} {c : Code} {H : Heap} {locs : List Loc} {cells slots : Nat} {Q : State → Prop}
variable {cc : ByteArray} {pc : Nat} {ls : Array Slot} {rest : List Value} {D : va_G} {cl : List vw_C} {A : Nat → Prop} {a : Nat} {tys : List (ClassId × FieldType)} {ws : va_W} {H0 : Heap}
theorem va_mna {X : va_W} {L : List Nat} {f : Nat → va_E} {cc : ByteArray} (hexec : p.tables.exec = Jvm.exec) (hb : c.code = cc) {own : String} {index : Nat} {ty : FieldType} {cy : ClassId} (hown : s.vm.findClass own = some m.cls) (hclink : (Cond.classLink own index ("[" ++ (FieldType.array ty).toString)).before args s = true) (hover : (Cond.arrayOver (.array ty)).before args s = true) (harr : (Cond.arrayClass ty).before args s = true) (hcy : s.vm.findClass (FieldType.array ty).toString = some cy)
    (hK : va_K D cl tys s) (hP : va_P D cl (X ++ va_pl L f) H) (hD : va_D A (X ++ va_pl L f)) (hS : va_S A H0 H locs) (hA : ∀ q, H0.size ≤ q → A q) {n k : Int32} {N' K' : Nat} {z : vp_A} (hn : ¬ n < 0) (hk : ¬ k < 0) (hN : n.toNatClampNeg = N') (hM : k.toNatClampNeg = K')
    (hb1 : N' * 4 ≤ 536870912) (hb2 : K' * componentBytes ty ≤ 536870912) (hb3 : K' ≤ 536870912) (hdf : fits ty (defaultValue ty) = true) (hdd : (defaultValue ty).isDefault = true) (hcells : cells + (1 + N') ≤ R.cells) (hslots : slots + (N' + N' * K') ≤ R.slots) (hz : ∀ c : ClassId, Jvm.Free.Multi.innerC c K' (defaultValue ty) = vp_cell c z) (hdg : decode cc pc = .ok (.multianewarray index 2, 4))
    (kk : ∀ (q : Nat) (r : Nat → Nat) (cA : ClassId) (H1 : Heap), (∀ i j : Nat, i < N' → j < N' → r i = r j → i = j) → (∀ i : Nat, i < N' → r i ∉ L) → va_K D cl (tys ++ [(cA, .array ty)]) s →
      va_P D cl ((X ++ [(q, .inl (cA, N', .inr (.inr (.inr (.inr (fun i => if i < N' then some (r i) else none))))))]) ++ va_pl (L ++ (List.range N').map r) (vr_up f ((List.range N').map r) (.inl (cy, z)))) H1 → va_D A ((X ++ [(q, .inl (cA, N', .inr (.inr (.inr (.inr (fun i => if i < N' then some (r i) else none))))))]) ++ va_pl (L ++ (List.range N').map r) (vr_up f ((List.range N').map r) (.inl (cy, z)))) → va_S A H0 H1 locs →
      W p l e R s m args below meth c H1 locs (cells + 1 + N') (slots + N' + N' * K') Q (F0 m (pc + 4) ls (.ref q :: rest))) : W p l e R s m args below meth c H locs cells slots Q (F0 m pc ls (.int k :: .int n :: rest)) := by
  subst hN
  subst hM
  intro T hT Xs
  obtain ⟨vm₁, cA, comp, -, fA, fC, hO, -, X', step⟩ := Xs.multianewarray2F hexec hown hclink hover harr (g := F0 m pc ls (.int k :: .int n :: rest)) rfl (by rw [hb]; exact hdg) rfl hn hk hb1 hb2 hb3 hdf hdd hcells hslots
  have ec : some cy = some comp := hcy.symm.trans fC
  cases ec
  generalize hF : Jvm.Free.Multi.fill (T.setVm vm₁) cA cy n.toNatClampNeg k.toNatClampNeg (defaultValue ty) n.toNatClampNeg = F at X' step
  have hTh : (T.setVm vm₁).heap = H := hT
  obtain ⟨f1, f2, -, -⟩ := Jvm.Free.Multi.fill_facts (T.setVm vm₁) cA cy n.toNatClampNeg k.toNatClampNeg (defaultValue ty) n.toNatClampNeg
  rw [hF, hTh] at f1 f2
  have hold : ∀ x : Nat, x < H.size → F.heap[x]? = H[x]? := fun x hx => by
    have := Jvm.Free.Multi.fill_old (T.setVm vm₁) cA cy n.toNatClampNeg k.toNatClampNeg (defaultValue ty) (a := x) (by rw [hTh]; exact hx) n.toNatClampNeg
    rw [hF, hTh] at this
    exact this
  have hrow : ∀ j : Nat, j < n.toNatClampNeg → F.heap[H.size + 1 + j]? = some (vp_cell cy z) := fun j hj => by
    have := Jvm.Free.Multi.fill_inner (T.setVm vm₁) cA cy n.toNatClampNeg k.toNatClampNeg (defaultValue ty) n.toNatClampNeg j hj
    rw [hF, hTh, hz] at this
    exact this
  have hout : Jvm.Free.Multi.outerC cA n.toNatClampNeg H.size n.toNatClampNeg = vp_cell cA (n.toNatClampNeg, .inr (.inr (.inr (.inr (fun i => if i < n.toNatClampNeg then some (H.size + 1 + i) else none))))) := by
    rw [vp_cell_q]
    exact vr_outer cA n.toNatClampNeg H.size n.toNatClampNeg
  rw [hout] at f2
  have hlt : ∀ a, a ∈ L → a < H.size := fun a ha => by
    obtain ⟨k9, hk9⟩ := va_pl_get (X := X) (f := f) ha
    exact (hP k9 _ hk9).lt
  have hnl : ∀ i : Nat, i < n.toNatClampNeg → H.size + 1 + i ∉ L := fun i _ h => by
    have := hlt _ h
    omega
  have hnm : ∀ a, a ∈ (List.range n.toNatClampNeg).map (fun i => H.size + 1 + i) → a ∉ L := fun a ha h => by
    obtain ⟨i, -, rfl⟩ := List.mem_map.mp ha
    have := hlt _ h
    omega
  have hP0 : va_P D cl (X ++ va_pl L f) F.heap := hP.kept (fun k9 x hx => hold x.1 ((hP k9 x hx).lt))
  have hP1 : va_P D cl ((X ++ va_pl L f) ++ [(H.size, .inl (cA, n.toNatClampNeg, .inr (.inr (.inr (.inr (fun i => if i < n.toNatClampNeg then some (H.size + 1 + i) else none))))))]) F.heap := hP0.app (fun k9 x hx => by
    have h0 : k9 < 1 := (List.getElem?_eq_some_iff.mp hx).1
    rw [show k9 = 0 by omega] at hx
    cases hx
    exact f2)
  have hP2 : va_P D cl (((X ++ va_pl L f) ++ [(H.size, .inl (cA, n.toNatClampNeg, .inr (.inr (.inr (.inr (fun i => if i < n.toNatClampNeg then some (H.size + 1 + i) else none))))))]) ++ ((List.range n.toNatClampNeg).map (fun i => H.size + 1 + i)).map (fun a => (a, .inl (cy, z)))) F.heap := hP1.app (fun k9 x hx => by
    obtain ⟨a, ha, rfl⟩ := List.mem_map.mp (List.mem_of_getElem? hx)
    obtain ⟨i, hi, rfl⟩ := List.mem_map.mp ha
    exact hrow i (List.mem_range.mp hi))
  have hD2 : va_D A (((X ++ va_pl L f) ++ [(H.size, .inl (cA, n.toNatClampNeg, .inr (.inr (.inr (.inr (fun i => if i < n.toNatClampNeg then some (H.size + 1 + i) else none))))))]) ++ ((List.range n.toNatClampNeg).map (fun i => H.size + 1 + i)).map (fun a => (a, .inl (cy, z)))) := by
    have hD1 := hD.push (e := .inl (cA, n.toNatClampNeg, .inr (.inr (.inr (.inr (fun i => if i < n.toNatClampNeg then some (H.size + 1 + i) else none)))))) hP rfl (hA _ hS.1)
    generalize hW1 : (X ++ va_pl L f) ++ [(H.size, .inl (cA, n.toNatClampNeg, .inr (.inr (.inr (.inr (fun i => if i < n.toNatClampNeg then some (H.size + 1 + i) else none))))))] = W1 at hD1 hP1 ⊢
    have hle : ∀ (k9 : Nat) (x : Nat × va_E), W1[k9]? = some x → x.1 ≤ H.size := fun k9 x hx => by
      rw [← hW1] at hx
      by_cases hl : k9 < (X ++ va_pl L f).length
      · rw [List.getElem?_append_left hl] at hx
        exact Nat.le_of_lt ((hP k9 x hx).lt)
      · rw [List.getElem?_append_right (by omega)] at hx
        have h0 : k9 - (X ++ va_pl L f).length < 1 := (List.getElem?_eq_some_iff.mp hx).1
        rw [show k9 - (X ++ va_pl L f).length = 0 by omega] at hx
        cases hx
        exact Nat.le_refl _
    have hr : ∀ (k9 : Nat) (x : Nat × va_E), (((List.range n.toNatClampNeg).map (fun i => H.size + 1 + i)).map (fun a => ((a, .inl (cy, z)) : Nat × va_E)))[k9]? = some x → x.1 = H.size + 1 + k9 := fun k9 x hx => by
      rw [List.getElem?_map, List.getElem?_map] at hx
      by_cases h9 : k9 < n.toNatClampNeg
      · rw [List.getElem?_range h9] at hx
        cases hx
        rfl
      · have hn0 : (List.range n.toNatClampNeg)[k9]? = none := List.getElem?_eq_none (by rw [List.length_range]; omega)
        rw [hn0] at hx
        cases hx
    refine ⟨fun i j x y hi hj hxy => ?_, fun k9 x hx => ?_⟩
    · by_cases h1 : i < W1.length <;> by_cases h2 : j < W1.length
      · rw [List.getElem?_append_left h1] at hi
        rw [List.getElem?_append_left h2] at hj
        exact hD1.1 i j x y hi hj hxy
      · rw [List.getElem?_append_left h1] at hi
        rw [List.getElem?_append_right (by omega)] at hj
        have := hle _ _ hi
        have := hr _ _ hj
        omega
      · rw [List.getElem?_append_right (by omega)] at hi
        rw [List.getElem?_append_left h2] at hj
        have := hle _ _ hj
        have := hr _ _ hi
        omega
      · rw [List.getElem?_append_right (by omega)] at hi hj
        have := hr _ _ hi
        have := hr _ _ hj
        omega
    · by_cases h1 : k9 < W1.length
      · rw [List.getElem?_append_left h1] at hx
        exact hD1.2 k9 x hx
      · rw [List.getElem?_append_right (by omega)] at hx
        have := hr _ _ hx
        exact hA _ (by have := hS.1; omega)
  have hAr : ArrOfT s cA (.array ty) := fun N9 z9 => by
    obtain ⟨-, k9, hk9, cm9, hkk9⟩ := (hO 0 0 0).1
    exact ⟨(fun q hq => by cases hq), k9, hk9, cm9, hkk9⟩
  have hK2 : va_K D cl (tys ++ [(cA, .array ty)]) s := ⟨hK.1, fun k9 x hx => by
    by_cases hl : k9 < tys.length
    · rw [List.getElem?_append_left hl] at hx
      exact hK.2 k9 x hx
    · rw [List.getElem?_append_right (by omega)] at hx
      have h0 : k9 - tys.length < 1 := (List.getElem?_eq_some_iff.mp hx).1
      rw [show k9 - tys.length = 0 by omega] at hx
      cases hx
      exact ⟨hAr, fA⟩⟩
  obtain ⟨t, a1, b1⟩ := kk H.size (fun i => H.size + 1 + i) cA F.heap (fun i j _ _ h => by have h9 : H.size + 1 + i = H.size + 1 + j := h; omega) hnl hK2 (by rw [← vr_rows hnm]; exact vr_lay hP2) (by rw [← vr_rows hnm]; exact vr_layD hD2) ⟨by rw [f1]; have := hS.1; omega, fun x h1 h2 => (hold x (Nat.lt_of_lt_of_le h1 hS.1)).trans (hS.2.1 x h1 h2), hS.2.2⟩ F rfl X'
  refine ⟨t, step t ?_, b1⟩
  have e : T.heap.size = H.size := by rw [hT]
  rw [e]
  exact a1
end VGM
/-! ===== END ===== -/
theorem am_eII : "[" ++ (FieldType.array .int).toString = "[[I" := by decide +kernel
theorem am_eI : (FieldType.array .int).toString = "[" ++ FieldType.int.toString := by first | rfl | decide +kernel
theorem am_RA {U : State} {cA cB : ClassId} {ty : FieldType} (h1 : va_RA U cA ty) (h2 : va_RA U cB ty) : cA = cB := by
  cases ty <;> first | exact Option.some.inj (h1.symm.trans h2) | (obtain ⟨_, _, _, _, _, a⟩ := h1; obtain ⟨_, _, _, _, _, b⟩ := h2; exact Option.some.inj (a.symm.trans b))
theorem am_uni {D : va_G} {cl : List vw_C} {tys : List (ClassId × FieldType)} {cA : ClassId} {ty : FieldType} {s : State} (t : Nat) (cB : ClassId) (hK : va_K D cl (tys ++ [(cA, ty)]) s) (ht : tys[t]? = some (cB, ty)) : cA = cB := by
  have hl : t < tys.length := (List.getElem?_eq_some_iff.mp ht).1
  have h1 := hK.2 t (cB, ty) (by rw [List.getElem?_append_left hl]; exact ht)
  have h2 := hK.2 tys.length (cA, ty) (by rw [List.getElem?_append_right (Nat.le_refl _), Nat.sub_self]; rfl)
  exact am_RA h2.2 h1.2
theorem am_cy {D : va_G} {cl : List vw_C} {dA : Nat → ClassId} {s : State} (hK : va_K D cl (am_ty dA) s) : s.vm.findClass (FieldType.array .int).toString = some (dA 0) := by
  rw [am_eI]
  exact (hK.2 0 (dA 0, .int) rfl).2
theorem am_inn (c : ClassId) : Jvm.Free.Multi.innerC c 7 (defaultValue .int) = vp_cell c (7, .inl (fun _ => 0)) := by
  show ({ cls := c, slots := Array.replicate 7 (.int 0), vm := .none } : Cell) = _
  rw [arrV_new]
  rfl
theorem am_rows9 {f : Nat → va_E} {e : va_E} {r : Nat → Nat} : va_pl ([] ++ (List.range 9).map r) (vr_up f ((List.range 9).map r) e) = [(r 0, e), (r 1, e), (r 2, e), (r 3, e), (r 4, e), (r 5, e), (r 6, e), (r 7, e), (r 8, e)] := by
  rw [← vr_rows (fun a _ h => absurd h List.not_mem_nil)]
  rfl
theorem am_upd {f : Nat → Int32} {L : List Int32} {i : Nat} {x : Int32} (h : ∀ j, j < i → f j = L.getD j 0) (e : x = L.getD i 0) : ∀ j, j < i + 1 → upd f i x j = L.getD j 0 := fun j hj => by
  unfold upd
  by_cases c : j = i
  · rw [if_pos c, c, e]
  · rw [if_neg c]
    exact h j (by omega)
theorem am_AOm {t : FieldType} {u U : State} (hvm : u.vm.Alike U.vm) (h : (Cond.arrayOver (.array t)).before #[] u = true) : (Cond.arrayOver (.array t)).before #[] U = true := by
  have h0 := h
  unfold Cond.before Cond.holds at h0
  simp only [Cond.value, beq_iff_eq] at h0
  cases hc : u.vm.findClass (FieldType.array t).toString with
  | none => simp [hc] at h0
  | some comp =>
    simp only [hc, Option.bind_some, Option.bind_eq_some_iff, Option.map_eq_some_iff] at h0
    obtain ⟨c, h2, k, h3, hb⟩ := h0
    obtain ⟨k', hk', he⟩ := hvm.2.2 _ _ h3
    have be : U.vm.bare = u.vm.bare := by first | exact hvm.bare_eq | exact hvm.bare_eq.symm
    have e1 := (va_idx_bare u.vm comp).trans h2
    rw [← be] at e1
    have hi := (va_idx_bare U.vm comp).symm.trans e1
    have f1 : U.vm.findClass (FieldType.array t).toString = some comp := by rw [hvm.findClass]; exact hc
    unfold Cond.before Cond.holds
    simp only [Cond.value]
    rw [f1, Option.bind_some]
    refine (congrArg (fun o : Option Nat => (o.bind (fun c => (U.vm.classes[c]?).map fun (k : Class) => match k.kind with | .array _ ty => decide (ty = FieldType.array t) && decide (U.vm.findClass ("[" ++ (FieldType.array t).toString) = some c) | _ => false) == some true)) hi).trans ?_
    have hf : ∀ z : String, U.vm.findClass z = u.vm.findClass z := fun z => by rw [hvm.findClass]
    rw [Option.bind_some, hk', Option.map_some, show k'.kind = k.kind by rw [he]]
    rw [hf]
    refine beq_iff_eq.2 (congrArg some ?_)
    exact hb
def am_AO (U : State) : Prop := (Cond.arrayOver (.array .int)).before #[] U = true ∧ va_AO RX0 U ∧ va_AO RX4 U
def am_NI (U : State) : Prop := am_AO U ∧ va_Nw (.methodLinkNest "UnlikeFerry" 11 yX1_init "UnlikeFerry") U ∧ va_Nw (.methodLinkNest "UnlikeFerry" 23 yX0_init "UnlikeFerry") U ∧ va_Nw (.methodLinkNest "UnlikeFerry" 33 yX3_init "UnlikeFerry") U ∧ va_Nw (.methodLinkNest "UnlikeFerry" 40 yX2_init "UnlikeFerry") U ∧ va_Nw (.methodLinkNest "UnlikeFerry" 70 yX4_init "UnlikeFerry") U ∧ va_Nw (.methodLinkNest "UnlikeFerry$Reader" 11 yX5_init "UnlikeFerry") U ∧ va_Nw (.methodLinkNest "UnlikeFerry$Reader" 20 yX0_init "UnlikeFerry") U
theorem am_NI.to {s U : State} (h : am_NI s) (hW : s.WarmedH U.vm) : am_NI U := ⟨⟨am_AOm hW.alike h.1.1, h.1.2.1.moved hW.alike, h.1.2.2.moved hW.alike⟩, h.2.1.warmM hW, h.2.2.1.warmM hW, h.2.2.2.1.warmM hW, h.2.2.2.2.1.warmM hW, h.2.2.2.2.2.1.warmM hW, h.2.2.2.2.2.2.1.warmM hW, h.2.2.2.2.2.2.2.warmM hW⟩
theorem am_NI.call {U : State} (g : JFrame) (mk : MethodId) (a : Array Value) (h : am_NI U) : am_NI (U.calling g mk a) := by
  have hv : U.vm.Alike (U.calling g mk a).vm := Vm.Alike.refl U.vm
  have e : (U.calling g mk a).vm = U.vm := rfl
  exact ⟨⟨am_AOm hv h.1.1, h.1.2.1.moved hv, h.1.2.2.moved hv⟩, va_Nw.same rfl e.symm h.2.1, va_Nw.same rfl e.symm h.2.2.1, va_Nw.same rfl e.symm h.2.2.2.1, va_Nw.same rfl e.symm h.2.2.2.2.1, va_Nw.same rfl e.symm h.2.2.2.2.2.1, va_Nw.same rfl e.symm h.2.2.2.2.2.2.1, va_Nw.same rfl e.symm h.2.2.2.2.2.2.2⟩
theorem am_blind {dC : Nat → ClassId} {dI : Nat → Nat → Nat} {dA : Nat → ClassId} {ws : va_W} {sz : Nat} {As : List Value} : FrameBlind (va_Pc As (fun U => U.heap.size = sz ∧ va_P (dC, dI) vwCl ws U.heap ∧ va_K (dC, dI) vwCl (am_ty dA) U ∧ va_D (fun _ => True) ws ∧ am_NI U)) := fun a U g mk q => ⟨q.1, q.2.1, q.2.2.1, va_K.moved (u := U) (U := U.calling g mk a) (Vm.Alike.refl U.vm) q.2.2.2.1, q.2.2.2.2.1, q.2.2.2.2.2.call g mk a⟩
