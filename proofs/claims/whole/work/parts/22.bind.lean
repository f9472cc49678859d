/-! binding: a call's rule out of a callee's contract; a method's contract out of its listing -/
/-- the rule of a call site: pool number x, n arguments, the receiver's class rc, the meaning f -/
def am_Cal (cl : List vw_C) (own : String) (ws : List Jvm.Cond) (R : Room) (x n : Nat) (rc : Option Nat) (f : am_Spec) : Prop :=
  ∀ (p : Program) (l : Launch) (e : Env) (s : State) (m : MethodId) (args : Array Value) (below : List Frame) (meth : Method) (c : Code) (Q : State → Prop) (dC : Nat → ClassId) (dI : Nat → Nat → Nat) (dA : Nat → ClassId) (ad : Nat → Nat → Nat) (adV : Nat → Nat) (nL : Nat) (cc : ByteArray),
    p.tables.exec = Jvm.exec → c.code = cc → c.maxLocals = nL → s.vm.findClass own = some m.cls → (∀ w ∈ ws, w.before args s = true) → va_K (dC, dI) cl (am_ty dA) s → va_D (fun _ => True) (am_w ad dA (fun _ _ _ => 0)) → am_Xs ad adV (am_A ad s.heap.size) s s.heap →
    ∀ (pc : Nat) (ls : am_L) (as rest : List am_V) (σ : am_M), as.length = n → am_cat rest ≤ 8 → am_rcv rc as → decode cc pc = .ok (am_inv rc x, 3) →
      f as σ (fun v τ => am_W p l e R s m args below meth c Q cl dC dI dA ad (am_A ad s.heap.size) nL (pc + 3) ls (v.toList ++ rest) τ) →
      am_W p l e R s m args below meth c Q cl dC dI dA ad (am_A ad s.heap.size) nL pc ls (as.reverse ++ rest) σ
theorem am_cat_map {ad : Nat → Nat → Nat} : ∀ {st : List am_V}, ((st.map (am_c ad)).map fun v => v.category).sum = am_cat st
  | [] => rfl
  | .inl x :: r => by
    show 1 + ((r.map (am_c ad)).map fun v => v.category).sum = 1 + am_cat r
    rw [am_cat_map (st := r)]
  | .inr (.inl x) :: r => by
    show 2 + ((r.map (am_c ad)).map fun v => v.category).sum = 2 + am_cat r
    rw [am_cat_map (st := r)]
  | .inr (.inr q) :: r => by
    show 1 + ((r.map (am_c ad)).map fun v => v.category).sum = 1 + am_cat r
    rw [am_cat_map (st := r)]
theorem am_pre {s : State} {cl : List vw_C} {dC : Nat → ClassId} {dI : Nat → Nat → Nat} {dA : Nat → ClassId} {ad : Nat → Nat → Nat} {adV : Nat → Nat} {nL : Nat} {ls : am_L} {st : List am_V} {σ : am_M} {H : Heap} {locs : List Loc} {arr : Array Slot} {as : List am_V} (hK : va_K (dC, dI) cl (am_ty dA) s) (hD : va_D (fun _ => True) (am_w ad dA (fun _ _ _ => 0))) (hX : am_Xs ad adV (am_A ad s.heap.size) s s.heap) (hR : am_Rd cl dC dI dA ad (am_A ad s.heap.size) nL s ls st σ H locs arr) : ∀ U : State, U.heap = H → s.WarmedH U.vm → am_Pc cl dC dI dA ad adV H.size as σ (as.map (am_c ad)).toArray U := by
  intro U hU hW
  obtain ⟨hH, hv1, hv2, hP, hS⟩ := hR
  have hA : ∀ q, am_A ad H.size q → am_A ad s.heap.size q := fun q h => h.elim Or.inl (fun h => Or.inr (Nat.le_trans hS.1 h))
  exact ⟨rfl, by rw [hU], by rw [hU]; exact hP, va_K.moved hW.alike hK, am_D_any hD, by rw [hU]; exact hX.to hW hS.2.1 hA⟩
set_option maxHeartbeats 4000000 in
theorem am_cal_S {cl : List vw_C} {own : String} {Ts ws ws' : List Jvm.Cond} {R rm : Room} {x n : Nat} {y : MethodName} {bytes : ByteArray} {maxL : Nat} {ret : Option FieldType} {f : am_Spec} (hS : am_Snd cl y ws rm f) (hT : GoodIn Ts (va_wsS own x y ws)) (hw : ws = Jvm.Cond.code y bytes maxL ret :: ws') (hrc : rm.cells = 0) (hrs : rm.slots = 0)
    (hd : y.cls ≠ "java/lang/invoke/MethodHandle" ∧ y.cls ≠ "java/lang/invoke/VarHandle" ∧ (parseMethodDescriptor y.desc).map (fun d => d.parameters.length) = some n) (hR : rm.frames + 1 ≤ R.frames ∧ 8 + (maxL + 11) + rm.locals ≤ R.locals) : am_Cal cl own Ts R x n none f := by
  intro p l e s m args below meth c Q dC dI dA ad adV nL cc hx hb hml hown hts hK hD hX pc ls as rest σ hn hcat hrcv hdec hf
  refine am_callW (a := (as.map (am_c ad)).toArray) (K := fun v τ => am_W p l e R s m args below meth c Q cl dC dI dA ad (am_A ad s.heap.size) nL (pc + 3) ls (v.toList ++ rest) τ) (fun H locs arr hR0 => ?_) (fun v hv => List.mem_append_right _ hv) (fun _ _ q => q)
  have hok : ∀ v ∈ as, am_ok v := fun v hv => hR0.2.2.1 v (List.mem_append_left _ (List.mem_reverse.mpr hv))
  exact va_runS (As := as.map (am_c ad)) (rest := rest.map (am_c ad)) ⟨hx, hb, hml, hown, hts⟩ (hS l dC dI dA ad adV H.size as σ _ hok hf) (va_cwS n hts hT hw hrc hrs hd hR) ⟨am_Pc_blind, am_pre hK hD hX hR0⟩ rfl (by rw [List.length_map, hn]) hR0.1.1.1 (by show List.map (am_c ad) (as.reverse ++ rest) = _; rw [List.map_append, List.map_reverse]) (lv_room (by rw [am_cat_map]; exact hcat)) hdec ⟨Nat.zero_le _, Nat.zero_le _⟩
set_option maxHeartbeats 4000000 in
theorem am_cal_V {cl : List vw_C} {own : String} {Ts ws ws' : List Jvm.Cond} {R rm : Room} {x n ci : Nat} {r : vw_C} {y : MethodName} {bytes : ByteArray} {maxL : Nat} {ret : Option FieldType} {f : am_Spec} (hS : am_Snd cl y ws rm f) (hci : cl[ci]? = some r) (h99 : ci ≠ 99) (hT : GoodIn Ts (wsV own x r.1 y ws)) (hw : ws = Jvm.Cond.code y bytes maxL ret :: ws') (hrc : rm.cells = 0) (hrs : rm.slots = 0)
    (hd : y.cls = r.1 ∧ y.cls ≠ "java/lang/invoke/MethodHandle" ∧ y.cls ≠ "java/lang/invoke/VarHandle" ∧ (parseMethodDescriptor y.desc).map (fun d => d.parameters.length) = some n) (hR : rm.frames + 1 ≤ R.frames ∧ 8 + (maxL + 11) + rm.locals ≤ R.locals) : am_Cal cl own Ts R x (n + 1) (some ci) f := by
  intro p l e s m args below meth c Q dC dI dA ad adV nL cc hx hb hml hown hts hK hD hX pc ls as rest σ hn hcat hrcv hdec hf
  refine am_callW (a := (as.map (am_c ad)).toArray) (K := fun v τ => am_W p l e R s m args below meth c Q cl dC dI dA ad (am_A ad s.heap.size) nL (pc + 3) ls (v.toList ++ rest) τ) (fun H locs arr hR0 => ?_) (fun v hv => List.mem_append_right _ hv) (fun _ _ q => q)
  have hok : ∀ v ∈ as, am_ok v := fun v hv => hR0.2.2.1 v (List.mem_append_left _ (List.mem_reverse.mpr hv))
  have hM := hS l dC dI dA ad adV H.size as σ _ hok hf
  have hpre := am_pre (as := as) hK hD hX hR0
  unfold am_rcv at hrcv
  dsimp only at hrcv
  split at hrcv
  · rename_i k i as'
    split at hrcv
    · rename_i c' fs esh
      split at hrcv
      · rename_i ec
        have ec := Nat.eq_of_beq_eq_true ec
        subst ec
        have hi : i < (am_sh k).1 := hok (.inr (.inr (k, i))) List.mem_cons_self
        have hk : k < 32 := by
          rcases am_sh_40 hi with q | q
          · exact q
          · rw [q] at esh
            cases esh
            exact absurd rfl h99
        have he : (am_w ad dA σ)[am_off k + i]? = some (ad k i, .inr (c', am_fv ad (σ k i) i 0 fs)) := by
          rw [am_w_get hk hi]
          unfold am_cell
          rw [esh]
        have hn' : as'.length = n := by
          have : as'.length + 1 = n + 1 := hn
          omega
        exact va_runV (C := r.1) (b := ad k i) (As := as'.map (am_c ad)) (rest := rest.map (am_c ad)) ⟨hx, hb, hml, hown, hts⟩ hM (cwV n hts hT hw hrc hrs hd hR) ⟨am_Pc_blind, va_recv hK hR0.2.2.2.1 hci he, hpre⟩ rfl (by rw [List.length_map, hn']) hR0.1.1.1 (by show List.map (am_c ad) ((Sum.inr (Sum.inr (k, i)) :: as').reverse ++ rest) = _; rw [List.reverse_cons, List.append_assoc, List.map_append, List.map_reverse]; rfl) (lv_room (by rw [am_cat_map]; exact hcat)) hdec ⟨Nat.zero_le _, Nat.zero_le _⟩
      · exact hrcv.elim
    · exact hrcv.elim
  · exact hrcv.elim
set_option maxHeartbeats 4000000 in
theorem am_cal_N {cl : List vw_C} {own host : String} {Ts ws ws' : List Jvm.Cond} {R rm : Room} {x n : Nat} {y : MethodName} {bytes : ByteArray} {maxL : Nat} {ret : Option FieldType} {f : am_Spec} (hS : am_Snd cl y ws rm f) (hG : GoodIn Ts ws) (hst : Jvm.Cond.static y ∈ Ts) (hin : Jvm.Cond.initialized y.cls ∈ Ts) (hw : ws = Jvm.Cond.code y bytes maxL ret :: ws') (hrc : rm.cells = 0) (hrs : rm.slots = 0)
    (hd : y.cls ≠ "java/lang/invoke/MethodHandle" ∧ y.cls ≠ "java/lang/invoke/VarHandle" ∧ (parseMethodDescriptor y.desc).map (fun d => d.parameters.length) = some n) (hR : rm.frames + 1 ≤ R.frames ∧ 8 + (maxL + 11) + rm.locals ≤ R.locals)
    (hl : ∀ ad adV A U H, am_Xs ad adV A U H → va_Nw (.methodLinkNest own x y host) U) : am_Cal cl own Ts R x n none f := by
  intro p l e s m args below meth c Q dC dI dA ad adV nL cc hx hb hml hown hts hK hD hX pc ls as rest σ hn hcat hrcv hdec hf
  refine am_callW (a := (as.map (am_c ad)).toArray) (K := fun v τ => am_W p l e R s m args below meth c Q cl dC dI dA ad (am_A ad s.heap.size) nL (pc + 3) ls (v.toList ++ rest) τ) (fun H locs arr hR0 => ?_) (fun v hv => List.mem_append_right _ hv) (fun _ _ q => q)
  have hok : ∀ v ∈ as, am_ok v := fun v hv => hR0.2.2.1 v (List.mem_append_left _ (List.mem_reverse.mpr hv))
  exact va_runSN (As := as.map (am_c ad)) (rest := rest.map (am_c ad)) ⟨hx, hb, hml, hown, hts⟩ (hS l dC dI dA ad adV H.size as σ _ hok hf) ⟨va_cnB (host := host) n hts hG hw hrc hrs (hl _ _ _ _ _ hX) (hts _ hin) hd hR, hts _ hst, trivial⟩ ⟨am_Pc_blind, am_pre hK hD hX hR0⟩ rfl (by rw [List.length_map, hn]) hR0.1.1.1 (by show List.map (am_c ad) (as.reverse ++ rest) = _; rw [List.map_append, List.map_reverse]) (lv_room (by rw [am_cat_map]; exact hcat)) hdec ⟨Nat.zero_le _, Nat.zero_le _⟩
set_option maxHeartbeats 4000000 in
theorem am_cal_max {cl : List vw_C} {own : String} {Ts : List Jvm.Cond} {R : Room} {x : Nat} (h1 : Jvm.Cond.methodLink own x Lib.Math.max.name ∈ Ts) (h2 : Jvm.Cond.static Lib.Math.max.name ∈ Ts) (h3 : Jvm.Cond.initialized "java/lang/Math" ∈ Ts) (h4 : Jvm.Cond.code Lib.Math.max.name Lib.Math.max.code 2 (some .int) ∈ Ts) (hR : 1 ≤ R.frames ∧ 8 + 13 ≤ R.locals) : am_Cal cl own Ts R x 2 none s_max := by
  intro p l e s m args below meth c Q dC dI dA ad adV nL cc hx hb hml hown hts hK hD hX pc ls as rest σ hn hcat hrcv hdec hf
  unfold s_max at hf
  dsimp only at hf
  split at hf
  · rename_i a b
    intro H locs arr hR0
    exact va_mmax (rest := rest.map (am_c ad)) (x := a) (y := b) hx hb (by rw [hml]; exact hR0.1.1.1.symm) hown (hts _ h1) (hts _ h2) (hts _ h3) (hts _ h4) hR.1 (by rw [am_cat_map]; omega) (Nat.zero_le _) (Nat.zero_le _) hdec (hf H locs arr (hR0.stk (am_okc trivial (am_okt (am_okt hR0.2.2.1)))))
  · exact hf.elim
theorem am_cp_at (σ : am_M) (a b : Nat) : am_cp σ a b 5 b = va_cpy (σ 5 a) (σ 5 b) 0 0 7 := by
  funext j
  unfold am_cp va_cpy
  by_cases h : j < 7
  · rw [if_pos ⟨rfl, rfl, h⟩, if_pos ⟨Nat.zero_le _, by omega⟩]
    simp
  · rw [if_neg (fun q => h q.2.2), if_neg (fun q => h (by omega))]
theorem am_cp_off {σ : am_M} {a b k i : Nat} (h : ¬ (k = 5 ∧ i = b)) : am_cp σ a b k i = σ k i := by
  funext j
  unfold am_cp
  rw [if_neg (fun q => h ⟨q.1, q.2.1⟩)]
theorem am_w_put {ad : Nat → Nat → Nat} {dA : Nat → ClassId} {σ τ : am_M} {k i : Nat} (hk : k < 32) (hi : i < (am_sh k).1) {x : va_E} (hx : x = am_cell ad dA (τ k i) k i) (ho : ∀ k' i', ¬ (k' = k ∧ i' = i) → τ k' i' = σ k' i') : (am_w ad dA σ).set (am_off k + i) (ad k i, x) = am_w ad dA τ := by
  subst hx
  apply List.ext_getElem?
  intro n
  by_cases hn : am_off k + i = n
  · subst hn
    rw [List.getElem?_set_self (List.getElem?_eq_some_iff.mp (am_w_get hk hi)).1, am_w_get hk hi]
  · rw [List.getElem?_set_ne hn]
    unfold am_w
    rw [List.getElem?_map, List.getElem?_map]
    cases ha : am_all[n]? with
    | none => rfl
    | some y =>
      have h2 := am_all_back n (List.getElem?_eq_some_iff.mp ha).1
      rw [ha] at h2
      have h3 : am_off y.1 + y.2 = n := Option.some.inj h2
      have hne : ¬ (y.1 = k ∧ y.2 = i) := fun q => hn (by rw [← h3, q.1, q.2])
      show some (ad y.1 y.2, am_cell ad dA (σ y.1 y.2) y.1 y.2) = some (ad y.1 y.2, am_cell ad dA (τ y.1 y.2) y.1 y.2)
      rw [ho _ _ hne]
set_option maxHeartbeats 4000000 in
theorem am_cal_acp {cl : List vw_C} {own : String} {Ts : List Jvm.Cond} {R : Room} {x : Nat} (h1 : Jvm.Cond.methodLink own x arraycopyName ∈ Ts) (h2 : Jvm.Cond.native arraycopyName ∈ Ts) (h3 : Jvm.Cond.static arraycopyName ∈ Ts) (h4 : Jvm.Cond.initialized "java/lang/System" ∈ Ts) (hR : 1 ≤ R.frames ∧ 8 + (nativeFrameWords "java/lang/System" "arraycopy" 5 + 11) ≤ R.locals) : am_Cal cl own Ts R x 5 none s_acp := by
  intro p l e s m args below meth c Q dC dI dA ad adV nL cc hx hb hml hown hts hK hD hX pc ls as rest σ hn hcat hrcv hdec hf
  unfold s_acp at hf
  dsimp only at hf
  split at hf
  · rename_i a sp b dp n
    obtain ⟨rfl, rfl, rfl, hf⟩ := hf
    intro H locs arr hR0
    obtain ⟨hH, hv1, hv2, hP, hS⟩ := id hR0
    have ha : a < 45 := hv2 (.inr (.inr (5, a))) (by simp)
    have hbb : b < 45 := hv2 (.inr (.inr (5, b))) (by simp)
    have hea : (am_w ad dA σ)[am_off 5 + a]? = some (ad 5 a, .inl (dA 0, 7, .inl (σ 5 a))) := am_w_get (k := 5) (by decide) ha
    have heb : (am_w ad dA σ)[am_off 5 + b]? = some (ad 5 b, .inl (dA 0, 7, .inl (σ 5 b))) := am_w_get (k := 5) (by decide) hbb
    have hA : va_D (am_A ad s.heap.size) (am_w ad dA σ) := am_D_self hD
    refine va_copyi (rest := rest.map (am_c ad)) (ty := .int) hx hb (by rw [hml]; exact hH.1.1.symm) hown (hts _ h1) (hts _ h2) (hts _ h3) (hts _ h4) hK hP hA hS _ _ 0 0 hea heb rfl rfl rfl (by decide) (by decide) (by decide) (by decide) (by decide) (fun _ _ => rfl) hR.1 (by rw [am_cat_map]; omega) hdec (fun H1 locs1 a1 a2 a3 => ?_)
    rw [am_w_put (k := 5) (τ := am_cp σ a b) (by decide) hbb (by rw [am_cp_at]; rfl) (fun k' i' h => am_cp_off h)] at a1
    exact hf H1 locs1 arr ⟨hH, hv1, fun v hv => hv2 v (List.mem_append_right _ hv), a1, a3⟩
  · exact hf.elim
/-- a field's facts, as far as they are of the tables' words -/
def am_Fst (cl : List vw_C) (own : String) (ws : List Jvm.Cond) (x ci j : Nat) : Prop := ∃ (C : String) (T : u_T) (n : Nat) (ty0 : Nat → FieldType), cl[ci]? = some (C, T, n) ∧ (∀ w ∈ u_ws C T n, w ∈ ws) ∧ j < n ∧ Jvm.Cond.fieldLink own x (T j).1 (T j).2.1 (T j).2.2.1 ∈ ws ∧ (∀ k, k < n → parseFieldDescriptor (T k).2.2.1 = some (ty0 k)) ∧ (∀ a, a < n → ∀ b, b < n → a ≠ b → (T a).2.1 ≠ (T b).2.1) ∧ ∀ k fs ty, (am_sh k).2 = .inl (ci, fs) → fs[j]? = some (.inl ty) → (T j).2.2.2 = false ∧ ty0 j = ty
def am_Kst (own : String) (ws : List Jvm.Cond) (x : Nat) (v : am_V) : Prop := match v with
  | .inl v => Jvm.Cond.constant own x v ∈ ws
  | .inr (.inl v) => Jvm.Cond.constantLong own x v ∈ ws
  | .inr (.inr (k, i)) => own = "UnlikeFerry$Reader" ∧ k = 40 ∧ i < 8 ∧ x = am_scp i
set_option maxHeartbeats 4000000 in
theorem am_snd_of {cl : List vw_C} {y : MethodName} {cc : ByteArray} {nL : Nat} {ret : Option FieldType} {ws ws' : List Jvm.Cond} {rm : Room} {E : am_E} {lst : List (Nat × Instr)} (hy : plainName y.cls = true) (hw : ws = Jvm.Cond.code y cc nL ret :: ws') (hlst : am_dec cc lst = true)
    (hfld : ∀ x ci j, E.1 x = some (ci, j) → am_Fst cl y.cls ws x ci j) (hcst : ∀ x v, E.2.2 x = some v → am_Kst y.cls ws x v) (hcal : ∀ x n rc f, E.2.1 x = some (n, rc, f) → am_Cal cl y.cls ws rm x n rc f) : am_Snd cl y ws rm (am_sem E lst nL ret) := by
  intro l dC dI dA ad adV sz as σ K hok hf
  refine Met.ofW (cc := cc) (maxL := nL) (ret := ret) hy hw ?_
  intro p e s m args below meth c s₁ B hml hv
  obtain ⟨rfl, hsz, hP, hK, hD0, hXs⟩ := hv
  subst hsz
  have hx := B.exec
  have hb := B.bytes
  have hr := B.returns
  have hts := atoms_spec (ws := ws) B.pre
  have hown : s.vm.findClass y.cls = some m.cls := findClass_of_methodNamed B.named
  have hlk := B.notSynchronized
  have hD : va_D (am_A ad s.heap.size) (am_w ad dA (fun _ _ _ => 0)) := am_D_self hD0
  have hcl := am_sound (p := p) (l := l) (e := e) (R := (headSpec ws rm).room) (s := s) (m := m) (args := (as.map (am_c ad)).toArray) (below := below) (meth := meth) (c := c) (cl := cl) (dC := dC) (dI := dI) (dA := dA) (ad := ad) (A := am_A ad s.heap.size) (nL := nL) (cc := cc) (ret := ret) (own := y.cls) (Ts := ws) (E := E) (lst := lst) (K := K) hx hb hr hlk hown hts hK hD hlst
    (fun x ci j h => by
      obtain ⟨C, T, n, ty0, f1, f2, f3, f4, f5, f6, f7⟩ := hfld x ci j h
      exact ⟨C, T, n, ty0, f1, f2, f3, hts _ f4, f5, f6, f7⟩)
    (fun x v h => by
      have h1 := hcst x v h
      rcases v with v | v | ⟨k, i⟩
      · exact hts _ h1
      · exact hts _ h1
      · obtain ⟨e1, rfl, e3, rfl⟩ := h1
        refine ⟨?_, am_stx i, ?_⟩
        · show i < (am_sh 40).1
          exact e3
        · rw [e1]
          exact hXs.2.1 i e3)
    (fun x n rc f h => by
      intro pc ls as' rest σ' h1 h2 h3 h4 h5
      exact hcal x n rc f h p l e s m _ below meth c _ dC dI dA ad adV nL cc hx hb hml hown hts hK (am_D_any hD0) hXs pc ls as' rest σ' h1 h2 h3 h4 h5)
  have h0 := hf.2 _ hcl
  rw [lg_entry_eq]
  have hle : (lg_sl (as.map (am_c ad))).length ≤ nL := by rw [am_ent_sl]; exact hf.1
  have hl := lv_entry (as.map (am_c ad)) (n := nL) hle
  rw [am_ent_lv (as := as) (n := 0) (k := nL - (am_ent as).length)] at hl
  exact h0 s.heap [] _ ⟨⟨hl, by rw [List.length_append, List.length_replicate]; have := hf.1; omega⟩, fun i v h => am_ent_ok hok h, (fun v hv => by cases hv), hP, va_S.rf⟩
