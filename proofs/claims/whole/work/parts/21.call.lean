/-! a method's meaning is what the machine does: contracts out of meanings, calls out of contracts -/
def am_scp (i : Nat) : Nat := match i with
  | 0 => 102 | 1 => 111 | 2 => 116 | 3 => 131 | 4 => 133 | 5 => 135 | 6 => 137 | _ => 139
def am_stx (i : Nat) : String := match i with
  | 0 => "seats" | 1 => "cost" | 2 => "here" | 3 => "plain" | 4 => "liar" | 5 => "admiral" | 6 => "nameless" | _ => "jack"
def am_sln : List Nat := (List.range 8).map fun i => (am_str i).length
def am_sby : List (List Int32) := (List.range 8).map am_str
def am_isIn : MethodName := ⟨"UnlikeFerry", "isIn", "(II)Z"⟩
def am_isWi : MethodName := ⟨"UnlikeFerry", "isWithin", "(III)Z"⟩
/-- what a method may take of the rest of the machine: the words of the text, two statics of the JDK, the links among nest mates -/
def am_Xs (ad : Nat → Nat → Nat) (adV : Nat → Nat) (A : Nat → Prop) (U : State) (H : Heap) : Prop :=
  vk_S 8 am_sln am_sby (ad 40) adV A U H ∧ (∀ i, i < 8 → vk_R "UnlikeFerry$Reader" (am_scp i) (am_stx i) (ad 40 i) U) ∧ va_Z "java/lang/String" "COMPACT_STRINGS" "Z" (.int 1) A U H ∧ va_Zq "jdk/internal/util/Preconditions" "SIOOBE_FORMATTER" "Ljava/util/function/BiFunction;" A U H ∧
  va_Nw (.methodLinkNest "UnlikeFerry$Crew" 80 am_isIn "UnlikeFerry") U ∧ va_Nw (.methodLinkNest "UnlikeFerry$Reader" 88 am_isIn "UnlikeFerry") U ∧ va_Nw (.methodLinkNest "UnlikeFerry$Sets" 52 am_isIn "UnlikeFerry") U ∧ va_Nw (.methodLinkNest "UnlikeFerry$Reader" 159 am_isWi "UnlikeFerry") U
theorem am_Xs.to {ad : Nat → Nat → Nat} {adV : Nat → Nat} {A B : Nat → Prop} {s U : State} {H H1 : Heap} (hW : s.WarmedH U.vm) (hq : ∀ a : Nat, a < H.size → ¬ A a → H1[a]? = H[a]?) (hAB : ∀ q, B q → A q) (h : am_Xs ad adV A s H) : am_Xs ad adV B U H1 := by
  obtain ⟨h1, h2, h3, h4, h5, h6, h7, h8⟩ := h
  exact ⟨((h1.kept hq).narrow hAB).moved hW.alike, fun i hi => (h2 i hi).warm hW, ((h3.kept hq).narrow hAB).moved hW.alike, ((h4.kept hq).narrow hAB).moved hW.alike, h5.warmM hW, h6.warmM hW, h7.warmM hW, h8.warmM hW⟩
theorem am_Xs.call {ad : Nat → Nat → Nat} {adV : Nat → Nat} {A : Nat → Prop} {U : State} {H : Heap} (g : JFrame) (mk : MethodId) (a : Array Value) (h : am_Xs ad adV A U H) : am_Xs ad adV A (U.calling g mk a) H := by
  obtain ⟨h1, h2, h3, h4, h5, h6, h7, h8⟩ := h
  have hv : U.vm.Alike (U.calling g mk a).vm := Vm.Alike.refl U.vm
  have e : (U.calling g mk a).vm = U.vm := rfl
  exact ⟨h1.moved hv, fun i hi => vk_R.same e (h2 i hi), h3.moved hv, h4.moved hv, va_Nw.same rfl e.symm h5, va_Nw.same rfl e.symm h6, va_Nw.same rfl e.symm h7, va_Nw.same rfl e.symm h8⟩
/-- a method's start -/
def am_Pc (cl : List vw_C) (dC : Nat → ClassId) (dI : Nat → Nat → Nat) (dA : Nat → ClassId) (ad : Nat → Nat → Nat) (adV : Nat → Nat) (sz : Nat) (as : List am_V) (σ : am_M) : Array Value → State → Prop := va_Pc (as.map (am_c ad)) (fun U => U.heap.size = sz ∧ va_P (dC, dI) cl (am_w ad dA σ) U.heap ∧ va_K (dC, dI) cl (am_ty dA) U ∧ va_D (fun _ => True) (am_w ad dA σ) ∧ am_Xs ad adV (am_A ad sz) U U.heap)
theorem am_Pc_blind {cl : List vw_C} {dC : Nat → ClassId} {dI : Nat → Nat → Nat} {dA : Nat → ClassId} {ad : Nat → Nat → Nat} {adV : Nat → Nat} {sz : Nat} {as : List am_V} {σ : am_M} : FrameBlind (am_Pc cl dC dI dA ad adV sz as σ) := by
  intro a U g mk h
  obtain ⟨h1, h2, h3, h4, h5, h6⟩ := h
  exact ⟨h1, h2, h3, va_K.moved (u := U) (U := U.calling g mk a) (Vm.Alike.refl U.vm) h4, h5, h6.call g mk a⟩
/-- the contract of a method, out of its meaning f -/
def am_Snd (cl : List vw_C) (y : MethodName) (ws : List Jvm.Cond) (rm : Room) (f : am_Spec) : Prop := ∀ (l : Launch) (dC : Nat → ClassId) (dI : Nat → Nat → Nat) (dA : Nat → ClassId) (ad : Nat → Nat → Nat) (adV : Nat → Nat) (sz : Nat) (as : List am_V) (σ : am_M) (K : Option am_V → am_M → Prop), (∀ v ∈ as, am_ok v) → f as σ K →
  Met l y ws rm (am_Pc cl dC dI dA ad adV sz as σ) (am_Qc cl dC dI dA ad (am_A ad sz) K) 0 0 (am_A ad sz)
theorem am_ent_lv {ad : Nat → Nat → Nat} : ∀ {as : List am_V} {n k : Nat}, lv_args n (as.map (am_c ad)) = am_lv ad n (am_ent as ++ List.replicate k none)
  | [], n, 0 => rfl
  | [], n, k + 1 => am_ent_lv (as := []) (n := n + 1) (k := k)
  | .inl x :: r, n, k => by
    show (n, Value.int x) :: lv_args (n + 1) (r.map (am_c ad)) = (n, Value.int x) :: am_lv ad (n + 1) (am_ent r ++ List.replicate k none)
    rw [am_ent_lv (as := r)]
  | .inr (.inl x) :: r, n, k => by
    show (n, Value.long x) :: lv_args (n + 2) (r.map (am_c ad)) = (n, Value.long x) :: am_lv ad (n + 1 + 1) (am_ent r ++ List.replicate k none)
    rw [am_ent_lv (as := r)]
  | .inr (.inr q) :: r, n, k => by
    show (n, am_c ad (.inr (.inr q))) :: lv_args (n + 1) (r.map (am_c ad)) = (n, am_c ad (.inr (.inr q))) :: am_lv ad (n + 1) (am_ent r ++ List.replicate k none)
    rw [am_ent_lv (as := r)]
theorem am_ent_sl {ad : Nat → Nat → Nat} : ∀ {as : List am_V}, (lg_sl (as.map (am_c ad))).length = (am_ent as).length
  | [] => rfl
  | .inl x :: r => by
    show (lg_sl (r.map (am_c ad))).length + 1 = (am_ent r).length + 1
    rw [am_ent_sl (as := r)]
  | .inr (.inl x) :: r => by
    show (lg_sl (r.map (am_c ad))).length + 1 + 1 = (am_ent r).length + 1 + 1
    rw [am_ent_sl (as := r)]
  | .inr (.inr q) :: r => by
    show (lg_sl (r.map (am_c ad))).length + 1 = (am_ent r).length + 1
    rw [am_ent_sl (as := r)]
theorem am_ent_ok : ∀ {as : List am_V} {k i : Nat} {v : am_V}, (∀ w ∈ as, am_ok w) → (am_ent as ++ List.replicate k none)[i]? = some (some v) → am_ok v
  | [], k, i, v, _, h => by
    have h1 := List.mem_of_getElem? h
    have h2 : some v ∈ List.replicate k (none : Option am_V) := h1
    have := List.eq_of_mem_replicate h2
    cases this
  | .inl x :: r, k, 0, v, _, h => by
    cases h
    trivial
  | .inl x :: r, k, i + 1, v, hw, h => am_ent_ok (as := r) (am_okt hw) (i := i) (k := k) h
  | .inr (.inl x) :: r, k, 0, v, _, h => by
    cases h
    trivial
  | .inr (.inl x) :: r, k, 1, v, _, h => by cases h
  | .inr (.inl x) :: r, k, i + 2, v, hw, h => am_ent_ok (as := r) (am_okt hw) (i := i) (k := k) h
  | .inr (.inr q) :: r, k, 0, v, hw, h => by
    cases h
    exact hw _ List.mem_cons_self
  | .inr (.inr q) :: r, k, i + 1, v, hw, h => am_ent_ok (as := r) (am_okt hw) (i := i) (k := k) h
set_option maxHeartbeats 4000000 in
/-- a call of a method with a contract, goal first -/
theorem am_callW {p : Program} {l : Launch} {e : Env} {R : Room} {s : State} {m : MethodId} {args : Array Value} {below : List Frame} {meth : Method} {c : Code} {Q : State → Prop} {cl : List vw_C} {dC : Nat → ClassId} {dI : Nat → Nat → Nat} {dA : Nat → ClassId} {ad : Nat → Nat → Nat} {nL pc : Nat} {ls : am_L} {rest : List am_V} {σ : am_M} {K : Option am_V → am_M → Prop} {a : Array Value} {st : List am_V}
    (hr : ∀ (H : Heap) (locs : List Loc) (arr : Array Slot), am_Rd cl dC dI dA ad (am_A ad s.heap.size) nL s ls st σ H locs arr → va_Run p l e R s m args below meth c H locs 0 0 0 0 (F0 m pc arr (st.map (am_c ad))) (rest.map (am_c ad)) (am_Qc cl dC dI dA ad (am_A ad H.size) K a) (am_A ad H.size))
    (hsub : ∀ v ∈ rest, v ∈ st) (hK : ∀ v τ, K v τ → am_W p l e R s m args below meth c Q cl dC dI dA ad (am_A ad s.heap.size) nL (pc + 3) ls (v.toList ++ rest) τ) :
    am_W p l e R s m args below meth c Q cl dC dI dA ad (am_A ad s.heap.size) nL pc ls st σ := by
  intro H locs arr hR
  intro T hT X
  obtain ⟨v, st₀, t, T', L, h0, X', hL, e1, e2, ⟨⟨r, τ, hv, hok, hKr, hP⟩, hz, hk⟩, stp⟩ := hr H locs arr hR T hT X
  obtain ⟨hH, hv1, hv2, -, hS⟩ := id hR
  have hv' : v = r.map (am_c ad) := by injection hv
  subst hv'
  rw [h0] at hz hk
  have hA : ∀ q, am_A ad H.size q → am_A ad s.heap.size q := fun q h => h.elim Or.inl (fun h => Or.inr (Nat.le_trans hS.1 h))
  have hS' : va_S (am_A ad s.heap.size) s.heap T'.heap (locs ++ L) := ⟨Nat.le_trans hS.1 (by rw [e1]; exact hz), fun q h1 h2 => by
      rw [e1, hk q (Nat.lt_of_lt_of_le h1 hS.1) (fun z => h2 (hA q z))]
      exact hS.2.1 q h1 h2, fun q hq => by
      rcases List.mem_append.mp hq with h | h
      · exact hS.2.2 q h
      · exact hA _ (hL q h)⟩
  have hok' : ∀ w ∈ r.toList ++ rest, am_ok w := by
    intro w hw
    rcases List.mem_append.mp hw with h | h
    · exact hok w (Option.mem_toList.mp h)
    · exact hv2 w (hsub w h)
  have hfin := hK r τ hKr T'.heap (locs ++ L) arr ⟨hH, hv1, hok', by rw [e1]; exact hP, hS'⟩
  obtain ⟨t2, a1, b1⟩ := hfin T' rfl X'
  refine ⟨t2, stp t2 ?_, b1⟩
  have e9 : (Option.map (am_c ad) r).toList ++ List.map (am_c ad) rest = List.map (am_c ad) (r.toList ++ rest) := by
    rw [List.map_append]
    cases r <;> rfl
  rw [e9]
  exact a1
