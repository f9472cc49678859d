theorem am_lG {C : String} {x : Nat} {y : MethodName} {c : Jvm.Cond} (h1 : Jvm.Cond.methodLink R_law x y ∈ am_B) (h2 : Jvm.Cond.instanceMethod y ∈ am_B) (h3 : Jvm.Cond.selects C y y ∈ am_B) (h4 : Jvm.Cond.initialized C ∈ am_B) (hc : c ∈ am_B) : GoodIn lw_tbl (wsV R_law x C y (c :: am_B)) := by
  have g : ∀ w, w ∈ am_B → w ∈ lw_tbl ∧ ((w.onTables && w.keeps) = true ∨ ∃ ty, w = .arrayClass ty) := fun w h => ⟨(List.mem_filter.mp h).1, good_of_word (List.mem_filter.mp h).2⟩
  intro w hw
  rcases List.mem_append.mp hw with h | h
  · simp only [List.mem_cons, List.not_mem_nil, or_false] at h
    rcases h with rfl | rfl | rfl | rfl
    · exact g _ h1
    · exact g _ h2
    · exact g _ h3
    · exact g _ h4
  · exact (List.mem_cons.mp h).elim (fun e => e ▸ g _ hc) (fun h => g _ h)
def lw_G (p : Program) (s : State) (m : MethodId) (meth : Method) (c : Code) (dC : Nat → ClassId) (dI : Nat → Nat → Nat) (dA : Nat → ClassId) (ad : Nat → Nat → Nat) (adV : Nat → Nat) (b L : Nat) (xs : Nat → Int32) : Prop := lw_At p s m meth c b L xs ∧ va_K (dC, dI) vwCl (am_ty dA) s ∧ va_D (NW s.heap.size) (am_w ad dA (fun _ _ _ => 0)) ∧ am_Xs ad adV (NW s.heap.size) s s.heap
set_option maxHeartbeats 4000000 in
theorem lw_call {p : Program} {l : Launch} {e : Env} {s : State} {m : MethodId} {below : List Frame} {meth : Method} {c : Code} {dC : Nat → ClassId} {dI : Nat → Nat → Nat} {dA : Nat → ClassId} {ad : Nat → Nat → Nat} {adV : Nat → Nat} {b L : Nat} {xs : Nat → Int32} {Q : State → Prop} {y : MethodName} {bytes : ByteArray} {maxL : Nat} {ret : Option FieldType} {rm : Room} {f : am_Spec} {x n : Nat} (k ci : Nat) {r : vw_C} {fs : List am_F} {σ : am_M} {K : Option am_V → am_M → Prop} (as : List am_V) {H : Heap} {locs : List Loc} {pc : Nat} {ls : Array Slot} (rest : List Value)
    (hG : lw_G p s m meth c dC dI dA ad adV b L xs) (hS0 : am_Snd vwCl y (Jvm.Cond.code y bytes maxL ret :: am_B) rm f) (hw : GoodIn lw_tbl (wsV R_law x r.1 y (Jvm.Cond.code y bytes maxL ret :: am_B))) (hci : vwCl[ci]? = some r) (hsh : (am_sh k).2 = .inl (ci, fs)) (hk32 : k < 32) (hk1 : 0 < (am_sh k).1) (hrc : rm.cells = 0) (hrs : rm.slots = 0)
    (hd : y.cls = r.1 ∧ y.cls ≠ "java/lang/invoke/MethodHandle" ∧ y.cls ≠ "java/lang/invoke/VarHandle" ∧ (parseMethodDescriptor y.desc).map (fun d => d.parameters.length) = some n) (hR : rm.frames + 1 ≤ 13 ∧ 8 + (maxL + 11) + rm.locals ≤ 466) (hn : as.length = n) (hok : ∀ v ∈ as, am_ok v) (hf : f (am_r k 0 :: as) σ K) (hnn : ∀ τ, ¬ K none τ) (hP : va_P (dC, dI) vwCl (am_w ad dA σ) H) (hS : va_S (NW s.heap.size) s.heap H locs) (hls : ls.size = 4) (hcat : (rest.map fun v => v.category).sum ≤ 8) (hdec : decode code pc = .ok (.invokevirtual x, 3))
    (kk : ∀ v τ H1 locs1, K (some v) τ → va_P (dC, dI) vwCl (am_w ad dA τ) H1 → va_S (NW s.heap.size) s.heap H1 locs1 → W p l e room_1 s m #[Value.ref b] below meth c H1 locs1 600000 7302250 Q (F0 m (pc + 3) ls (am_c ad v :: rest))) : W p l e room_1 s m #[Value.ref b] below meth c H locs 600000 7302250 Q (F0 m pc ls ((as.map (am_c ad)).reverse ++ .ref (ad k 0) :: rest)) := by
  obtain ⟨⟨hx, hb, hr, hml, hown, hts, hX0, hbl, hlocks, hgv⟩, hK, hD, hXs⟩ := hG
  intro T hT X
  have he : (am_w ad dA σ)[am_off k + 0]? = some (ad k 0, .inr (ci, am_fv ad (σ k 0) 0 0 fs)) := by
    rw [am_w_get hk32 hk1]
    unfold am_cell
    rw [hsh]
  have hAB : ∀ q, am_A ad H.size q → NW s.heap.size q := fun q h => h.elim (fun ⟨k', i', a1, a2, a3⟩ => by rw [a3]; exact hD.2 _ (ad k' i', am_cell ad dA ((fun _ _ _ => 0 : am_M) k' i') k' i') (am_w_get a1 a2)) (fun h => Nat.le_trans hS.1 h)
  have hok' : ∀ v ∈ am_r k 0 :: as, am_ok v := fun v hv => (List.mem_cons.mp hv).elim (fun e => by rw [e]; exact hk1) (hok v)
  have run := va_runV (p := p) (l := l) (e := e) (below := below) (meth := meth) (locs := locs) (R := room_1) (cells := 600000) (slots := 7302250) (C := r.1) (b := ad k 0) (As := as.map (am_c ad)) (rest := rest) (g := F0 m pc ls ((as.map (am_c ad)).reverse ++ .ref (ad k 0) :: rest)) (nL := 4) ⟨hx, hb, hml, hown, hts⟩ (hS0 l dC dI dA ad adV H.size (am_r k 0 :: as) σ K hok' hf) (cwV n hts hw rfl hrc hrs hd hR) ⟨am_Pc_blind, va_recv hK hP hci he, fun U hU hW => ⟨rfl, by rw [hU], by rw [hU]; exact hP, va_K.moved hW.alike hK, ⟨(am_D_any hD).1, fun _ _ _ => trivial⟩, by rw [hU]; exact hXs.to hW hS.2.1 hAB⟩⟩ rfl (by rw [List.length_map, hn]) hls rfl (lv_room hcat) hdec ⟨Nat.le_refl _, Nat.le_refl _⟩
  obtain ⟨v, st₀, t, T', Lc, h0, X', hL, e1, e2, ⟨⟨rr, τ, hv, hok2, hKr, hPt⟩, hz, hk2⟩, stp⟩ := run T hT X
  rw [h0] at hz hk2
  have hv' : v = rr.map (am_c ad) := by injection hv
  subst hv'
  cases rr with
  | none => exact absurd hKr (hnn τ)
  | some w =>
    have hS' : va_S (NW s.heap.size) s.heap T'.heap (locs ++ Lc) := ⟨Nat.le_trans hS.1 (by rw [e1]; exact hz), fun q h1 h2 => by
      rw [e1, hk2 q (Nat.lt_of_lt_of_le h1 hS.1) (fun z => h2 (hAB q z))]
      exact hS.2.1 q h1 h2, fun q hq => by
      rcases List.mem_append.mp hq with h | h
      · exact hS.2.2 q h
      · exact hAB _ (hL q h)⟩
    obtain ⟨t2, a1, b1⟩ := kk w τ T'.heap (locs ++ Lc) hKr (by rw [e1]; exact hPt) hS' T' rfl X'
    exact ⟨t2, stp t2 a1, b1⟩
theorem am_k1 {g : am_Spec} {as : List am_V} : ∀ τ, ¬ (fun (v : Option am_V) (τ : am_M) => ∃ r : Int32, v = some (.inl r) ∧ g (am_r 20 0 :: as) τ (fun w τ2 => w = some (.inl r) ∧ Inv τ2)) none τ := fun τ ⟨r, h, _⟩ => by cases h
theorem am_k2 {r : am_V} : ∀ τ, ¬ (fun (w : Option am_V) (τ2 : am_M) => w = some r ∧ Inv τ2) none τ := fun τ h => by cases h.1
theorem am_k3 {g : am_Spec} {as : List am_V} : ∀ τ, ¬ (fun (v : Option am_V) (τ : am_M) => ∃ r : Int64, v = some (.inr (.inl r)) ∧ g (am_r 20 0 :: as) τ (fun w τ2 => w = some (.inr (.inl r)) ∧ Inv τ2)) none τ := fun τ ⟨r, h, _⟩ => by cases h
theorem am_okI1 {a : Int32} : ∀ v ∈ ([.inl a] : List am_V), am_ok v := fun v hv => by simp at hv; subst hv; trivial
theorem am_okIs (l : List Int32) : ∀ v ∈ l.map (fun a => (.inl a : am_V)), am_ok v := fun v hv => by
  obtain ⟨a, -, rfl⟩ := List.mem_map.mp hv
  trivial
