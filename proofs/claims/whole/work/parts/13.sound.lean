/-! the abstract steps are the machine's -/
theorem am_ldI_e {ls : am_L} {i : Nat} {f : Int32 → Prop} (h : am_ldI ls i f) : ∃ x, ls[i]? = some (some (.inl x)) ∧ f x := by
  unfold am_ldI at h
  split at h
  · rename_i x e
    exact ⟨x, e, h⟩
  · exact h.elim
theorem am_ldL_e {ls : am_L} {i : Nat} {f : Int64 → Prop} (h : am_ldL ls i f) : ∃ x, ls[i]? = some (some (.inr (.inl x))) ∧ f x := by
  unfold am_ldL at h
  split at h
  · rename_i x e
    exact ⟨x, e, h⟩
  · exact h.elim
theorem am_ldR_e {ls : am_L} {i : Nat} {f : Nat × Nat → Prop} (h : am_ldR ls i f) : ∃ x, ls[i]? = some (some (.inr (.inr x))) ∧ f x := by
  unfold am_ldR at h
  split at h
  · rename_i x e
    exact ⟨x, e, h⟩
  · exact h.elim
theorem am_st1_e {ls : am_L} {i : Nat} {v : am_V} {f : am_L → Prop} (h : am_st1 ls i v f) : i < ls.length ∧ f ((am_kill ls i).set i (some v)) := by
  unfold am_st1 at h
  split at h
  · rename_i x e
    exact ⟨(List.getElem?_eq_some_iff.mp e).1, h⟩
  · exact h.elim
theorem am_st2_e {ls : am_L} {i : Nat} {v : am_V} {f : am_L → Prop} (h : am_st2 ls i v f) : i + 1 < ls.length ∧ f (((am_kill ls i).set i (some v)).set (i + 1) none) := by
  unfold am_st2 at h
  split at h
  · rename_i x e
    exact ⟨(List.getElem?_eq_some_iff.mp e).1, h⟩
  · exact h.elim
theorem am_p1_e {st : List am_V} {f : Int32 → List am_V → Prop} (h : am_p1 st f) : ∃ x r, st = .inl x :: r ∧ f x r := by
  unfold am_p1 at h
  split at h
  · exact ⟨_, _, rfl, h⟩
  · exact h.elim
theorem am_p2_e {st : List am_V} {f : Int32 → Int32 → List am_V → Prop} (h : am_p2 st f) : ∃ x y r, st = .inl y :: .inl x :: r ∧ f x y r := by
  unfold am_p2 at h
  split at h
  · exact ⟨_, _, _, rfl, h⟩
  · exact h.elim
theorem am_q1_e {st : List am_V} {f : Int64 → List am_V → Prop} (h : am_q1 st f) : ∃ x r, st = .inr (.inl x) :: r ∧ f x r := by
  unfold am_q1 at h
  split at h
  · exact ⟨_, _, rfl, h⟩
  · exact h.elim
theorem am_q2_e {st : List am_V} {f : Int64 → Int64 → List am_V → Prop} (h : am_q2 st f) : ∃ x y r, st = .inr (.inl y) :: .inr (.inl x) :: r ∧ f x y r := by
  unfold am_q2 at h
  split at h
  · exact ⟨_, _, _, rfl, h⟩
  · exact h.elim
theorem am_tgt_e {pc : Nat} {off : Int} {f : Nat → Prop} (h : am_tgt pc off f) : ∃ t : Nat, (pc : Int) + off = (t : Int) ∧ f t := by
  unfold am_tgt at h
  split at h
  · rename_i t e
    exact ⟨t, e, h⟩
  · exact h.elim
theorem am_sw_e {pc : Nat} {x : Int32} {d : Int} {N : Nat → Prop} : ∀ {l : List (Int × Int)}, am_sw pc x d N l → ∃ t : Nat, (pc : Int) + Op.lookupswitch.offset l d x.toInt = (t : Int) ∧ N t
  | [], h => am_tgt_e h
  | (k, o) :: r, h => by
    rw [Op.lookupswitch.offset_cons]
    by_cases e : k = x.toInt
    · rw [if_pos e]
      exact am_tgt_e (h.1 e.symm)
    · rw [if_neg e]
      exact am_sw_e (h.2 (fun q => e q.symm))
theorem am_tab_off {d : Int} {x : Int} : ∀ {l : List Int} {lo : Int}, (x < lo ∨ lo + l.length - 1 < x) → Op.lookupswitch.offset (am_tab lo l) d x = d
  | [], _, _ => rfl
  | o :: r, lo, h => by
    have hl : ((o :: r).length : Int) = (r.length : Int) + 1 := by simp
    unfold am_tab
    rw [Op.lookupswitch.offset_cons, if_neg (by omega)]
    exact am_tab_off (by omega)
theorem am_tab_in {d : Int} {x : Int} : ∀ {l : List Int} {lo : Int}, lo ≤ x → x ≤ lo + l.length - 1 → l[(x - lo).toNat]? = some (Op.lookupswitch.offset (am_tab lo l) d x)
  | [], lo, h1, h2 => by
    have : ((([] : List Int)).length : Int) = 0 := rfl
    omega
  | o :: r, lo, h1, h2 => by
    have hl : ((o :: r).length : Int) = (r.length : Int) + 1 := by simp
    unfold am_tab
    rw [Op.lookupswitch.offset_cons]
    by_cases e : lo = x
    · rw [if_pos e, e]
      simp
    · rw [if_neg e, show (x - lo).toNat = (x - (lo + 1)).toNat + 1 by omega, List.getElem?_cons_succ]
      exact am_tab_in (by omega) (by omega)
theorem am_okc {v : am_V} {r : List am_V} (h : am_ok v) (hr : ∀ w ∈ r, am_ok w) : ∀ w ∈ v :: r, am_ok w := fun w hw => (List.mem_cons.mp hw).elim (fun e => e ▸ h) (hr w)
theorem am_okt {v : am_V} {r : List am_V} (h : ∀ w ∈ v :: r, am_ok w) : ∀ w ∈ r, am_ok w := fun w hw => h w (List.mem_cons_of_mem _ hw)
/-- the lengths of the instructions -/
def am_ln (i : Instr) : Nat := match i with
  | .tableswitch .. => 0
  | .lookupswitch .. => 0
  | .bipush _ | .ldc _ | .iload _ | .lload _ | .aload _ | .istore _ | .lstore _ | .astore _ => 2
  | .sipush _ | .ldc_w _ | .ldc2_w _ | .iinc .. | .goto _ | .ifCond .. | .if_icmp .. | .getfield _ | .putfield _ | .invokevirtual _ | .invokestatic _ => 3
  | _ => 1
def am_dec (cc : ByteArray) (lst : List (Nat × Instr)) : Bool := lst.all fun q => match decode cc q.1 with
  | .ok (i, n) => decide (i = q.2) && (am_ln i == 0 || am_ln i == n)
  | .error _ => false
theorem am_dec_e {cc : ByteArray} {lst : List (Nat × Instr)} (h : am_dec cc lst = true) {pc : Nat} {i : Instr} (hi : (pc, i) ∈ lst) : ∃ n, decode cc pc = .ok (i, n) ∧ (am_ln i ≠ 0 → decode cc pc = .ok (i, am_ln i)) := by
  have h1 := List.all_eq_true.mp h _ hi
  dsimp only at h1
  split at h1
  · rename_i i' n e
    simp only [Bool.and_eq_true, decide_eq_true_eq, Bool.or_eq_true, beq_iff_eq] at h1
    obtain ⟨rfl, h2⟩ := h1
    refine ⟨n, e, fun h3 => ?_⟩
    rcases h2 with h2 | h2
    · exact absurd h2 h3
    · rw [h2]
      exact e
  · cases h1
theorem am_sh_t {k n t : Nat} {o : Option (Nat → Nat → Nat × Nat)} (h : (am_sh k).2 = .inr (n, t, o)) : t < 6 ∧ (o.isSome = true → 3 ≤ t) := by
  unfold am_sh at h
  split at h <;> cases h <;> exact ⟨by decide, by decide⟩
theorem am_ty_t {dA : Nat → ClassId} {t : Nat} (h : t < 6) : ∃ ty, (am_ty dA)[t]? = some (dA t, ty) ∧ (3 ≤ t → ty.isReference = true) := by
  rcases (show t = 0 ∨ t = 1 ∨ t = 2 ∨ t = 3 ∨ t = 4 ∨ t = 5 by omega) with rfl | rfl | rfl | rfl | rfl | rfl
  · exact ⟨_, rfl, by decide⟩
  · exact ⟨_, rfl, by decide⟩
  · exact ⟨_, rfl, by decide⟩
  · exact ⟨_, rfl, fun _ => rfl⟩
  · exact ⟨_, rfl, fun _ => rfl⟩
  · exact ⟨_, rfl, fun _ => rfl⟩
def am_Rd (cl : List vw_C) (dC : Nat → ClassId) (dI : Nat → Nat → Nat) (dA : Nat → ClassId) (ad : Nat → Nat → Nat) (A : Nat → Prop) (nL : Nat) (s : State) (ls : am_L) (st : List am_V) (σ : am_M) (H : Heap) (locs : List Loc) (arr : Array Slot) : Prop :=
  am_H ad arr nL ls ∧ (∀ (i : Nat) (v : am_V), ls[i]? = some (some v) → am_ok v) ∧ (∀ v ∈ st, am_ok v) ∧ va_P (dC, dI) cl (am_w ad dA σ) H ∧ va_S A s.heap H locs
theorem am_Rd.stk {cl : List vw_C} {dC : Nat → ClassId} {dI : Nat → Nat → Nat} {dA : Nat → ClassId} {ad : Nat → Nat → Nat} {A : Nat → Prop} {nL : Nat} {s : State} {ls : am_L} {st st' : List am_V} {σ : am_M} {H : Heap} {locs : List Loc} {arr : Array Slot} (h : am_Rd cl dC dI dA ad A nL s ls st σ H locs arr) (hs : ∀ v ∈ st', am_ok v) : am_Rd cl dC dI dA ad A nL s ls st' σ H locs arr := ⟨h.1, h.2.1, hs, h.2.2.2⟩
theorem am_kill_any {ls : am_L} {i j : Nat} {w : am_V} (h : (am_kill ls i)[j]? = some (some w)) : ls[j]? = some (some w) := (am_kill_get (ad := fun _ _ => 0) h).1
theorem am_Rd.st1 {cl : List vw_C} {dC : Nat → ClassId} {dI : Nat → Nat → Nat} {dA : Nat → ClassId} {ad : Nat → Nat → Nat} {A : Nat → Prop} {nL : Nat} {s : State} {ls : am_L} {st st' : List am_V} {σ : am_M} {H : Heap} {locs : List Loc} {arr arr' : Array Slot} {i : Nat} {v : am_V} (h : am_Rd cl dC dI dA ad A nL s ls st σ H locs arr) (hi : i < nL) (hv : am_ok v) (hs : ∀ v ∈ st', am_ok v) (h' : lv_has arr' nL ((i, am_c ad v) :: (am_lv ad 0 ls).filter (fun q => !(q.1 == i) && !(q.1 + 1 == i && q.2.category == 2)))) : am_Rd cl dC dI dA ad A nL s ((am_kill ls i).set i (some v)) st' σ H locs arr' := by
  refine ⟨am_H_st1 h.1.2 hi h', fun j w hw => ?_, hs, h.2.2.2⟩
  by_cases e : i = j
  · subst e
    rw [List.getElem?_set_self (by rw [am_kill_len, h.1.2]; exact hi)] at hw
    cases hw
    exact hv
  · rw [List.getElem?_set_ne e] at hw
    exact h.2.1 j w (am_kill_any hw)
theorem am_Rd.st2 {cl : List vw_C} {dC : Nat → ClassId} {dI : Nat → Nat → Nat} {dA : Nat → ClassId} {ad : Nat → Nat → Nat} {A : Nat → Prop} {nL : Nat} {s : State} {ls : am_L} {st st' : List am_V} {σ : am_M} {H : Heap} {locs : List Loc} {arr arr' : Array Slot} {i : Nat} {v : am_V} (h : am_Rd cl dC dI dA ad A nL s ls st σ H locs arr) (hi : i + 1 < nL) (hv : am_ok v) (hs : ∀ v ∈ st', am_ok v) (h' : lv_has arr' nL ((i, am_c ad v) :: (am_lv ad 0 ls).filter (fun q => !(q.1 == i) && (!(q.1 == i + 1) && !(q.1 + 1 == i && q.2.category == 2))))) : am_Rd cl dC dI dA ad A nL s (((am_kill ls i).set i (some v)).set (i + 1) none) st' σ H locs arr' := by
  refine ⟨am_H_st2 h.1.2 hi h', fun j w hw => ?_, hs, h.2.2.2⟩
  by_cases e0 : i + 1 = j
  · subst e0
    rw [List.getElem?_set_self (by rw [List.length_set, am_kill_len, h.1.2]; exact hi)] at hw
    cases hw
  · rw [List.getElem?_set_ne e0] at hw
    by_cases e : i = j
    · subst e
      rw [List.getElem?_set_self (by rw [am_kill_len, h.1.2]; omega)] at hw
      cases hw
      exact hv
    · rw [List.getElem?_set_ne e] at hw
      exact h.2.1 j w (am_kill_any hw)
def am_W (p : Program) (l : Launch) (e : Env) (R : Room) (s : State) (m : MethodId) (args : Array Value) (below : List Frame) (meth : Method) (c : Code) (Q : State → Prop) (cl : List vw_C) (dC : Nat → ClassId) (dI : Nat → Nat → Nat) (dA : Nat → ClassId) (ad : Nat → Nat → Nat) (A : Nat → Prop) (nL : Nat) (pc : Nat) (ls : am_L) (st : List am_V) (σ : am_M) : Prop :=
  ∀ (H : Heap) (locs : List Loc) (arr : Array Slot), am_Rd cl dC dI dA ad A nL s ls st σ H locs arr → W p l e R s m args below meth c H locs 0 0 Q (F0 m pc arr (st.map (am_c ad)))
/-- a field, by its pool number -/
def am_Fok (cl : List vw_C) (own : String) (s : State) (args : Array Value) (Ts : List Jvm.Cond) (x ci j : Nat) : Prop := ∃ (C : String) (T : u_T) (n : Nat) (ty0 : Nat → FieldType), cl[ci]? = some (C, T, n) ∧ (∀ w ∈ u_ws C T n, w ∈ Ts) ∧ j < n ∧ (Jvm.Cond.fieldLink own x (T j).1 (T j).2.1 (T j).2.2.1).before args s = true ∧ (∀ k, k < n → parseFieldDescriptor (T k).2.2.1 = some (ty0 k)) ∧ (∀ a, a < n → ∀ b, b < n → a ≠ b → (T a).2.1 ≠ (T b).2.1) ∧ ∀ k fs ty, (am_sh k).2 = .inl (ci, fs) → fs[j]? = some (.inl ty) → (T j).2.2.2 = false ∧ ty0 j = ty
/-- a constant, by its pool number -/
def am_Kok (ad : Nat → Nat → Nat) (own : String) (s : State) (args : Array Value) (x : Nat) (v : am_V) : Prop := match v with
  | .inl v => (Jvm.Cond.constant own x v).before args s = true
  | .inr (.inl v) => (Jvm.Cond.constantLong own x v).before args s = true
  | .inr (.inr q) => am_ok (.inr (.inr q)) ∧ ∃ tx, vk_R own x tx (ad q.1 q.2) s
/-- a method's end -/
def am_Qc (cl : List vw_C) (dC : Nat → ClassId) (dI : Nat → Nat → Nat) (dA : Nat → ClassId) (ad : Nat → Nat → Nat) (A : Nat → Prop) (K : Option am_V → am_M → Prop) : Array Value → State → Outcome → State → Prop := fun _ st oc t => (∃ (r : Option am_V) (τ : am_M), oc = .returned (r.map (am_c ad)) ∧ (∀ v, r = some v → am_ok v) ∧ K r τ ∧ va_P (dC, dI) cl (am_w ad dA τ) t.heap) ∧ va_F A st t
def am_inv (rc : Option Nat) (x : Nat) : Instr := match rc with
  | some _ => .invokevirtual x
  | none => .invokestatic x
set_option maxHeartbeats 4000000 in
set_option maxRecDepth 100000 in
theorem am_sound {p : Program} {l : Launch} {e : Env} {R : Room} {s : State} {m : MethodId} {args : Array Value} {below : List Frame} {meth : Method} {c : Code} {cl : List vw_C} {dC : Nat → ClassId} {dI : Nat → Nat → Nat} {dA : Nat → ClassId} {ad : Nat → Nat → Nat} {A : Nat → Prop} {nL : Nat} {cc : ByteArray} {ret : Option FieldType} {own : String} {Ts : List Jvm.Cond} {E : am_E} {lst : List (Nat × Instr)} {K : Option am_V → am_M → Prop}
    (hx : p.tables.exec = Jvm.exec) (hb : c.code = cc) (hr : meth.sig.returnType = ret) (hlk : meth.locks = false) (hown : s.vm.findClass own = some m.cls) (hts : ∀ w ∈ Ts, w.before args s = true) (hK : va_K (dC, dI) cl (am_ty dA) s) (hD : va_D A (am_w ad dA (fun _ _ _ => 0))) (hlst : am_dec cc lst = true)
    (hfld : ∀ x ci j, E.1 x = some (ci, j) → am_Fok cl own s args Ts x ci j)
    (hcst : ∀ x v, E.2.2 x = some v → am_Kok ad own s args x v)
    (hcal : ∀ x n rc f, E.2.1 x = some (n, rc, f) → ∀ (pc : Nat) (ls : am_L) (as rest : List am_V) (σ : am_M), as.length = n → am_cat rest ≤ 8 → am_rcv rc as → decode cc pc = .ok (am_inv rc x, 3) → f as σ (fun v τ => am_W p l e R s m args below meth c (MQ below (am_Qc cl dC dI dA ad A K) args s 0 0 A) cl dC dI dA ad A nL (pc + 3) ls (v.toList ++ rest) τ) → am_W p l e R s m args below meth c (MQ below (am_Qc cl dC dI dA ad A K) args s 0 0 A) cl dC dI dA ad A nL pc ls (as.reverse ++ rest) σ) :
    am_cl E lst ret K (am_W p l e R s m args below meth c (MQ below (am_Qc cl dC dI dA ad A K) args s 0 0 A) cl dC dI dA ad A nL) := by
  refine ⟨?_, fun pc ls ls' st σ hl hW H locs arr hR => ?_⟩
  rotate_left
  · obtain ⟨e1, e2⟩ := am_lel_get hl
    obtain ⟨⟨hH, hL⟩, hv1, hv2, hPS⟩ := hR
    refine hW H locs arr ⟨⟨⟨hH.1, hH.2.1, fun q hq => ?_⟩, by rw [e1, hL]⟩, fun i v hv => hv1 i v (e2 i v hv), hv2, hPS⟩
    obtain ⟨i, v, h1, rfl⟩ := am_lv_out hq
    exact hH.2.2 _ (am_lv_in (e2 i v h1))
  intro pc ls st σ h0
  unfold am_stp at h0
  cases hf : am_find lst pc with
  | none =>
    rw [hf] at h0
    exact h0.elim
  | some ins =>
  rw [hf] at h0
  obtain ⟨len, hd0, hd1⟩ := am_dec_e hlst (am_find_in hf)
  intro H locs arr hR
  obtain ⟨hH, hv1, hv2, hP, hS⟩ := id hR
  have h := h0
  clear h0
  cases ins with
  | iconst n => exact lv_iconst hx hb (hd1 (show (1 : Nat) ≠ 0 by decide)) rfl (h H locs arr (hR.stk (am_okc trivial hv2)))
  | bipush n => exact lv_bipush hx hb (hd1 (show (2 : Nat) ≠ 0 by decide)) rfl (h H locs arr (hR.stk (am_okc trivial hv2)))
  | sipush n => exact lv_sipush hx hb (hd1 (show (3 : Nat) ≠ 0 by decide)) rfl (h H locs arr (hR.stk (am_okc trivial hv2)))
  | lconst n => exact lv_lconst hx hb (hd1 (show (1 : Nat) ≠ 0 by decide)) rfl (h H locs arr (hR.stk (am_okc trivial hv2)))
  | ldc x =>
    simp only [am_step] at h
    split at h
    · rename_i v ev
      exact lv_ldc hx hb hown (hcst _ _ ev) (hd1 (show (2 : Nat) ≠ 0 by decide)) (h H locs arr (hR.stk (am_okc trivial hv2)))
    · rename_i q ev
      obtain ⟨k1, tx, k2⟩ := hcst _ _ ev
      exact va_ldcS hx hb hown k2 (hd1 (show (2 : Nat) ≠ 0 by decide)) (h H locs arr (hR.stk (am_okc k1 hv2)))
    · exact h.elim
  | ldc_w x =>
    simp only [am_step] at h
    split at h
    · rename_i v ev
      exact lv_ldcw hx hb hown (hcst _ _ ev) (hd1 (show (3 : Nat) ≠ 0 by decide)) (h H locs arr (hR.stk (am_okc trivial hv2)))
    · exact h.elim
  | ldc2_w x =>
    simp only [am_step] at h
    split at h
    · rename_i v ev
      exact lv_ldc2 hx hb hown (hcst _ _ ev) (hd1 (show (3 : Nat) ≠ 0 by decide)) (h H locs arr (hR.stk (am_okc trivial hv2)))
    · exact h.elim
  | iload i =>
    obtain ⟨x, e1, h⟩ := am_ldI_e h
    exact lv_iload hx hb (hd1 (show (2 : Nat) ≠ 0 by decide)) (am_H_get hH e1) (h H locs arr (hR.stk (am_okc trivial hv2)))
  | iload_n i =>
    obtain ⟨x, e1, h⟩ := am_ldI_e h
    exact lv_iload_n hx hb (hd1 (show (1 : Nat) ≠ 0 by decide)) rfl (am_H_get hH e1) (h H locs arr (hR.stk (am_okc trivial hv2)))
  | lload i =>
    obtain ⟨x, e1, h⟩ := am_ldL_e h
    exact lv_lload hx hb (hd1 (show (2 : Nat) ≠ 0 by decide)) (am_H_get hH e1) (h H locs arr (hR.stk (am_okc trivial hv2)))
  | lload_n i =>
    obtain ⟨x, e1, h⟩ := am_ldL_e h
    exact lv_lload_n hx hb (hd1 (show (1 : Nat) ≠ 0 by decide)) rfl (am_H_get hH e1) (h H locs arr (hR.stk (am_okc trivial hv2)))
  | aload i =>
    obtain ⟨x, e1, h⟩ := am_ldR_e h
    exact lv_aload hx hb (hd1 (show (2 : Nat) ≠ 0 by decide)) (am_H_get hH e1) (h H locs arr (hR.stk (am_okc (hv1 _ _ e1) hv2)))
  | aload_n i =>
    obtain ⟨x, e1, h⟩ := am_ldR_e h
    exact lv_aload_n hx hb (hd1 (show (1 : Nat) ≠ 0 by decide)) rfl (am_H_get hH e1) (h H locs arr (hR.stk (am_okc (hv1 _ _ e1) hv2)))
  | istore i =>
    obtain ⟨x, r, rfl, h2⟩ := am_p1_e h
    clear h
    obtain ⟨hi, h⟩ := am_st1_e h2
    rw [hH.2] at hi
    exact lv_istore (rest := r.map (am_c ad)) hx hb (hd1 (show (2 : Nat) ≠ 0 by decide)) hH.1 hi rfl (fun arr' h' => h H locs arr' (hR.st1 (v := .inl x) hi trivial (am_okt hv2) h'))
  | istore_n i =>
    obtain ⟨x, r, rfl, h2⟩ := am_p1_e h
    clear h
    obtain ⟨hi, h⟩ := am_st1_e h2
    rw [hH.2] at hi
    exact lv_istore_n (rest := r.map (am_c ad)) hx hb (hd1 (show (1 : Nat) ≠ 0 by decide)) rfl hH.1 hi rfl (fun arr' h' => h H locs arr' (hR.st1 (v := .inl x) hi trivial (am_okt hv2) h'))
  | lstore i =>
    obtain ⟨x, r, rfl, h2⟩ := am_q1_e h
    clear h
    obtain ⟨hi, h⟩ := am_st2_e h2
    rw [hH.2] at hi
    exact lv_lstore (rest := r.map (am_c ad)) hx hb (hd1 (show (2 : Nat) ≠ 0 by decide)) hH.1 hi rfl (fun arr' h' => h H locs arr' (hR.st2 (v := .inr (.inl x)) hi trivial (am_okt hv2) h'))
  | lstore_n i =>
    obtain ⟨x, r, rfl, h2⟩ := am_q1_e h
    clear h
    obtain ⟨hi, h⟩ := am_st2_e h2
    rw [hH.2] at hi
    exact lv_lstore_n (rest := r.map (am_c ad)) hx hb (hd1 (show (1 : Nat) ≠ 0 by decide)) rfl hH.1 hi rfl (fun arr' h' => h H locs arr' (hR.st2 (v := .inr (.inl x)) hi trivial (am_okt hv2) h'))
  | astore i =>
    simp only [am_step] at h
    split at h
    · rename_i q r
      obtain ⟨hi, h⟩ := am_st1_e h
      rw [hH.2] at hi
      exact lv_astore (rest := r.map (am_c ad)) hx hb (hd1 (show (2 : Nat) ≠ 0 by decide)) hH.1 hi rfl (fun arr' h' => h H locs arr' (hR.st1 (v := .inr (.inr q)) hi (hv2 _ List.mem_cons_self) (am_okt hv2) h'))
    · exact h.elim
  | astore_n i =>
    simp only [am_step] at h
    split at h
    · rename_i q r
      obtain ⟨hi, h⟩ := am_st1_e h
      rw [hH.2] at hi
      exact lv_astore_n (rest := r.map (am_c ad)) hx hb (hd1 (show (1 : Nat) ≠ 0 by decide)) rfl hH.1 hi rfl (fun arr' h' => h H locs arr' (hR.st1 (v := .inr (.inr q)) hi (hv2 _ List.mem_cons_self) (am_okt hv2) h'))
    · exact h.elim
  | iinc i n =>
    obtain ⟨x, e1, h⟩ := am_ldI_e h
    obtain ⟨hi, h⟩ := am_st1_e h
    rw [hH.2] at hi
    obtain ⟨k, hk⟩ := List.getElem?_of_mem (am_lv_in (ad := ad) (n := 0) e1)
    rw [Nat.zero_add] at hk
    exact lv_iinc hx hb (hd1 (show (3 : Nat) ≠ 0 by decide)) hH.1 hk rfl hi rfl (fun arr' h' => h H locs arr' (hR.st1 (v := .inl (x + Int32.ofInt n)) hi trivial hv2 h'))
  | iadd =>
    obtain ⟨x, y, r, rfl, h⟩ := am_p2_e h
    exact lv_iadd (rest := r.map (am_c ad)) hx hb (hd1 (by decide)) (h H locs arr (hR.stk (am_okc trivial (am_okt (am_okt hv2)))))
  | isub =>
    obtain ⟨x, y, r, rfl, h⟩ := am_p2_e h
    exact lv_isub (rest := r.map (am_c ad)) hx hb (hd1 (by decide)) (h H locs arr (hR.stk (am_okc trivial (am_okt (am_okt hv2)))))
  | imul =>
    obtain ⟨x, y, r, rfl, h⟩ := am_p2_e h
    exact lv_imul (rest := r.map (am_c ad)) hx hb (hd1 (by decide)) (h H locs arr (hR.stk (am_okc trivial (am_okt (am_okt hv2)))))
  | iand =>
    obtain ⟨x, y, r, rfl, h⟩ := am_p2_e h
    exact lv_iand (rest := r.map (am_c ad)) hx hb (hd1 (by decide)) (h H locs arr (hR.stk (am_okc trivial (am_okt (am_okt hv2)))))
  | ior =>
    obtain ⟨x, y, r, rfl, h⟩ := am_p2_e h
    exact lv_ior (rest := r.map (am_c ad)) hx hb (hd1 (by decide)) (h H locs arr (hR.stk (am_okc trivial (am_okt (am_okt hv2)))))
  | ixor =>
    obtain ⟨x, y, r, rfl, h⟩ := am_p2_e h
    exact lv_ixor (rest := r.map (am_c ad)) hx hb (hd1 (by decide)) (h H locs arr (hR.stk (am_okc trivial (am_okt (am_okt hv2)))))
  | idiv =>
    obtain ⟨x, y, r, rfl, h⟩ := am_p2_e h
    exact lv_idiv (rest := r.map (am_c ad)) hx hb (hd1 (by decide)) h.1 (h.2 H locs arr (hR.stk (am_okc trivial (am_okt (am_okt hv2)))))
  | irem =>
    obtain ⟨x, y, r, rfl, h⟩ := am_p2_e h
    exact lv_irem (rest := r.map (am_c ad)) hx hb (hd1 (by decide)) h.1 (h.2 H locs arr (hR.stk (am_okc trivial (am_okt (am_okt hv2)))))
  | ineg =>
    obtain ⟨x, r, rfl, h⟩ := am_p1_e h
    exact lv_ineg (rest := r.map (am_c ad)) hx hb (hd1 (by decide)) (h H locs arr (hR.stk (am_okc trivial (am_okt hv2))))
  | ishl =>
    obtain ⟨x, y, r, rfl, h⟩ := am_p2_e h
    exact lv_ishl (rest := r.map (am_c ad)) hx hb (hd1 (by decide)) (h H locs arr (hR.stk (am_okc trivial (am_okt (am_okt hv2)))))
  | ishr =>
    obtain ⟨x, y, r, rfl, h⟩ := am_p2_e h
    exact lv_ishr (rest := r.map (am_c ad)) hx hb (hd1 (by decide)) (h H locs arr (hR.stk (am_okc trivial (am_okt (am_okt hv2)))))
  | iushr =>
    obtain ⟨x, y, r, rfl, h⟩ := am_p2_e h
    exact lv_iushr (rest := r.map (am_c ad)) hx hb (hd1 (by decide)) rfl (h H locs arr (hR.stk (am_okc trivial (am_okt (am_okt hv2)))))
  | ladd =>
    obtain ⟨x, y, r, rfl, h⟩ := am_q2_e h
    exact lv_ladd (rest := r.map (am_c ad)) hx hb (hd1 (by decide)) (h H locs arr (hR.stk (am_okc trivial (am_okt (am_okt hv2)))))
  | lmul =>
    obtain ⟨x, y, r, rfl, h⟩ := am_q2_e h
    exact lv_lmul (rest := r.map (am_c ad)) hx hb (hd1 (by decide)) (h H locs arr (hR.stk (am_okc trivial (am_okt (am_okt hv2)))))
  | ldiv =>
    obtain ⟨x, y, r, rfl, h⟩ := am_q2_e h
    exact lv_ldiv (rest := r.map (am_c ad)) hx hb (hd1 (by decide)) h.1 (h.2 H locs arr (hR.stk (am_okc trivial (am_okt (am_okt hv2)))))
  | lrem =>
    obtain ⟨x, y, r, rfl, h⟩ := am_q2_e h
    exact lv_lrem (rest := r.map (am_c ad)) hx hb (hd1 (by decide)) h.1 (h.2 H locs arr (hR.stk (am_okc trivial (am_okt (am_okt hv2)))))
  | lcmp =>
    obtain ⟨x, y, r, rfl, h⟩ := am_q2_e h
    exact W.lcmp (rest := r.map (am_c ad)) hx hb (hd1 (by decide)) (h H locs arr (hR.stk (am_okc trivial (am_okt (am_okt hv2)))))
  | i2l =>
    obtain ⟨x, r, rfl, h⟩ := am_p1_e h
    exact lv_i2l (rest := r.map (am_c ad)) hx hb (hd1 (by decide)) rfl (h H locs arr (hR.stk (am_okc trivial (am_okt hv2))))
  | i2b =>
    obtain ⟨x, r, rfl, h⟩ := am_p1_e h
    exact lv_i2b (rest := r.map (am_c ad)) hx hb (hd1 (by decide)) rfl (h H locs arr (hR.stk (am_okc trivial (am_okt hv2))))
  | i2s =>
    obtain ⟨x, r, rfl, h⟩ := am_p1_e h
    exact lv_i2s (rest := r.map (am_c ad)) hx hb (hd1 (by decide)) rfl (h H locs arr (hR.stk (am_okc trivial (am_okt hv2))))
  | i2c =>
    obtain ⟨x, r, rfl, h⟩ := am_p1_e h
    exact lv_i2c (rest := r.map (am_c ad)) hx hb (hd1 (by decide)) rfl (h H locs arr (hR.stk (am_okc trivial (am_okt hv2))))
  | dup =>
    simp only [am_step] at h
    split at h
    · rename_i x r
      exact lv_dup (va := .int x) (rest := r.map (am_c ad)) hx hb (hd1 (by decide)) rfl (h H locs arr (hR.stk (am_okc trivial (am_okc trivial (am_okt hv2)))))
    · rename_i x r
      exact lv_dup (va := am_c ad (.inr (.inr x))) (rest := r.map (am_c ad)) hx hb (hd1 (by decide)) rfl (h H locs arr (hR.stk (am_okc (hv2 _ List.mem_cons_self) (am_okc (hv2 _ List.mem_cons_self) (am_okt hv2)))))
    · exact h.elim
  | dup2 =>
    simp only [am_step] at h
    split at h
    · rename_i x y r
      have hy : am_ok (.inr (.inr y)) := hv2 _ (List.mem_cons_of_mem _ List.mem_cons_self)
      exact lv_dup2_11 (va := .int x) (vb := am_c ad (.inr (.inr y))) (rest := r.map (am_c ad)) hx hb (hd1 (by decide)) rfl rfl (h H locs arr (hR.stk (am_okc trivial (am_okc hy (am_okc trivial (am_okc hy (am_okt (am_okt hv2))))))))
    · exact h.elim
  | pop =>
    obtain ⟨x, r, rfl, h⟩ := am_p1_e h
    exact lv_pop (va := .int x) (rest := r.map (am_c ad)) hx hb (hd1 (by decide)) rfl (h H locs arr (hR.stk (am_okt hv2)))
  | goto off =>
    obtain ⟨t, e1, h⟩ := am_tgt_e h
    exact lv_goto hx hb (hd1 (show (3 : Nat) ≠ 0 by decide)) e1 (h H locs arr hR)
  | ifCond cd off =>
    obtain ⟨x, r, rfl, h⟩ := am_p1_e h
    obtain ⟨t, e1, h⟩ := am_tgt_e h
    have hR' := hR.stk (am_okt hv2)
    cases cd with
    | eq => exact lv_if_eq (rest := r.map (am_c ad)) hx hb (hd1 (show (3 : Nat) ≠ 0 by decide)) e1 (fun q => h.1 q H locs arr hR') (fun q => h.2 q H locs arr hR')
    | ne => exact lv_if_ne (rest := r.map (am_c ad)) hx hb (hd1 (show (3 : Nat) ≠ 0 by decide)) e1 (fun q => h.2 q H locs arr hR') (fun q => h.1 q H locs arr hR')
    | lt => exact lv_if_lt (rest := r.map (am_c ad)) hx hb (hd1 (show (3 : Nat) ≠ 0 by decide)) e1 (fun q => h.1 q H locs arr hR') (fun q => h.2 q H locs arr hR')
    | ge => exact lv_if_ge (rest := r.map (am_c ad)) hx hb (hd1 (show (3 : Nat) ≠ 0 by decide)) e1 (fun q => h.1 q H locs arr hR') (fun q => h.2 q H locs arr hR')
    | gt => exact lv_if_gt (rest := r.map (am_c ad)) hx hb (hd1 (show (3 : Nat) ≠ 0 by decide)) e1 (fun q => h.1 q H locs arr hR') (fun q => h.2 q H locs arr hR')
    | le => exact lv_if_le (rest := r.map (am_c ad)) hx hb (hd1 (show (3 : Nat) ≠ 0 by decide)) e1 (fun q => h.1 q H locs arr hR') (fun q => h.2 q H locs arr hR')
  | if_icmp cd off =>
    obtain ⟨x, y, r, rfl, h⟩ := am_p2_e h
    obtain ⟨t, e1, h⟩ := am_tgt_e h
    have hR' := hR.stk (am_okt (am_okt hv2))
    cases cd with
    | eq => exact lv_icmp_eq (rest := r.map (am_c ad)) hx hb (hd1 (show (3 : Nat) ≠ 0 by decide)) e1 (fun q => h.1 q H locs arr hR') (fun q => h.2 q H locs arr hR')
    | ne => exact lv_icmp_ne (rest := r.map (am_c ad)) hx hb (hd1 (show (3 : Nat) ≠ 0 by decide)) e1 (fun q => h.2 q H locs arr hR') (fun q => h.1 q H locs arr hR')
    | lt => exact lv_icmp_lt (rest := r.map (am_c ad)) hx hb (hd1 (show (3 : Nat) ≠ 0 by decide)) e1 (fun q => h.1 q H locs arr hR') (fun q => h.2 q H locs arr hR')
    | ge => exact lv_icmp_ge (rest := r.map (am_c ad)) hx hb (hd1 (show (3 : Nat) ≠ 0 by decide)) e1 (fun q => h.1 q H locs arr hR') (fun q => h.2 q H locs arr hR')
    | gt => exact lv_icmp_gt (rest := r.map (am_c ad)) hx hb (hd1 (show (3 : Nat) ≠ 0 by decide)) e1 (fun q => h.1 q H locs arr hR') (fun q => h.2 q H locs arr hR')
    | le => exact lv_icmp_le (rest := r.map (am_c ad)) hx hb (hd1 (show (3 : Nat) ≠ 0 by decide)) e1 (fun q => h.1 q H locs arr hR') (fun q => h.2 q H locs arr hR')
  | tableswitch d lo hi offs =>
    obtain ⟨x, r, rfl, hhi, h⟩ := am_p1_e h
    obtain ⟨t, e1, h⟩ := am_sw_e h
    have hR' := hR.stk (am_okt hv2)
    by_cases hin : x.toInt < lo ∨ hi < x.toInt
    · rw [am_tab_off (by omega)] at e1
      exact lv_tableOut (rest := r.map (am_c ad)) hx hb hd0 hin e1 (h H locs arr hR')
    · have h1 : ¬ x.toInt < lo := fun q => hin (Or.inl q)
      have h2 : ¬ hi < x.toInt := fun q => hin (Or.inr q)
      have h3 := am_tab_in (d := d) (x := x.toInt) (l := offs.toList) (lo := lo) (by omega) (by omega)
      exact lv_tableIn (rest := r.map (am_c ad)) hx hb hd0 h1 h2 (by rw [← Array.getElem?_toList]; exact h3) e1 (h H locs arr hR')
  | lookupswitch d ps =>
    obtain ⟨x, r, rfl, hps, h⟩ := am_p1_e h
    obtain ⟨t, e1, h⟩ := am_sw_e h
    exact lv_lookup (rest := r.map (am_c ad)) hx hb hd0 hps rfl e1 (h H locs arr (hR.stk (am_okt hv2)))
  | getfield x =>
    simp only [am_step] at h
    split at h
    · rename_i k i r
      split at h
      · rename_i ci j eE
        split at h
        · rename_i c' fs esh
          split at h
          · rename_i ec
            have ec := Nat.eq_of_beq_eq_true ec
            subst ec
            obtain ⟨C, T, n, ty0, f1, f2, f3, f4, f5, f6, f7⟩ := hfld _ _ _ eE
            have hi : i < (am_sh k).1 := hv2 (.inr (.inr (k, i))) List.mem_cons_self
            split at h
            · rename_i ty efs
              have hk : k < 32 := by
                rcases am_sh_40 hi with q | q
                · exact q
                · rw [q] at esh
                  cases esh
                  simp at efs
              have he : (am_w ad dA σ)[am_off k + i]? = some (ad k i, .inr (c', am_fv ad (σ k i) i 0 fs)) := by
                rw [am_w_get hk hi]
                unfold am_cell
                rw [esh]
              have hg := am_fv_get (ad := ad) (f := σ k i) (i := i) (j0 := 0) efs
              rw [Nat.zero_add] at hg
              exact va_get (rest := r.map (am_c ad)) hx hb hts f2 hown hK hP _ he f1 j f3 f4 (fun _ q => q) hg (hd1 (show (3 : Nat) ≠ 0 by decide)) (h H locs arr (hR.stk (am_okc trivial (am_okt hv2))))
            · rename_i g efs
              have hk : k < 32 := by
                rcases am_sh_40 hi with q | q
                · exact q
                · rw [q] at esh
                  cases esh
                  simp at efs
              have he : (am_w ad dA σ)[am_off k + i]? = some (ad k i, .inr (c', am_fv ad (σ k i) i 0 fs)) := by
                rw [am_w_get hk hi]
                unfold am_cell
                rw [esh]
              have hg := am_fv_get (ad := ad) (f := σ k i) (i := i) (j0 := 0) efs
              have hok : am_ok (.inr (.inr (g i))) := by
                have h9 := am_chk_ok k hk i hi
                rw [esh] at h9
                have h8 := List.all_eq_true.mp h9 _ (List.mem_of_getElem? efs)
                have h7 : (g i).2 < (am_sh (g i).1).1 := of_decide_eq_true h8
                exact h7
              exact va_get (rest := r.map (am_c ad)) hx hb hts f2 hown hK hP _ he f1 j f3 f4 (fun _ q => q) hg (hd1 (show (3 : Nat) ≠ 0 by decide)) (h H locs arr (hR.stk (am_okc hok (am_okt hv2))))
            · exact h.elim
          · exact h.elim
        · exact h.elim
      · exact h.elim
    · exact h.elim
  | putfield x =>
    simp only [am_step] at h
    split at h
    · rename_i v k i r
      split at h
      · rename_i ci j eE
        split at h
        · rename_i c' fs esh
          split at h
          · rename_i ec
            have ec := Nat.eq_of_beq_eq_true ec
            subst ec
            obtain ⟨C, T, n, ty0, f1, f2, f3, f4, f5, f6, f7⟩ := hfld _ _ _ eE
            have hi : i < (am_sh k).1 := hv2 (.inr (.inr (k, i))) (List.mem_cons_of_mem _ List.mem_cons_self)
            have main : ∀ ty, fs[j]? = some (.inl ty) → narrow ty (.int v) = .int v → fits ty (.int v) = true → am_W p l e R s m args below meth c (MQ below (am_Qc cl dC dI dA ad A K) args s 0 0 A) cl dC dI dA ad A nL (pc + 3) ls r (am_u σ k i j v) → W p l e R s m args below meth c H locs 0 0 (MQ below (am_Qc cl dC dI dA ad A K) args s 0 0 A) (F0 m pc arr ((Sum.inl v :: Sum.inr (Sum.inr (k, i)) :: r : List am_V).map (am_c ad))) := by
              intro ty efs hn1 hn2 h
              have hk : k < 32 := by
                rcases am_sh_40 hi with q | q
                · exact q
                · rw [q] at esh
                  cases esh
                  simp at efs
              have he : (am_w ad dA σ)[am_off k + i]? = some (ad k i, .inr (c', am_fv ad (σ k i) i 0 fs)) := by
                rw [am_w_get hk hi]
                unfold am_cell
                rw [esh]
              have hl : j < (am_fv ad (σ k i) i 0 fs).length := (List.getElem?_eq_some_iff.mp (am_fv_get (ad := ad) (f := σ k i) (i := i) (j0 := 0) efs)).1
              have hset := am_fv_set (ad := ad) (f := σ k i) (i := i) (v := v) (j0 := 0) efs
              rw [Nat.zero_add] at hset
              obtain ⟨g1, g2⟩ := f7 k fs ty esh efs
              refine va_put (rest := r.map (am_c ad)) (v := .int v) (ty := ty) hx hb hts f2 ty0 f5 f6 hown hK hP (am_D_any hD) hS _ he f1 j f3 f4 (fun _ q => q) g1 (by rw [f5 j f3, g2]) hn1 hn2 hl (hd1 (show (3 : Nat) ≠ 0 by decide)) (fun H1 locs1 a1 a2 a3 => ?_)
              rw [am_w_set j v hk hi (by unfold am_cell; rw [esh]; show Sum.inr (c', (am_fv ad (σ k i) i 0 fs).set j (Value.int v)) = Sum.inr (c', am_fv ad (upd (σ k i) j v) i 0 fs); rw [hset])] at a1
              exact h H1 locs1 arr ⟨hH, hv1, am_okt (am_okt hv2), a1, a3⟩
            split at h
            · rename_i efs
              exact main _ efs rfl rfl h
            · rename_i efs
              refine main _ efs ?_ ?_ h.2
              · rcases h.1 with q | q <;> rw [q] <;> rfl
              · rcases h.1 with q | q <;> rw [q] <;> rfl
            · exact h.elim
          · exact h.elim
        · exact h.elim
      · exact h.elim
    · exact h.elim
  | iaload =>
    simp only [am_step] at h
    split at h
    · rename_i x k i r
      have hi : i < (am_sh k).1 := hv2 (.inr (.inr (k, i))) (List.mem_cons_of_mem _ List.mem_cons_self)
      split at h
      · rename_i n esh
        have hk : k < 32 := by
          rcases am_sh_40 hi with q | q
          · exact q
          · rw [q] at esh
            cases esh
        have he : (am_w ad dA σ)[am_off k + i]? = some (ad k i, .inl (dA 0, n, .inl (σ k i))) := by
          rw [am_w_get hk hi]
          unfold am_cell
          rw [esh]
        exact va_iald (rest := r.map (am_c ad)) hx hb hK hP _ 0 he rfl h.1 (hd1 (by decide)) (h.2 H locs arr (hR.stk (am_okc trivial (am_okt (am_okt hv2)))))
      · exact h.elim
    · exact h.elim
  | baload =>
    simp only [am_step] at h
    split at h
    · rename_i x k i r
      have hi : i < (am_sh k).1 := hv2 (.inr (.inr (k, i))) (List.mem_cons_of_mem _ List.mem_cons_self)
      split at h
      · rename_i n esh
        have hk : k < 32 := by
          rcases am_sh_40 hi with q | q
          · exact q
          · rw [q] at esh
            cases esh
        have he : (am_w ad dA σ)[am_off k + i]? = some (ad k i, .inl (dA 1, n, .inl (σ k i))) := by
          rw [am_w_get hk hi]
          unfold am_cell
          rw [esh]
        exact va_bald (rest := r.map (am_c ad)) hx hb hK hP _ 1 he rfl h.1 (hd1 (by decide)) (h.2 H locs arr (hR.stk (am_okc trivial (am_okt (am_okt hv2)))))
      · rename_i n esh
        have hk : k < 32 := by
          rcases am_sh_40 hi with q | q
          · exact q
          · rw [q] at esh
            cases esh
        have he : (am_w ad dA σ)[am_off k + i]? = some (ad k i, .inl (dA 2, n, .inl (σ k i))) := by
          rw [am_w_get hk hi]
          unfold am_cell
          rw [esh]
        exact va_zald (rest := r.map (am_c ad)) hx hb hK hP _ 2 he rfl h.1 (hd1 (by decide)) (h.2 H locs arr (hR.stk (am_okc trivial (am_okt (am_okt hv2)))))
      · exact h.elim
    · exact h.elim
  | arraylength =>
    simp only [am_step] at h
    split at h
    · rename_i k i r
      have hi : i < (am_sh k).1 := hv2 (.inr (.inr (k, i))) List.mem_cons_self
      split at h
      · rename_i n t o esh
        have hk : k < 32 := by
          rcases am_sh_40 hi with q | q
          · exact q
          · rw [q] at esh
            cases esh
        obtain ⟨ty, e1, -⟩ := am_ty_t (dA := dA) (am_sh_t esh).1
        have he : ∃ z, (am_w ad dA σ)[am_off k + i]? = some (ad k i, .inl (dA t, n, z)) := by
          rw [am_w_get hk hi]
          unfold am_cell
          rw [esh]
          cases o with
          | none => exact ⟨_, rfl⟩
          | some g => exact ⟨_, rfl⟩
        obtain ⟨z, he⟩ := he
        exact va_alen (rest := r.map (am_c ad)) hx hb hK hP _ t he e1 rfl (hd1 (by decide)) (h H locs arr (hR.stk (am_okc trivial (am_okt hv2))))
      · exact h.elim
    · exact h.elim
  | iastore =>
    simp only [am_step] at h
    split at h
    · rename_i v x k i r
      have hi : i < (am_sh k).1 := hv2 (.inr (.inr (k, i))) (List.mem_cons_of_mem _ (List.mem_cons_of_mem _ List.mem_cons_self))
      split at h
      · rename_i n esh
        have hk : k < 32 := by
          rcases am_sh_40 hi with q | q
          · exact q
          · rw [q] at esh
            cases esh
        have he : (am_w ad dA σ)[am_off k + i]? = some (ad k i, .inl (dA 0, n, .inl (σ k i))) := by
          rw [am_w_get hk hi]
          unfold am_cell
          rw [esh]
        refine va_iast (rest := r.map (am_c ad)) hx hb hK hP (am_D_any hD) hS _ 0 he rfl h.1 (hd1 (by decide)) (fun H1 locs1 a1 a2 a3 => ?_)
        rw [am_w_set x.toNatClampNeg v hk hi (by unfold am_cell; rw [esh])] at a1
        exact h.2 H1 locs1 arr ⟨hH, hv1, am_okt (am_okt (am_okt hv2)), a1, a3⟩
      · exact h.elim
    · exact h.elim
  | bastore =>
    simp only [am_step] at h
    split at h
    · rename_i v x k i r
      have hi : i < (am_sh k).1 := hv2 (.inr (.inr (k, i))) (List.mem_cons_of_mem _ (List.mem_cons_of_mem _ List.mem_cons_self))
      split at h
      · rename_i n esh
        have hk : k < 32 := by
          rcases am_sh_40 hi with q | q
          · exact q
          · rw [q] at esh
            cases esh
        have he : (am_w ad dA σ)[am_off k + i]? = some (ad k i, .inl (dA 1, n, .inl (σ k i))) := by
          rw [am_w_get hk hi]
          unfold am_cell
          rw [esh]
        refine va_bast (rest := r.map (am_c ad)) hx hb hK hP (am_D_any hD) hS _ 1 he rfl h.1 (hd1 (by decide)) (fun H1 locs1 a1 a2 a3 => ?_)
        rw [am_w_set x.toNatClampNeg (vp_nar .byte v) hk hi (by unfold am_cell; rw [esh])] at a1
        exact h.2 H1 locs1 arr ⟨hH, hv1, am_okt (am_okt (am_okt hv2)), a1, a3⟩
      · rename_i n esh
        have hk : k < 32 := by
          rcases am_sh_40 hi with q | q
          · exact q
          · rw [q] at esh
            cases esh
        have he : (am_w ad dA σ)[am_off k + i]? = some (ad k i, .inl (dA 2, n, .inl (σ k i))) := by
          rw [am_w_get hk hi]
          unfold am_cell
          rw [esh]
        refine va_zast (rest := r.map (am_c ad)) hx hb hK hP (am_D_any hD) hS _ 2 he rfl h.1 (hd1 (by decide)) (fun H1 locs1 a1 a2 a3 => ?_)
        rw [am_w_set x.toNatClampNeg (vp_nar .boolean v) hk hi (by unfold am_cell; rw [esh])] at a1
        exact h.2 H1 locs1 arr ⟨hH, hv1, am_okt (am_okt (am_okt hv2)), a1, a3⟩
      · exact h.elim
    · exact h.elim
  | aaload =>
    simp only [am_step] at h
    split at h
    · rename_i x k i r
      have hi : i < (am_sh k).1 := hv2 (.inr (.inr (k, i))) (List.mem_cons_of_mem _ List.mem_cons_self)
      split at h
      · rename_i n t g esh
        have hk : k < 32 := by
          rcases am_sh_40 hi with q | q
          · exact q
          · rw [q] at esh
            cases esh
        obtain ⟨ht6, ht3⟩ := am_sh_t esh
        obtain ⟨ty, e1, e2⟩ := am_ty_t (dA := dA) ht6
        have he : (am_w ad dA σ)[am_off k + i]? = some (ad k i, .inl (dA t, n, .inr (.inr (.inr (.inr (fun j => some (ad (g i j).1 (g i j).2))))))) := by
          rw [am_w_get hk hi]
          unfold am_cell
          rw [esh]
        have hlt : x.toNatClampNeg < n := Nat.not_le.mp fun q => h.1 (Or.inr q)
        have hok : am_ok (.inr (.inr (g i x.toNatClampNeg))) := by
          have h9 := am_chk_ok k hk i hi
          rw [esh] at h9
          have h8 := List.all_eq_true.mp h9 _ (List.mem_range.mpr hlt)
          have h7 : (g i x.toNatClampNeg).2 < (am_sh (g i x.toNatClampNeg).1).1 := of_decide_eq_true h8
          exact h7
        exact W.aald (rest := r.map (am_c ad)) (v := .ref (ad (g i x.toNatClampNeg).1 (g i x.toNatClampNeg).2)) (ty := ty) hx hb (hP _ _ he) ((hK.2 t _ e1).1 n (fun j => va_rf (some (ad (g i j).1 (g i j).2)))) (e2 (ht3 rfl)) (fun q => by cases q) (by show ¬ (x < 0 ∨ (arrV _ _ _).slots.size ≤ _); rw [arrV_size]; exact h.1) (by show (arrV _ _ _).slots[_]? = _; rw [arrV_read _ _ hlt]; rfl) rfl rfl (hd1 (by decide)) (h.2 H locs arr (hR.stk (am_okc hok (am_okt (am_okt hv2)))))
      · exact h.elim
    · exact h.elim
  | invokevirtual x =>
    simp only [am_step] at h
    split at h
    · rename_i n ci f eE
      obtain ⟨h1, h2, h3, h4⟩ := h
      have := hcal x n (some ci) f eE pc ls (st.take n).reverse (st.drop n) σ (by rw [List.length_reverse, List.length_take]; omega) h2 h3 (hd1 (show (3 : Nat) ≠ 0 by decide)) h4
      rw [List.reverse_reverse, List.take_append_drop] at this
      exact this H locs arr hR
    · exact h.elim
  | invokestatic x =>
    simp only [am_step] at h
    split at h
    · rename_i n f eE
      obtain ⟨h1, h2, h4⟩ := h
      have := hcal x n none f eE pc ls (st.take n).reverse (st.drop n) σ (by rw [List.length_reverse, List.length_take]; omega) h2 trivial (hd1 (show (3 : Nat) ≠ 0 by decide)) h4
      rw [List.reverse_reverse, List.take_append_drop] at this
      exact this H locs arr hR
    · exact h.elim
  | ireturn =>
    simp only [am_step] at h
    split at h
    · rename_i v
      split at h
      · exact W.iret (v := v) hx hb hr (fun t ht hW => ⟨⟨some (.inl v), σ, rfl, fun _ q => by cases q; trivial, h, by rw [ht]; exact hP⟩, hS.F ht⟩) hS.2.2 (hd1 (by decide)) hlk
      · exact W.zret (v := v) hx hb hr h.1 (fun t ht hW => ⟨⟨some (.inl v), σ, rfl, fun _ q => by cases q; trivial, h.2, by rw [ht]; exact hP⟩, hS.F ht⟩) hS.2.2 (hd1 (by decide)) hlk
      · exact h.elim
    · exact h.elim
  | lreturn =>
    simp only [am_step] at h
    split at h
    · rename_i v
      split at h
      · exact W.lret (v := v) hx hb hr (fun t ht hW => ⟨⟨some (.inr (.inl v)), σ, rfl, fun _ q => by cases q; trivial, h, by rw [ht]; exact hP⟩, hS.F ht⟩) hS.2.2 (hd1 (by decide)) hlk
      · exact h.elim
    · exact h.elim
  | return_ =>
    simp only [am_step] at h
    split at h
    · split at h
      · exact W.vret hx hb hr (fun t ht hW => ⟨⟨none, σ, rfl, (fun _ q => by cases q), h, by rw [ht]; exact hP⟩, hS.F ht⟩) hS.2.2 (hd1 (by decide)) hlk
      · exact h.elim
    · exact h.elim
  | _ => exact (show False from h).elim
