/-! running many steps at once -/
theorem am_ldI_m {ls : am_L} {i : Nat} {f g : Int32 → Prop} (hfg : ∀ x, f x → g x) (h : am_ldI ls i f) : am_ldI ls i g := by
  unfold am_ldI at h ⊢
  split at h <;> first | exact hfg _ h | exact h.elim
theorem am_ldL_m {ls : am_L} {i : Nat} {f g : Int64 → Prop} (hfg : ∀ x, f x → g x) (h : am_ldL ls i f) : am_ldL ls i g := by
  unfold am_ldL at h ⊢
  split at h <;> first | exact hfg _ h | exact h.elim
theorem am_ldR_m {ls : am_L} {i : Nat} {f g : Nat × Nat → Prop} (hfg : ∀ x, f x → g x) (h : am_ldR ls i f) : am_ldR ls i g := by
  unfold am_ldR at h ⊢
  split at h <;> first | exact hfg _ h | exact h.elim
theorem am_st1_m {ls : am_L} {i : Nat} {v : am_V} {f g : am_L → Prop} (hfg : ∀ x, f x → g x) (h : am_st1 ls i v f) : am_st1 ls i v g := by
  unfold am_st1 at h ⊢
  split at h <;> first | exact hfg _ h | exact h.elim
theorem am_st2_m {ls : am_L} {i : Nat} {v : am_V} {f g : am_L → Prop} (hfg : ∀ x, f x → g x) (h : am_st2 ls i v f) : am_st2 ls i v g := by
  unfold am_st2 at h ⊢
  split at h <;> first | exact hfg _ h | exact h.elim
theorem am_p1_m {st : List am_V} {f g : Int32 → List am_V → Prop} (hfg : ∀ x r, f x r → g x r) (h : am_p1 st f) : am_p1 st g := by
  unfold am_p1 at h ⊢
  split at h <;> first | exact hfg _ _ h | exact h.elim
theorem am_p2_m {st : List am_V} {f g : Int32 → Int32 → List am_V → Prop} (hfg : ∀ x y r, f x y r → g x y r) (h : am_p2 st f) : am_p2 st g := by
  unfold am_p2 at h ⊢
  split at h <;> first | exact hfg _ _ _ h | exact h.elim
theorem am_q1_m {st : List am_V} {f g : Int64 → List am_V → Prop} (hfg : ∀ x r, f x r → g x r) (h : am_q1 st f) : am_q1 st g := by
  unfold am_q1 at h ⊢
  split at h <;> first | exact hfg _ _ h | exact h.elim
theorem am_q2_m {st : List am_V} {f g : Int64 → Int64 → List am_V → Prop} (hfg : ∀ x y r, f x y r → g x y r) (h : am_q2 st f) : am_q2 st g := by
  unfold am_q2 at h ⊢
  split at h <;> first | exact hfg _ _ _ h | exact h.elim
theorem am_tgt_m {pc : Nat} {off : Int} {f g : Nat → Prop} (hfg : ∀ x, f x → g x) (h : am_tgt pc off f) : am_tgt pc off g := by
  unfold am_tgt at h ⊢
  split at h <;> first | exact hfg _ h | exact h.elim
theorem am_if_m {c : Jvm.ClassFile.Cond} {x y : Int32} {t f t' f' : Prop} (ht : t → t') (hf : f → f') (h : am_if c x y t f) : am_if c x y t' f' := by
  unfold am_if at h ⊢
  cases c <;> first | exact ⟨fun q => ht (h.1 q), fun q => hf (h.2 q)⟩ | exact ⟨fun q => hf (h.1 q), fun q => ht (h.2 q)⟩
theorem am_sw_m {pc : Nat} {x : Int32} {d : Int} {N N' : Nat → Prop} (hN : ∀ t, N t → N' t) : ∀ {l : List (Int × Int)}, am_sw pc x d N l → am_sw pc x d N' l
  | [], h => am_tgt_m hN h
  | (_, _) :: _, h => ⟨fun q => am_tgt_m hN (h.1 q), fun q => am_sw_m hN (h.2 q)⟩
def am_mon (f : am_Spec) : Prop := ∀ (as : List am_V) (σ : am_M) (K K' : Option am_V → am_M → Prop), (∀ r τ, K r τ → K' r τ) → f as σ K → f as σ K'
def am_Em (E : am_E) : Prop := ∀ x n rc f, E.2.1 x = some (n, rc, f) → am_mon f
theorem am_step_m {E : am_E} (hE : am_Em E) {ret : Option FieldType} {K K' : Option am_V → am_M → Prop} {N N' : Nat → am_L → List am_V → am_M → Prop} (hK : ∀ r τ, K r τ → K' r τ) (hN : ∀ pc ls st σ, N pc ls st σ → N' pc ls st σ) {ins : Instr} {pc : Nat} {ls : am_L} {st : List am_V} {σ : am_M} (h : am_step E ret K N ins pc ls st σ) : am_step E ret K' N' ins pc ls st σ := by
  have hn : ∀ {pc ls st σ}, N pc ls st σ → N' pc ls st σ := fun q => hN _ _ _ _ q
  cases ins with
  | iconst n => exact hn h
  | bipush n => exact hn h
  | sipush n => exact hn h
  | lconst n => exact hn h
  | ldc x =>
    simp only [am_step] at h ⊢
    split at h <;> first | exact hn h | exact h.elim
  | ldc_w x =>
    simp only [am_step] at h ⊢
    split at h <;> first | exact hn h | exact h.elim
  | ldc2_w x =>
    simp only [am_step] at h ⊢
    split at h <;> first | exact hn h | exact h.elim
  | iload i => exact am_ldI_m (fun _ q => hn q) h
  | iload_n i => exact am_ldI_m (fun _ q => hn q) h
  | lload i => exact am_ldL_m (fun _ q => hn q) h
  | lload_n i => exact am_ldL_m (fun _ q => hn q) h
  | aload i => exact am_ldR_m (fun _ q => hn q) h
  | aload_n i => exact am_ldR_m (fun _ q => hn q) h
  | istore i => exact am_p1_m (fun _ _ q => am_st1_m (fun _ q => hn q) q) h
  | istore_n i => exact am_p1_m (fun _ _ q => am_st1_m (fun _ q => hn q) q) h
  | lstore i => exact am_q1_m (fun _ _ q => am_st2_m (fun _ q => hn q) q) h
  | lstore_n i => exact am_q1_m (fun _ _ q => am_st2_m (fun _ q => hn q) q) h
  | astore i =>
    simp only [am_step] at h ⊢
    split at h <;> first | exact am_st1_m (fun _ q => hn q) h | exact h.elim
  | astore_n i =>
    simp only [am_step] at h ⊢
    split at h <;> first | exact am_st1_m (fun _ q => hn q) h | exact h.elim
  | iinc i n => exact am_ldI_m (fun _ q => am_st1_m (fun _ q => hn q) q) h
  | iadd => exact am_p2_m (fun _ _ _ q => hn q) h
  | isub => exact am_p2_m (fun _ _ _ q => hn q) h
  | imul => exact am_p2_m (fun _ _ _ q => hn q) h
  | iand => exact am_p2_m (fun _ _ _ q => hn q) h
  | ior => exact am_p2_m (fun _ _ _ q => hn q) h
  | ixor => exact am_p2_m (fun _ _ _ q => hn q) h
  | idiv => exact am_p2_m (fun _ _ _ q => ⟨q.1, hn q.2⟩) h
  | irem => exact am_p2_m (fun _ _ _ q => ⟨q.1, hn q.2⟩) h
  | ineg => exact am_p1_m (fun _ _ q => hn q) h
  | ishl => exact am_p2_m (fun _ _ _ q => hn q) h
  | ishr => exact am_p2_m (fun _ _ _ q => hn q) h
  | iushr => exact am_p2_m (fun _ _ _ q => hn q) h
  | ladd => exact am_q2_m (fun _ _ _ q => hn q) h
  | lmul => exact am_q2_m (fun _ _ _ q => hn q) h
  | ldiv => exact am_q2_m (fun _ _ _ q => ⟨q.1, hn q.2⟩) h
  | lrem => exact am_q2_m (fun _ _ _ q => ⟨q.1, hn q.2⟩) h
  | lcmp => exact am_q2_m (fun _ _ _ q => hn q) h
  | i2l => exact am_p1_m (fun _ _ q => hn q) h
  | i2b => exact am_p1_m (fun _ _ q => hn q) h
  | i2s => exact am_p1_m (fun _ _ q => hn q) h
  | i2c => exact am_p1_m (fun _ _ q => hn q) h
  | dup =>
    simp only [am_step] at h ⊢
    split at h <;> first | exact hn h | exact h.elim
  | dup2 =>
    simp only [am_step] at h ⊢
    split at h <;> first | exact hn h | exact h.elim
  | pop => exact am_p1_m (fun _ _ q => hn q) h
  | goto off => exact am_tgt_m (fun _ q => hn q) h
  | ifCond c off => exact am_p1_m (fun _ _ q => am_tgt_m (fun _ q => am_if_m (fun q => hn q) (fun q => hn q) q) q) h
  | if_icmp c off => exact am_p2_m (fun _ _ _ q => am_tgt_m (fun _ q => am_if_m (fun q => hn q) (fun q => hn q) q) q) h
  | tableswitch d lo hi offs => exact am_p1_m (fun _ _ q => ⟨q.1, am_sw_m (fun _ q => hn q) q.2⟩) h
  | lookupswitch d ps => exact am_p1_m (fun _ _ q => ⟨q.1, am_sw_m (fun _ q => hn q) q.2⟩) h
  | getfield x =>
    simp only [am_step] at h ⊢
    split at h
    · split at h
      · split at h
        · split at h
          · split at h <;> first | exact hn h | exact h.elim
          · exact h.elim
        · exact h.elim
      · exact h.elim
    · exact h.elim
  | putfield x =>
    simp only [am_step] at h ⊢
    split at h
    · split at h
      · split at h
        · split at h
          · split at h <;> first | exact hn h | exact ⟨h.1, hn h.2⟩ | exact h.elim
          · exact h.elim
        · exact h.elim
      · exact h.elim
    · exact h.elim
  | iaload =>
    simp only [am_step] at h ⊢
    split at h
    · split at h <;> first | exact ⟨h.1, hn h.2⟩ | exact h.elim
    · exact h.elim
  | baload =>
    simp only [am_step] at h ⊢
    split at h
    · split at h <;> first | exact ⟨h.1, hn h.2⟩ | exact h.elim
    · exact h.elim
  | aaload =>
    simp only [am_step] at h ⊢
    split at h
    · split at h <;> first | exact ⟨h.1, hn h.2⟩ | exact h.elim
    · exact h.elim
  | arraylength =>
    simp only [am_step] at h ⊢
    split at h
    · split at h <;> first | exact hn h | exact h.elim
    · exact h.elim
  | iastore =>
    simp only [am_step] at h ⊢
    split at h
    · split at h <;> first | exact ⟨h.1, hn h.2⟩ | exact h.elim
    · exact h.elim
  | bastore =>
    simp only [am_step] at h ⊢
    split at h
    · split at h <;> first | exact ⟨h.1, hn h.2⟩ | exact h.elim
    · exact h.elim
  | invokevirtual x =>
    simp only [am_step] at h ⊢
    split at h
    · rename_i e
      exact ⟨h.1, h.2.1, h.2.2.1, hE _ _ _ _ e _ _ _ _ (fun _ _ q => hn q) h.2.2.2⟩
    · exact h.elim
  | invokestatic x =>
    simp only [am_step] at h ⊢
    split at h
    · rename_i e
      exact ⟨h.1, h.2.1, hE _ _ _ _ e _ _ _ _ (fun _ _ q => hn q) h.2.2⟩
    · exact h.elim
  | ireturn =>
    simp only [am_step] at h ⊢
    split at h
    · split at h <;> first | exact hK _ _ h | exact ⟨h.1, hK _ _ h.2⟩ | exact h.elim
    · exact h.elim
  | lreturn =>
    simp only [am_step] at h ⊢
    split at h
    · split at h <;> first | exact hK _ _ h | exact h.elim
    · exact h.elim
  | return_ =>
    simp only [am_step] at h ⊢
    split at h
    · split at h <;> first | exact hK _ _ h | exact h.elim
    · exact h.elim
  | _ => exact (show False from h).elim
theorem am_sem_m {E : am_E} (hE : am_Em E) {lst : List (Nat × Instr)} {nL : Nat} {ret : Option FieldType} : am_mon (am_sem E lst nL ret) := by
  intro as σ K K' hK h
  refine ⟨h.1, fun X hX => h.2 X ⟨fun pc ls st τ q => hX.1 pc ls st τ ?_, hX.2⟩⟩
  unfold am_stp at q ⊢
  split at q
  · exact am_step_m hE hK (fun _ _ _ _ q => q) q
  · exact q.elim
def am_cut (cuts : List Nat) (pc : Nat) : Bool := match cuts with
  | [] => false
  | c :: r => match Nat.beq c pc with
    | true => true
    | false => am_cut r pc
/-- n steps, but no further than to a cut -/
def am_run (E : am_E) (lst : List (Nat × Instr)) (ret : Option FieldType) (K : Option am_V → am_M → Prop) (X : Nat → am_L → List am_V → am_M → Prop) (cuts : List Nat) : Nat → Nat → am_L → List am_V → am_M → Prop
  | 0, pc, ls, st, σ => X pc ls st σ
  | n + 1, pc, ls, st, σ => match am_find lst pc with
    | some i => am_step E ret K (fun pc' ls' st' σ' => match am_cut cuts pc' with
      | true => X pc' ls' st' σ'
      | false => am_run E lst ret K X cuts n pc' ls' st' σ') i pc ls st σ
    | none => False
theorem am_run_ok {E : am_E} (hE : am_Em E) {lst : List (Nat × Instr)} {ret : Option FieldType} {K : Option am_V → am_M → Prop} {X : Nat → am_L → List am_V → am_M → Prop} (hX : am_cl E lst ret K X) (cuts : List Nat) : ∀ (n : Nat) {pc : Nat} {ls : am_L} {st : List am_V} {σ : am_M}, am_run E lst ret K X cuts n pc ls st σ → X pc ls st σ
  | 0, _, _, _, _, h => h
  | n + 1, pc, ls, st, σ, h => by
    refine hX.1 pc ls st σ ?_
    unfold am_run at h
    unfold am_stp
    cases hf : am_find lst pc with
    | none =>
      rw [hf] at h
      exact h.elim
    | some i =>
      rw [hf] at h
      refine am_step_m hE (fun _ _ q => q) (fun pc' ls' st' σ' q => ?_) h
      cases hc : am_cut cuts pc' with
      | true => simpa [hc] using q
      | false =>
        rw [hc] at q
        exact am_run_ok hE hX cuts n q
/-- a local is forgotten -/
theorem am_fo {E : am_E} {lst : List (Nat × Instr)} {ret : Option FieldType} {K : Option am_V → am_M → Prop} {X : Nat → am_L → List am_V → am_M → Prop} (hX : am_cl E lst ret K X) {pc : Nat} {ls ls' : am_L} {st : List am_V} {σ : am_M} (h : am_lel ls ls') (hx : X pc ls st σ) : X pc ls' st σ := hX.2 pc ls ls' st σ h hx
theorem am_ci {x : Int32} {n : Nat} (h : ¬ (x < 0 ∨ n ≤ x.toNatClampNeg)) : vp_in x n := h
theorem am_lt {a b : Nat} (h : Nat.blt a b = true) : a < b := Nat.le_of_ble_eq_true h
theorem am_le {a b : Nat} (h : Nat.ble a b = true) : a ≤ b := Nat.le_of_ble_eq_true h
