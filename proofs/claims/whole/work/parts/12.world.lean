/-! the abstract memory and the heap -/
def am_c (ad : Nat → Nat → Nat) (v : am_V) : Value := match v with
  | .inl x => .int x
  | .inr (.inl x) => .long x
  | .inr (.inr (k, i)) => .ref (ad k i)
def am_fv (ad : Nat → Nat → Nat) (f : Nat → Int32) (i : Nat) : Nat → List am_F → List Value
  | _, [] => []
  | j, .inl _ :: r => .int (f j) :: am_fv ad f i (j + 1) r
  | j, .inr g :: r => .ref (ad (g i).1 (g i).2) :: am_fv ad f i (j + 1) r
def am_cell (ad : Nat → Nat → Nat) (dA : Nat → ClassId) (f : Nat → Int32) (k i : Nat) : va_E := match (am_sh k).2 with
  | .inl (ci, fs) => .inr (ci, am_fv ad f i 0 fs)
  | .inr (n, t, none) => .inl (dA t, n, .inl f)
  | .inr (n, t, some g) => .inl (dA t, n, .inr (.inr (.inr (.inr (fun j => some (ad (g i j).1 (g i j).2))))))
def am_w (ad : Nat → Nat → Nat) (dA : Nat → ClassId) (σ : am_M) : va_W := am_all.map fun q => (ad q.1 q.2, am_cell ad dA (σ q.1 q.2) q.1 q.2)
def am_ty (dA : Nat → ClassId) : List (ClassId × FieldType) := [(dA 0, .int), (dA 1, .byte), (dA 2, .boolean), (dA 3, .array .int), (dA 4, .object "UnlikeFerry$Crew"), (dA 5, .object "UnlikeFerry$Sheet")]
theorem am_u_at (σ : am_M) (k i j : Nat) (v : Int32) : am_u σ k i j v k i = upd (σ k i) j v := by
  funext j'
  unfold am_u upd
  rw [if_pos rfl, if_pos rfl]
theorem am_u_off {σ : am_M} {k i j : Nat} {v : Int32} {k' i' : Nat} (h : ¬ (k' = k ∧ i' = i)) : am_u σ k i j v k' i' = σ k' i' := by
  funext j'
  unfold am_u
  by_cases h1 : k' = k
  · have h2 : ¬ i' = i := fun q => h ⟨h1, q⟩
    rw [if_pos h1, if_neg h2, ite_self]
  · rw [if_neg h1]
theorem am_fv_get {ad : Nat → Nat → Nat} {f : Nat → Int32} {i : Nat} : ∀ {fs : List am_F} {j0 j : Nat} {x : am_F}, fs[j]? = some x → (am_fv ad f i j0 fs)[j]? = some (match x with
    | .inl _ => .int (f (j0 + j))
    | .inr g => .ref (ad (g i).1 (g i).2))
  | [], _, _, _, h => by simp at h
  | .inl t :: r, j0, 0, x, h => by
    simp at h
    subst h
    rfl
  | .inr g :: r, j0, 0, x, h => by
    simp at h
    subst h
    rfl
  | .inl t :: r, j0, j + 1, x, h => by
    have h1 : r[j]? = some x := by simpa using h
    have := am_fv_get (ad := ad) (f := f) (i := i) (j0 := j0 + 1) h1
    rw [show j0 + 1 + j = j0 + (j + 1) by omega] at this
    simpa [am_fv] using this
  | .inr g :: r, j0, j + 1, x, h => by
    have h1 : r[j]? = some x := by simpa using h
    have := am_fv_get (ad := ad) (f := f) (i := i) (j0 := j0 + 1) h1
    rw [show j0 + 1 + j = j0 + (j + 1) by omega] at this
    simpa [am_fv] using this
theorem am_fv_same {ad : Nat → Nat → Nat} {f g : Nat → Int32} {i : Nat} : ∀ {fs : List am_F} {j0 : Nat}, (∀ j, j0 ≤ j → f j = g j) → am_fv ad f i j0 fs = am_fv ad g i j0 fs
  | [], _, _ => rfl
  | .inl t :: r, j0, h => by
    unfold am_fv
    rw [h j0 (Nat.le_refl _), am_fv_same (fun j hj => h j (by omega))]
  | .inr t :: r, j0, h => by
    unfold am_fv
    rw [am_fv_same (fun j hj => h j (by omega))]
theorem am_fv_set {ad : Nat → Nat → Nat} {f : Nat → Int32} {i : Nat} {v : Int32} : ∀ {fs : List am_F} {j0 j : Nat} {t : FieldType}, fs[j]? = some (.inl t) → am_fv ad (upd f (j0 + j) v) i j0 fs = (am_fv ad f i j0 fs).set j (.int v)
  | [], _, _, _, h => by simp at h
  | .inr g :: r, j0, 0, t, h => by simp at h
  | .inl t' :: r, j0, 0, t, h => by
    have e : am_fv ad (upd f (j0 + 0) v) i (j0 + 1) r = am_fv ad f i (j0 + 1) r := am_fv_same (fun j hj => by unfold upd; rw [if_neg (by omega)])
    unfold am_fv
    rw [e]
    simp [upd]
  | .inl t' :: r, j0, j + 1, t, h => by
    have h1 : r[j]? = some (.inl t) := by simpa using h
    have := am_fv_set (ad := ad) (f := f) (i := i) (v := v) (j0 := j0 + 1) h1
    rw [show j0 + 1 + j = j0 + (j + 1) by omega] at this
    unfold am_fv
    rw [this]
    simp [upd]
  | .inr g :: r, j0, j + 1, t, h => by
    have h1 : r[j]? = some (.inl t) := by simpa using h
    have := am_fv_set (ad := ad) (f := f) (i := i) (v := v) (j0 := j0 + 1) h1
    rw [show j0 + 1 + j = j0 + (j + 1) by omega] at this
    unfold am_fv
    rw [this]
    simp
theorem am_w_get {ad : Nat → Nat → Nat} {dA : Nat → ClassId} {σ : am_M} {k i : Nat} (hk : k < 32) (hi : i < (am_sh k).1) : (am_w ad dA σ)[am_off k + i]? = some (ad k i, am_cell ad dA (σ k i) k i) := by
  unfold am_w
  rw [List.getElem?_map, am_all_get k hk i hi]
  rfl
theorem am_w_at {ad : Nat → Nat → Nat} {dA : Nat → ClassId} {σ : am_M} {n : Nat} {q : Nat × va_E} (h : (am_w ad dA σ)[n]? = some q) : ∃ k i : Nat, am_all[n]? = some (k, i) ∧ k < 32 ∧ i < (am_sh k).1 ∧ n = am_off k + i ∧ q = (ad k i, am_cell ad dA (σ k i) k i) := by
  unfold am_w at h
  rw [List.getElem?_map] at h
  cases ha : am_all[n]? with
  | none => rw [ha] at h; cases h
  | some x =>
    rw [ha] at h
    cases h
    have h1 := am_all_in x (List.mem_of_getElem? ha)
    have h2 := am_all_back n (List.getElem?_eq_some_iff.mp ha).1
    rw [ha] at h2
    exact ⟨x.1, x.2, rfl, h1.1, h1.2, (Option.some.inj h2).symm, rfl⟩
theorem am_w_set {ad : Nat → Nat → Nat} {dA : Nat → ClassId} {σ : am_M} {k i : Nat} (j : Nat) (v : Int32) (hk : k < 32) (hi : i < (am_sh k).1) {x : va_E} (hx : x = am_cell ad dA (upd (σ k i) j v) k i) : (am_w ad dA σ).set (am_off k + i) (ad k i, x) = am_w ad dA (am_u σ k i j v) := by
  subst hx
  apply List.ext_getElem?
  intro n
  by_cases hn : am_off k + i = n
  · subst hn
    rw [List.getElem?_set_self (List.getElem?_eq_some_iff.mp (am_w_get hk hi)).1, am_w_get hk hi, am_u_at]
  · rw [List.getElem?_set_ne hn]
    unfold am_w
    rw [List.getElem?_map, List.getElem?_map]
    cases ha : am_all[n]? with
    | none => rfl
    | some y =>
      have h2 := am_all_back n (List.getElem?_eq_some_iff.mp ha).1
      rw [ha] at h2
      have h3 : am_off y.1 + y.2 = n := Option.some.inj h2
      have hne : ¬ (y.1 = k ∧ y.2 = i) := fun q => hn (by rw [← h3, q.1, q.2])
      show some (ad y.1 y.2, am_cell ad dA (σ y.1 y.2) y.1 y.2) = some (ad y.1 y.2, am_cell ad dA (am_u σ k i j v y.1 y.2) y.1 y.2)
      rw [am_u_off hne]
theorem am_D_any {ad : Nat → Nat → Nat} {dA : Nat → ClassId} {σ τ : am_M} {A : Nat → Prop} (h : va_D A (am_w ad dA σ)) : va_D A (am_w ad dA τ) := by
  refine ⟨fun i j p q hp hq e => ?_, fun n q hq => ?_⟩
  · obtain ⟨k1, i1, -, a2, a3, a4, rfl⟩ := am_w_at hp
    obtain ⟨k2, i2, -, b2, b3, b4, rfl⟩ := am_w_at hq
    rw [a4, b4]
    exact h.1 _ _ _ _ (am_w_get a2 a3) (am_w_get b2 b3) e
  · obtain ⟨k1, i1, -, a2, a3, a4, rfl⟩ := am_w_at hq
    exact h.2 _ (ad k1 i1, am_cell ad dA (σ k1 i1) k1 i1) (am_w_get a2 a3)
/-- which cells a method may change: the world's, and new ones -/
def am_A (ad : Nat → Nat → Nat) (sz : Nat) : Nat → Prop := fun q => (∃ k i : Nat, k < 32 ∧ i < (am_sh k).1 ∧ q = ad k i) ∨ sz ≤ q
theorem am_A_in {ad : Nat → Nat → Nat} {sz k i : Nat} (hk : k < 32) (hi : i < (am_sh k).1) : am_A ad sz (ad k i) := Or.inl ⟨k, i, hk, hi, rfl⟩
theorem am_D_self {ad : Nat → Nat → Nat} {dA : Nat → ClassId} {σ τ : am_M} {B : Nat → Prop} {sz : Nat} (h : va_D B (am_w ad dA σ)) : va_D (am_A ad sz) (am_w ad dA τ) := by
  refine ⟨(am_D_any h).1, fun n q hq => ?_⟩
  obtain ⟨k1, i1, -, a2, a3, -, rfl⟩ := am_w_at hq
  exact am_A_in a2 a3
/-! the locals -/
def am_lv (ad : Nat → Nat → Nat) : Nat → am_L → List (Nat × Value)
  | _, [] => []
  | i, none :: r => am_lv ad (i + 1) r
  | i, some v :: r => (i, am_c ad v) :: am_lv ad (i + 1) r
theorem am_lv_in {ad : Nat → Nat → Nat} : ∀ {ls : am_L} {n i : Nat} {v : am_V}, ls[i]? = some (some v) → (n + i, am_c ad v) ∈ am_lv ad n ls
  | [], _, _, _, h => by simp at h
  | none :: r, n, 0, v, h => by simp at h
  | some w :: r, n, 0, v, h => by
    simp at h
    subst h
    exact List.mem_cons_self
  | none :: r, n, i + 1, v, h => by
    have h1 : r[i]? = some (some v) := by simpa using h
    have := am_lv_in (ad := ad) (n := n + 1) h1
    rw [show n + 1 + i = n + (i + 1) by omega] at this
    exact this
  | some w :: r, n, i + 1, v, h => by
    have h1 : r[i]? = some (some v) := by simpa using h
    have := am_lv_in (ad := ad) (n := n + 1) h1
    rw [show n + 1 + i = n + (i + 1) by omega] at this
    exact List.mem_cons_of_mem _ this
theorem am_lv_out {ad : Nat → Nat → Nat} : ∀ {ls : am_L} {n : Nat} {q : Nat × Value}, q ∈ am_lv ad n ls → ∃ (i : Nat) (v : am_V), ls[i]? = some (some v) ∧ q = (n + i, am_c ad v)
  | [], _, _, h => by cases h
  | none :: r, n, q, h => by
    obtain ⟨i, v, h1, h2⟩ := am_lv_out (ls := r) (n := n + 1) h
    exact ⟨i + 1, v, by simpa using h1, by rw [h2, show n + 1 + i = n + (i + 1) by omega]⟩
  | some w :: r, n, q, h => by
    rcases List.mem_cons.mp h with h | h
    · exact ⟨0, w, rfl, h⟩
    · obtain ⟨i, v, h1, h2⟩ := am_lv_out (ls := r) (n := n + 1) h
      exact ⟨i + 1, v, by simpa using h1, by rw [h2, show n + 1 + i = n + (i + 1) by omega]⟩
def am_H (ad : Nat → Nat → Nat) (arr : Array Slot) (nL : Nat) (ls : am_L) : Prop := lv_has arr nL (am_lv ad 0 ls) ∧ ls.length = nL
theorem am_H_get {ad : Nat → Nat → Nat} {arr : Array Slot} {nL : Nat} {ls : am_L} (h : am_H ad arr nL ls) {i : Nat} {v : am_V} (hi : ls[i]? = some (some v)) : arr[i]? = some (.val (am_c ad v)) := by
  have := h.1.2.2 _ (am_lv_in (ad := ad) (n := 0) hi)
  simpa using this
theorem am_cat_c {ad : Nat → Nat → Nat} {v : am_V} : (am_c ad v).category = (match v with
    | .inr (.inl _) => 2
    | _ => 1) := by
  rcases v with x | x | ⟨k, i⟩ <;> rfl
theorem am_kill_len {ls : am_L} {i : Nat} : (am_kill ls i).length = ls.length := by
  unfold am_kill
  split
  · rfl
  · split
    · exact List.length_set
    · rfl
theorem am_kill_get {ad : Nat → Nat → Nat} {ls : am_L} {i j : Nat} {w : am_V} (h : (am_kill ls i)[j]? = some (some w)) : ls[j]? = some (some w) ∧ ¬ (j + 1 = i ∧ (am_c ad w).category = 2) := by
  unfold am_kill at h
  split at h
  · exact ⟨h, fun q => by omega⟩
  · rename_i i'
    split at h
    · rename_i x hx
      by_cases e : i' = j
      · subst e
        rw [List.getElem?_set_self (List.getElem?_eq_some_iff.mp hx).1] at h
        cases h
      · rw [List.getElem?_set_ne e] at h
        exact ⟨h, fun q => e (by omega)⟩
    · rename_i hx
      refine ⟨h, fun q => ?_⟩
      have e : i' = j := by omega
      subst e
      rcases w with x | x | ⟨k, i⟩
      · exact absurd (show (1 : Nat) = 2 from q.2) (by decide)
      · exact hx x h
      · exact absurd (show (1 : Nat) = 2 from q.2) (by decide)
theorem am_H_st1 {ad : Nat → Nat → Nat} {arr : Array Slot} {nL i : Nat} {ls : am_L} {v : am_V} (hl : ls.length = nL) (hi : i < nL) (h : lv_has arr nL ((i, am_c ad v) :: (am_lv ad 0 ls).filter (fun q => !(q.1 == i) && !(q.1 + 1 == i && q.2.category == 2)))) : am_H ad arr nL ((am_kill ls i).set i (some v)) := by
  refine ⟨⟨h.1, h.2.1, fun q hq => ?_⟩, by rw [List.length_set, am_kill_len, hl]⟩
  obtain ⟨j, w, h1, rfl⟩ := am_lv_out hq
  apply h.2.2
  by_cases e : i = j
  · subst e
    rw [List.getElem?_set_self (by rw [am_kill_len, hl]; exact hi)] at h1
    cases h1
    simp
  · rw [List.getElem?_set_ne e] at h1
    obtain ⟨h2, h3⟩ := am_kill_get (ad := ad) h1
    refine List.mem_cons_of_mem _ (List.mem_filter.mpr ⟨am_lv_in h2, ?_⟩)
    simp only [Nat.zero_add, Bool.and_eq_true, Bool.not_eq_true', beq_eq_false_iff_ne, Bool.and_eq_false_iff, ne_eq]
    refine ⟨fun q => e q.symm, ?_⟩
    by_cases e2 : j + 1 = i
    · right
      exact fun q => h3 ⟨e2, q⟩
    · left
      exact e2
theorem am_H_st2 {ad : Nat → Nat → Nat} {arr : Array Slot} {nL i : Nat} {ls : am_L} {v : am_V} (hl : ls.length = nL) (hi : i + 1 < nL) (h : lv_has arr nL ((i, am_c ad v) :: (am_lv ad 0 ls).filter (fun q => !(q.1 == i) && (!(q.1 == i + 1) && !(q.1 + 1 == i && q.2.category == 2))))) : am_H ad arr nL (((am_kill ls i).set i (some v)).set (i + 1) none) := by
  refine ⟨⟨h.1, h.2.1, fun q hq => ?_⟩, by rw [List.length_set, List.length_set, am_kill_len, hl]⟩
  obtain ⟨j, w, h1, rfl⟩ := am_lv_out hq
  apply h.2.2
  by_cases e0 : i + 1 = j
  · subst e0
    rw [List.getElem?_set_self (by rw [List.length_set, am_kill_len, hl]; exact hi)] at h1
    cases h1
  · rw [List.getElem?_set_ne e0] at h1
    by_cases e : i = j
    · subst e
      rw [List.getElem?_set_self (by rw [am_kill_len, hl]; omega)] at h1
      cases h1
      simp
    · rw [List.getElem?_set_ne e] at h1
      obtain ⟨h2, h3⟩ := am_kill_get (ad := ad) h1
      refine List.mem_cons_of_mem _ (List.mem_filter.mpr ⟨am_lv_in h2, ?_⟩)
      simp only [Nat.zero_add, Bool.and_eq_true, Bool.not_eq_true', beq_eq_false_iff_ne, Bool.and_eq_false_iff, ne_eq]
      refine ⟨fun q => e q.symm, fun q => e0 q.symm, ?_⟩
      by_cases e2 : j + 1 = i
      · right
        exact fun q => h3 ⟨e2, q⟩
      · left
        exact e2
