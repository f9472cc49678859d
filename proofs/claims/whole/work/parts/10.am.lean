/-! THE ABSTRACT MACHINE: values, memory, shapes. A reference is a pair (kind, instance); a memory gives each int of each cell. -/
abbrev am_V : Type := Int32 ⊕ Int64 ⊕ (Nat × Nat)
abbrev am_i (x : Int32) : am_V := .inl x
abbrev am_l (x : Int64) : am_V := .inr (.inl x)
abbrev am_r (k i : Nat) : am_V := .inr (.inr (k, i))
abbrev am_M : Type := Nat → Nat → Nat → Int32
abbrev am_F : Type := FieldType ⊕ (Nat → Nat × Nat)
abbrev am_S : Type := (Nat × List am_F) ⊕ (Nat × Nat × Option (Nat → Nat → Nat × Nat))
abbrev am_L : Type := List (Option am_V)
abbrev am_Spec : Type := List am_V → am_M → (Option am_V → am_M → Prop) → Prop
/-- a method's surroundings: fields by pool number (class, place), callees (how many arguments, the class of the receiver, what it does), constants -/
abbrev am_E : Type := (Nat → Option (Nat × Nat)) × (Nat → Option (Nat × Option Nat × am_Spec)) × (Nat → Option am_V)
def am_u (σ : am_M) (k i j : Nat) (v : Int32) : am_M := fun k' i' j' => if k' = k then (if j' = j then (if i' = i then v else σ k' i' j') else σ k' i' j') else σ k' i' j'
/-- the kinds: how many instances, which shape -/
def am_sh (k : Nat) : Nat × am_S := match k with
  | 0 => (1, .inl (6, [.inr (fun _ => (6, 0)), .inr (fun _ => (1, 0)), .inr (fun _ => (3, 0)), .inr (fun _ => (3, 1)), .inr (fun _ => (7, 0)), .inr (fun _ => (11, 0)), .inr (fun _ => (14, 0)), .inr (fun _ => (15, 0)), .inr (fun _ => (16, 0)), .inr (fun _ => (19, 0)), .inl .int, .inl .int]))
  | 1 => (1, .inl (5, [.inr (fun _ => (2, 0)), .inl .int]))
  | 2 => (1, .inr (160, 1, none))
  | 3 => (5, .inl (0, [.inr (fun c => (4, c)), .inl .int, .inl .int, .inl .int, .inl .int, .inl .int, .inl .int]))
  | 4 => (5, .inr (9, 3, some (fun c p => (5, 9 * c + p))))
  | 5 => (45, .inr (7, 0, none))
  | 6 => (1, .inl (1, [.inr (fun _ => (1, 0)), .inr (fun _ => (3, 4)), .inl .int, .inl .int, .inl .int, .inl .int, .inl .int, .inl .int, .inl .int, .inl .boolean, .inl .boolean]))
  | 7 => (1, .inl (3, [.inr (fun _ => (8, 0)), .inr (fun _ => (9, 0)), .inr (fun _ => (10, 0)), .inl .int, .inl .int]))
  | 8 => (1, .inr (9, 0, none))
  | 9 => (1, .inr (126, 0, none))
  | 10 => (1, .inr (512, 0, none))
  | 11 => (1, .inl (2, [.inr (fun _ => (12, 0)), .inr (fun _ => (13, 0)), .inl .int]))
  | 12 => (1, .inr (6, 0, none))
  | 13 => (1, .inr (6, 2, none))
  | 14 => (1, .inr (2, 4, some (fun _ p => (3, 2 + p))))
  | 15 => (1, .inr (2, 2, none))
  | 16 => (1, .inr (4, 5, some (fun _ p => (17, p))))
  | 17 => (4, .inl (4, [.inr (fun k => (18, k)), .inl .boolean, .inl .int, .inl .int]))
  | 18 => (4, .inr (40, 0, none))
  | 19 => (1, .inr (7, 0, none))
  | 20 => (1, .inl (7, [.inr (fun _ => (21, 0)), .inl .int, .inr (fun _ => (22, 0)), .inl .int, .inl .int, .inl .int, .inr (fun _ => (23, 0)), .inl .int, .inl .int, .inl .int, .inl .int, .inl .int, .inl .int, .inl .int, .inl .int, .inr (fun _ => (24, 0)), .inr (fun _ => (25, 0)), .inr (fun _ => (26, 0)), .inl .int, .inl .int, .inl .int, .inl .int, .inr (fun _ => (27, 0)), .inl .int, .inr (fun _ => (28, 0)), .inr (fun _ => (29, 0)), .inr (fun _ => (30, 0)), .inr (fun _ => (31, 0)), .inl .int]))
  | 21 => (1, .inr (340, 0, none))
  | 22 => (1, .inr (68, 0, none))
  | 23 => (1, .inr (160, 0, none))
  | 24 => (1, .inr (9, 0, none))
  | 25 => (1, .inr (41, 0, none))
  | 26 => (1, .inr (512, 0, none))
  | 27 => (1, .inr (12, 0, none))
  | 28 => (1, .inr (2, 2, none))
  | 29 => (1, .inr (4, 0, none))
  | 30 => (1, .inr (4, 0, none))
  | 31 => (1, .inr (160, 0, none))
  | 40 => (8, .inl (99, []))
  | _ => (0, .inl (99, []))
/-- where a kind begins among the cells -/
def am_off (k : Nat) : Nat := match k with
  | 0 => 0 | 1 => 1 | 2 => 2 | 3 => 3 | 4 => 8 | 5 => 13 | 6 => 58 | 7 => 59 | 8 => 60 | 9 => 61 | 10 => 62 | 11 => 63 | 12 => 64 | 13 => 65 | 14 => 66 | 15 => 67 | 16 => 68 | 17 => 69 | 18 => 73 | 19 => 77
  | n => n + 58
def am_all : List (Nat × Nat) := (List.range 32).flatMap fun k => (List.range (am_sh k).1).map fun i => (k, i)
theorem am_all_get : ∀ k, k < 32 → ∀ i, i < (am_sh k).1 → am_all[am_off k + i]? = some (k, i) := by decide +kernel
theorem am_all_back : ∀ n, n < am_all.length → (am_all[n]?).map (fun q => am_off q.1 + q.2) = some n := by decide +kernel
theorem am_all_in : ∀ q ∈ am_all, q.1 < 32 ∧ q.2 < (am_sh q.1).1 := by decide +kernel
/-- where refs lead -/
def am_chk (s : am_S) (i : Nat) : Bool := match s with
  | .inl (_, fs) => fs.all fun f => match f with
    | .inl _ => true
    | .inr g => decide ((g i).2 < (am_sh (g i).1).1)
  | .inr (n, _, some g) => (List.range n).all fun j => decide ((g i j).2 < (am_sh (g i j).1).1)
  | .inr (_, _, none) => true
theorem am_chk_ok : ∀ k, k < 32 → ∀ i, i < (am_sh k).1 → am_chk (am_sh k).2 i = true := by decide +kernel
def am_ok (v : am_V) : Prop := match v with
  | .inr (.inr (k, i)) => i < (am_sh k).1
  | _ => True
theorem am_sh_40 {k i : Nat} (h : i < (am_sh k).1) : k < 32 ∨ (am_sh k).2 = .inl (99, []) := by
  rcases Nat.lt_or_ge k 32 with q | q
  · exact Or.inl q
  · right
    unfold am_sh at h ⊢
    split at h <;> first | rfl | (exfalso; omega)
/-! the steps -/
def am_ldI (ls : am_L) (i : Nat) (f : Int32 → Prop) : Prop := match ls[i]? with
  | some (some (.inl x)) => f x
  | _ => False
def am_ldL (ls : am_L) (i : Nat) (f : Int64 → Prop) : Prop := match ls[i]? with
  | some (some (.inr (.inl x))) => f x
  | _ => False
def am_ldR (ls : am_L) (i : Nat) (f : Nat × Nat → Prop) : Prop := match ls[i]? with
  | some (some (.inr (.inr x))) => f x
  | _ => False
/-- a long just below a slot that is written is no more -/
def am_kill (ls : am_L) (i : Nat) : am_L := match i with
  | 0 => ls
  | j + 1 => match ls[j]? with
    | some (some (.inr (.inl _))) => ls.set j none
    | _ => ls
def am_st1 (ls : am_L) (i : Nat) (v : am_V) (f : am_L → Prop) : Prop := match ls[i]? with
  | some _ => f ((am_kill ls i).set i (some v))
  | none => False
def am_st2 (ls : am_L) (i : Nat) (v : am_V) (f : am_L → Prop) : Prop := match ls[i + 1]? with
  | some _ => f (((am_kill ls i).set i (some v)).set (i + 1) none)
  | none => False
def am_p1 (st : List am_V) (f : Int32 → List am_V → Prop) : Prop := match st with
  | .inl a :: r => f a r
  | _ => False
def am_p2 (st : List am_V) (f : Int32 → Int32 → List am_V → Prop) : Prop := match st with
  | .inl b :: .inl a :: r => f a b r
  | _ => False
def am_q1 (st : List am_V) (f : Int64 → List am_V → Prop) : Prop := match st with
  | .inr (.inl a) :: r => f a r
  | _ => False
def am_q2 (st : List am_V) (f : Int64 → Int64 → List am_V → Prop) : Prop := match st with
  | .inr (.inl b) :: .inr (.inl a) :: r => f a b r
  | _ => False
def am_tgt (pc : Nat) (off : Int) (f : Nat → Prop) : Prop := match (pc : Int) + off with
  | .ofNat t => f t
  | .negSucc _ => False
abbrev am_br (c t f : Prop) : Prop := (c → t) ∧ (¬ c → f)
def am_if (c : Jvm.ClassFile.Cond) (x y : Int32) (t f : Prop) : Prop := match c with
  | .eq => am_br (x = y) t f
  | .ne => am_br (x = y) f t
  | .lt => am_br (x < y) t f
  | .ge => am_br (y ≤ x) t f
  | .gt => am_br (y < x) t f
  | .le => am_br (x ≤ y) t f
def am_cat (st : List am_V) : Nat := match st with
  | [] => 0
  | .inr (.inl _) :: r => 2 + am_cat r
  | _ :: r => 1 + am_cat r
def am_rcv (rc : Option Nat) (as : List am_V) : Prop := match rc with
  | none => True
  | some ci => match as with
    | .inr (.inr (k, _)) :: _ => match (am_sh k).2 with
      | .inl (c, _) => match Nat.beq c ci with
        | true => True
        | false => False
      | _ => False
    | _ => False
def am_sw (pc : Nat) (x : Int32) (dflt : Int) (N : Nat → Prop) : List (Int × Int) → Prop
  | [] => am_tgt pc dflt N
  | (k, off) :: r => am_br (x.toInt = k) (am_tgt pc off N) (am_sw pc x dflt N r)
def am_tab (lo : Int) : List Int → List (Int × Int)
  | [] => []
  | o :: r => (lo, o) :: am_tab (lo + 1) r
/-- one step at an instruction: what must hold so that the machine goes on to N, or ends with K -/
def am_step (E : am_E) (ret : Option FieldType) (K : Option am_V → am_M → Prop) (N : Nat → am_L → List am_V → am_M → Prop) (ins : Instr) (pc : Nat) (ls : am_L) (st : List am_V) (σ : am_M) : Prop := match ins with
  | .iconst n => N (pc + 1) ls (.inl (Int32.ofInt n) :: st) σ
  | .bipush n => N (pc + 2) ls (.inl ((Int8.ofInt n).toInt32) :: st) σ
  | .sipush n => N (pc + 3) ls (.inl ((Int16.ofInt n).toInt32) :: st) σ
  | .lconst n => N (pc + 1) ls (.inr (.inl (Int64.ofNat n.val)) :: st) σ
  | .ldc x => match E.2.2 x with
    | some (.inl v) => N (pc + 2) ls (.inl v :: st) σ
    | some (.inr (.inr q)) => N (pc + 2) ls (.inr (.inr q) :: st) σ
    | _ => False
  | .ldc_w x => match E.2.2 x with
    | some (.inl v) => N (pc + 3) ls (.inl v :: st) σ
    | _ => False
  | .ldc2_w x => match E.2.2 x with
    | some (.inr (.inl v)) => N (pc + 3) ls (.inr (.inl v) :: st) σ
    | _ => False
  | .iload i => am_ldI ls i fun x => N (pc + 2) ls (.inl x :: st) σ
  | .iload_n i => am_ldI ls i.val fun x => N (pc + 1) ls (.inl x :: st) σ
  | .lload i => am_ldL ls i fun x => N (pc + 2) ls (.inr (.inl x) :: st) σ
  | .lload_n i => am_ldL ls i.val fun x => N (pc + 1) ls (.inr (.inl x) :: st) σ
  | .aload i => am_ldR ls i fun x => N (pc + 2) ls (.inr (.inr x) :: st) σ
  | .aload_n i => am_ldR ls i.val fun x => N (pc + 1) ls (.inr (.inr x) :: st) σ
  | .istore i => am_p1 st fun x r => am_st1 ls i (.inl x) fun ls' => N (pc + 2) ls' r σ
  | .istore_n i => am_p1 st fun x r => am_st1 ls i.val (.inl x) fun ls' => N (pc + 1) ls' r σ
  | .lstore i => am_q1 st fun x r => am_st2 ls i (.inr (.inl x)) fun ls' => N (pc + 2) ls' r σ
  | .lstore_n i => am_q1 st fun x r => am_st2 ls i.val (.inr (.inl x)) fun ls' => N (pc + 1) ls' r σ
  | .astore i => match st with
    | .inr (.inr q) :: r => am_st1 ls i (.inr (.inr q)) fun ls' => N (pc + 2) ls' r σ
    | _ => False
  | .astore_n i => match st with
    | .inr (.inr q) :: r => am_st1 ls i.val (.inr (.inr q)) fun ls' => N (pc + 1) ls' r σ
    | _ => False
  | .iinc i n => am_ldI ls i fun x => am_st1 ls i (.inl (x + Int32.ofInt n)) fun ls' => N (pc + 3) ls' st σ
  | .iadd => am_p2 st fun x y r => N (pc + 1) ls (.inl (x + y) :: r) σ
  | .isub => am_p2 st fun x y r => N (pc + 1) ls (.inl (x - y) :: r) σ
  | .imul => am_p2 st fun x y r => N (pc + 1) ls (.inl (x * y) :: r) σ
  | .iand => am_p2 st fun x y r => N (pc + 1) ls (.inl (x &&& y) :: r) σ
  | .ior => am_p2 st fun x y r => N (pc + 1) ls (.inl (x ||| y) :: r) σ
  | .ixor => am_p2 st fun x y r => N (pc + 1) ls (.inl (x ^^^ y) :: r) σ
  | .idiv => am_p2 st fun x y r => ¬ y = 0 ∧ N (pc + 1) ls (.inl (x / y) :: r) σ
  | .irem => am_p2 st fun x y r => ¬ y = 0 ∧ N (pc + 1) ls (.inl (x - x / y * y) :: r) σ
  | .ineg => am_p1 st fun x r => N (pc + 1) ls (.inl (-x) :: r) σ
  | .ishl => am_p2 st fun x y r => N (pc + 1) ls (.inl (x <<< (y &&& 31)) :: r) σ
  | .ishr => am_p2 st fun x y r => N (pc + 1) ls (.inl (x >>> (y &&& 31)) :: r) σ
  | .iushr => am_p2 st fun x y r => N (pc + 1) ls (.inl ((x.toUInt32 >>> (y.toUInt32 &&& Int32.toUInt32 31)).toInt32) :: r) σ
  | .ladd => am_q2 st fun x y r => N (pc + 1) ls (.inr (.inl (x + y)) :: r) σ
  | .lmul => am_q2 st fun x y r => N (pc + 1) ls (.inr (.inl (x * y)) :: r) σ
  | .ldiv => am_q2 st fun x y r => ¬ y = 0 ∧ N (pc + 1) ls (.inr (.inl (x / y)) :: r) σ
  | .lrem => am_q2 st fun x y r => ¬ y = 0 ∧ N (pc + 1) ls (.inr (.inl (x - x / y * y)) :: r) σ
  | .lcmp => am_q2 st fun x y r => N (pc + 1) ls (.inl (lg_cmp x y) :: r) σ
  | .i2l => am_p1 st fun x r => N (pc + 1) ls (.inr (.inl x.toInt64) :: r) σ
  | .i2b => am_p1 st fun x r => N (pc + 1) ls (.inl x.toInt8.toInt32 :: r) σ
  | .i2s => am_p1 st fun x r => N (pc + 1) ls (.inl x.toInt16.toInt32 :: r) σ
  | .i2c => am_p1 st fun x r => N (pc + 1) ls (.inl (x.toUInt32 % 65536).toInt32 :: r) σ
  | .dup => match st with
    | .inl x :: r => N (pc + 1) ls (.inl x :: .inl x :: r) σ
    | .inr (.inr x) :: r => N (pc + 1) ls (.inr (.inr x) :: .inr (.inr x) :: r) σ
    | _ => False
  | .dup2 => match st with
    | .inl x :: .inr (.inr y) :: r => N (pc + 1) ls (.inl x :: .inr (.inr y) :: .inl x :: .inr (.inr y) :: r) σ
    | _ => False
  | .pop => am_p1 st fun _ r => N (pc + 1) ls r σ
  | .goto off => am_tgt pc off fun t => N t ls st σ
  | .ifCond c off => am_p1 st fun x r => am_tgt pc off fun t => am_if c x 0 (N t ls r σ) (N (pc + 3) ls r σ)
  | .if_icmp c off => am_p2 st fun x y r => am_tgt pc off fun t => am_if c x y (N t ls r σ) (N (pc + 3) ls r σ)
  | .tableswitch d lo hi offs => am_p1 st fun x r => hi = lo + offs.toList.length - 1 ∧ am_sw pc x d (fun t => N t ls r σ) (am_tab lo offs.toList)
  | .lookupswitch d ps => am_p1 st fun x r => (ps.toList.zip (ps.toList.drop 1)).all (fun (a, next) => a.1 < next.1) = true ∧ am_sw pc x d (fun t => N t ls r σ) ps.toList
  | .getfield x => match st with
    | .inr (.inr (k, i)) :: r => match E.1 x with
      | some (ci, j) => match (am_sh k).2 with
        | .inl (c, fs) => match Nat.beq c ci with
          | true => match fs[j]? with
            | some (.inl _) => N (pc + 3) ls (.inl (σ k i j) :: r) σ
            | some (.inr g) => N (pc + 3) ls (.inr (.inr (g i)) :: r) σ
            | none => False
          | false => False
        | _ => False
      | none => False
    | _ => False
  | .putfield x => match st with
    | .inl v :: .inr (.inr (k, i)) :: r => match E.1 x with
      | some (ci, j) => match (am_sh k).2 with
        | .inl (c, fs) => match Nat.beq c ci with
          | true => match fs[j]? with
            | some (.inl .int) => N (pc + 3) ls r (am_u σ k i j v)
            | some (.inl .boolean) => (v = 0 ∨ v = 1) ∧ N (pc + 3) ls r (am_u σ k i j v)
            | _ => False
          | false => False
        | _ => False
      | none => False
    | _ => False
  | .iaload => match st with
    | .inl x :: .inr (.inr (k, i)) :: r => match (am_sh k).2 with
      | .inr (n, 0, none) => vp_in x n ∧ N (pc + 1) ls (.inl (σ k i x.toNatClampNeg) :: r) σ
      | _ => False
    | _ => False
  | .baload => match st with
    | .inl x :: .inr (.inr (k, i)) :: r => match (am_sh k).2 with
      | .inr (n, 1, none) => vp_in x n ∧ N (pc + 1) ls (.inl (σ k i x.toNatClampNeg) :: r) σ
      | .inr (n, 2, none) => vp_in x n ∧ N (pc + 1) ls (.inl (σ k i x.toNatClampNeg) :: r) σ
      | _ => False
    | _ => False
  | .aaload => match st with
    | .inl x :: .inr (.inr (k, i)) :: r => match (am_sh k).2 with
      | .inr (n, _, some g) => vp_in x n ∧ N (pc + 1) ls (.inr (.inr (g i x.toNatClampNeg)) :: r) σ
      | _ => False
    | _ => False
  | .arraylength => match st with
    | .inr (.inr (k, _)) :: r => match (am_sh k).2 with
      | .inr (n, _, _) => N (pc + 1) ls (.inl (Int32.ofNat n) :: r) σ
      | _ => False
    | _ => False
  | .iastore => match st with
    | .inl v :: .inl x :: .inr (.inr (k, i)) :: r => match (am_sh k).2 with
      | .inr (n, 0, none) => vp_in x n ∧ N (pc + 1) ls r (am_u σ k i x.toNatClampNeg v)
      | _ => False
    | _ => False
  | .bastore => match st with
    | .inl v :: .inl x :: .inr (.inr (k, i)) :: r => match (am_sh k).2 with
      | .inr (n, 1, none) => vp_in x n ∧ N (pc + 1) ls r (am_u σ k i x.toNatClampNeg (vp_nar .byte v))
      | .inr (n, 2, none) => vp_in x n ∧ N (pc + 1) ls r (am_u σ k i x.toNatClampNeg (vp_nar .boolean v))
      | _ => False
    | _ => False
  | .invokevirtual x => match E.2.1 x with
    | some (n, some ci, f) => n ≤ st.length ∧ am_cat (st.drop n) ≤ 8 ∧ am_rcv (some ci) (st.take n).reverse ∧ f (st.take n).reverse σ (fun v σ' => N (pc + 3) ls (v.toList ++ st.drop n) σ')
    | _ => False
  | .invokestatic x => match E.2.1 x with
    | some (n, none, f) => n ≤ st.length ∧ am_cat (st.drop n) ≤ 8 ∧ f (st.take n).reverse σ (fun v σ' => N (pc + 3) ls (v.toList ++ st.drop n) σ')
    | _ => False
  | .ireturn => match st with
    | [.inl v] => match ret with
      | some .int => K (some (.inl v)) σ
      | some ty => narrow ty (.int v) = .int v ∧ K (some (.inl v)) σ
      | none => False
    | _ => False
  | .lreturn => match st with
    | [.inr (.inl v)] => match ret with
      | some .long => K (some (.inr (.inl v))) σ
      | _ => False
    | _ => False
  | .return_ => match st with
    | [] => match ret with
      | none => K none σ
      | some _ => False
    | _ => False
  | _ => False
def am_find : List (Nat × Instr) → Nat → Option Instr
  | [], _ => none
  | (q, i) :: r, pc => match Nat.beq q pc with
    | true => some i
    | false => am_find r pc
theorem am_find_in : ∀ {lst : List (Nat × Instr)} {pc : Nat} {i : Instr}, am_find lst pc = some i → (pc, i) ∈ lst
  | [], _, _, h => by cases h
  | (q, i') :: r, pc, i, h => by
    unfold am_find at h
    split at h
    · rename_i e
      rw [Nat.eq_of_beq_eq_true e]
      cases h
      exact List.mem_cons_self
    · exact List.mem_cons_of_mem _ (am_find_in h)
def am_stp (E : am_E) (lst : List (Nat × Instr)) (ret : Option FieldType) (K : Option am_V → am_M → Prop) (X : Nat → am_L → List am_V → am_M → Prop) (pc : Nat) (ls : am_L) (st : List am_V) (σ : am_M) : Prop := match am_find lst pc with
  | some i => am_step E ret K X i pc ls st σ
  | none => False
/-- fewer locals known -/
def am_lel : am_L → am_L → Prop
  | [], [] => True
  | none :: r, _ :: r' => am_lel r r'
  | some v :: r, some w :: r' => v = w ∧ am_lel r r'
  | _, _ => False
theorem am_lel_get : ∀ {l l' : am_L}, am_lel l l' → l.length = l'.length ∧ ∀ (i : Nat) (v : am_V), l[i]? = some (some v) → l'[i]? = some (some v)
  | [], [], _ => ⟨rfl, fun _ _ h => h⟩
  | [], _ :: _, h => h.elim
  | none :: _, [], h => h.elim
  | some _ :: _, [], h => h.elim
  | some _ :: _, none :: _, h => h.elim
  | none :: r, w :: r', h => by
    have ih := am_lel_get (l := r) (l' := r') h
    refine ⟨by simp [ih.1], fun i v hv => ?_⟩
    cases i with
    | zero => simp at hv
    | succ i => exact ih.2 i v hv
  | some v :: r, some w :: r', h => by
    obtain ⟨rfl, h⟩ := h
    have ih := am_lel_get (l := r) (l' := r') h
    refine ⟨by simp [ih.1], fun i v' hv => ?_⟩
    cases i with
    | zero => exact hv
    | succ i => exact ih.2 i v' hv
def am_cl (E : am_E) (lst : List (Nat × Instr)) (ret : Option FieldType) (K : Option am_V → am_M → Prop) (X : Nat → am_L → List am_V → am_M → Prop) : Prop := (∀ pc ls st σ, am_stp E lst ret K X pc ls st σ → X pc ls st σ) ∧ ∀ pc ls ls' st σ, am_lel ls ls' → X pc ls st σ → X pc ls' st σ
def am_ent : List am_V → am_L
  | [] => []
  | .inr (.inl x) :: r => some (.inr (.inl x)) :: none :: am_ent r
  | v :: r => some v :: am_ent r
/-- what a method does, by its code alone: every way of reading its states that is closed under its steps holds at its entry -/
def am_sem (E : am_E) (lst : List (Nat × Instr)) (nL : Nat) (ret : Option FieldType) : am_Spec := fun as σ K => (am_ent as).length ≤ nL ∧ ∀ X : Nat → am_L → List am_V → am_M → Prop, am_cl E lst ret K X → X 0 (am_ent as ++ List.replicate (nL - (am_ent as).length) none) [] σ
