/-! the methods' contracts (laid by gen/mkbind.py) -/
theorem lyX0 : ∀ w ∈ wsX00, w ∈ am_B := List.forall_mem_cons.mpr ⟨wd_32, List.forall_mem_cons.mpr ⟨wd_33, List.forall_mem_cons.mpr ⟨wd_34, List.forall_mem_cons.mpr ⟨wd_35, List.forall_mem_cons.mpr ⟨wd_36, List.forall_mem_cons.mpr ⟨wd_37, List.forall_mem_cons.mpr ⟨wd_38, fun _ h => absurd h List.not_mem_nil⟩⟩⟩⟩⟩⟩⟩
theorem kkX0 {k : Nat} {fs : List am_F} (h : (am_sh k).2 = .inl (0, fs)) : fs = (match (am_sh 3).2 with | .inl (_, g) => g | .inr _ => []) := by
  unfold am_sh at h
  split at h <;> first | (injection h with e; injection e with e1 e2; exact e2.symm) | (injection h with e; injection e with e1 e2; exact absurd e1 (by decide)) | (injection h)
theorem fdX0 {own : String} {a : Jvm.Cond} {x j : Nat} (hj : j < 7) (h2 : Jvm.Cond.fieldLink own x (TX0 j).1 (TX0 j).2.1 (TX0 j).2.2.1 ∈ am_B) : am_Fst vwCl own (a :: am_B) x 0 j := by
  refine ⟨RX0, TX0, 7, tyX0, rfl, fun w hw => List.mem_cons_of_mem _ (lyX0 w hw), hj, List.mem_cons_of_mem _ h2, tyX0_ok, nmX0, fun k fs ty h h' => ?_⟩
  have e := kkX0 h
  subst e
  rcases (show j = 0 ∨ j = 1 ∨ j = 2 ∨ j = 3 ∨ j = 4 ∨ j = 5 ∨ j = 6 by omega) with rfl | rfl | rfl | rfl | rfl | rfl | rfl <;> first | (injection h' with e; injection e with e; subst e; exact ⟨rfl, rfl⟩) | (injection h' with e; injection e)
theorem lyX1 : ∀ w ∈ wsX10, w ∈ am_B := List.forall_mem_cons.mpr ⟨wd_39, List.forall_mem_cons.mpr ⟨wd_40, List.forall_mem_cons.mpr ⟨wd_41, List.forall_mem_cons.mpr ⟨wd_42, List.forall_mem_cons.mpr ⟨wd_43, List.forall_mem_cons.mpr ⟨wd_44, List.forall_mem_cons.mpr ⟨wd_45, List.forall_mem_cons.mpr ⟨wd_46, List.forall_mem_cons.mpr ⟨wd_47, List.forall_mem_cons.mpr ⟨wd_48, List.forall_mem_cons.mpr ⟨wd_49, fun _ h => absurd h List.not_mem_nil⟩⟩⟩⟩⟩⟩⟩⟩⟩⟩⟩
theorem kkX1 {k : Nat} {fs : List am_F} (h : (am_sh k).2 = .inl (1, fs)) : fs = (match (am_sh 6).2 with | .inl (_, g) => g | .inr _ => []) := by
  unfold am_sh at h
  split at h <;> first | (injection h with e; injection e with e1 e2; exact e2.symm) | (injection h with e; injection e with e1 e2; exact absurd e1 (by decide)) | (injection h)
theorem fdX1 {own : String} {a : Jvm.Cond} {x j : Nat} (hj : j < 11) (h2 : Jvm.Cond.fieldLink own x (TX1 j).1 (TX1 j).2.1 (TX1 j).2.2.1 ∈ am_B) : am_Fst vwCl own (a :: am_B) x 1 j := by
  refine ⟨RX1, TX1, 11, tyX1, rfl, fun w hw => List.mem_cons_of_mem _ (lyX1 w hw), hj, List.mem_cons_of_mem _ h2, tyX1_ok, nmX1, fun k fs ty h h' => ?_⟩
  have e := kkX1 h
  subst e
  rcases (show j = 0 ∨ j = 1 ∨ j = 2 ∨ j = 3 ∨ j = 4 ∨ j = 5 ∨ j = 6 ∨ j = 7 ∨ j = 8 ∨ j = 9 ∨ j = 10 by omega) with rfl | rfl | rfl | rfl | rfl | rfl | rfl | rfl | rfl | rfl | rfl <;> first | (injection h' with e; injection e with e; subst e; exact ⟨rfl, rfl⟩) | (injection h' with e; injection e)
theorem lyX2 : ∀ w ∈ wsX20, w ∈ am_B := List.forall_mem_cons.mpr ⟨wd_50, List.forall_mem_cons.mpr ⟨wd_51, List.forall_mem_cons.mpr ⟨wd_52, fun _ h => absurd h List.not_mem_nil⟩⟩⟩
theorem kkX2 {k : Nat} {fs : List am_F} (h : (am_sh k).2 = .inl (2, fs)) : fs = (match (am_sh 11).2 with | .inl (_, g) => g | .inr _ => []) := by
  unfold am_sh at h
  split at h <;> first | (injection h with e; injection e with e1 e2; exact e2.symm) | (injection h with e; injection e with e1 e2; exact absurd e1 (by decide)) | (injection h)
theorem fdX2 {own : String} {a : Jvm.Cond} {x j : Nat} (hj : j < 3) (h2 : Jvm.Cond.fieldLink own x (TX2 j).1 (TX2 j).2.1 (TX2 j).2.2.1 ∈ am_B) : am_Fst vwCl own (a :: am_B) x 2 j := by
  refine ⟨RX2, TX2, 3, tyX2, rfl, fun w hw => List.mem_cons_of_mem _ (lyX2 w hw), hj, List.mem_cons_of_mem _ h2, tyX2_ok, nmX2, fun k fs ty h h' => ?_⟩
  have e := kkX2 h
  subst e
  rcases (show j = 0 ∨ j = 1 ∨ j = 2 by omega) with rfl | rfl | rfl <;> first | (injection h' with e; injection e with e; subst e; exact ⟨rfl, rfl⟩) | (injection h' with e; injection e)
theorem lyX3 : ∀ w ∈ wsX30, w ∈ am_B := List.forall_mem_cons.mpr ⟨wd_53, List.forall_mem_cons.mpr ⟨wd_54, List.forall_mem_cons.mpr ⟨wd_55, List.forall_mem_cons.mpr ⟨wd_56, List.forall_mem_cons.mpr ⟨wd_57, fun _ h => absurd h List.not_mem_nil⟩⟩⟩⟩⟩
theorem kkX3 {k : Nat} {fs : List am_F} (h : (am_sh k).2 = .inl (3, fs)) : fs = (match (am_sh 7).2 with | .inl (_, g) => g | .inr _ => []) := by
  unfold am_sh at h
  split at h <;> first | (injection h with e; injection e with e1 e2; exact e2.symm) | (injection h with e; injection e with e1 e2; exact absurd e1 (by decide)) | (injection h)
theorem fdX3 {own : String} {a : Jvm.Cond} {x j : Nat} (hj : j < 5) (h2 : Jvm.Cond.fieldLink own x (TX3 j).1 (TX3 j).2.1 (TX3 j).2.2.1 ∈ am_B) : am_Fst vwCl own (a :: am_B) x 3 j := by
  refine ⟨RX3, TX3, 5, tyX3, rfl, fun w hw => List.mem_cons_of_mem _ (lyX3 w hw), hj, List.mem_cons_of_mem _ h2, tyX3_ok, nmX3, fun k fs ty h h' => ?_⟩
  have e := kkX3 h
  subst e
  rcases (show j = 0 ∨ j = 1 ∨ j = 2 ∨ j = 3 ∨ j = 4 by omega) with rfl | rfl | rfl | rfl | rfl <;> first | (injection h' with e; injection e with e; subst e; exact ⟨rfl, rfl⟩) | (injection h' with e; injection e)
theorem lyX4 : ∀ w ∈ wsX40, w ∈ am_B := List.forall_mem_cons.mpr ⟨wd_58, List.forall_mem_cons.mpr ⟨wd_59, List.forall_mem_cons.mpr ⟨wd_60, List.forall_mem_cons.mpr ⟨wd_61, fun _ h => absurd h List.not_mem_nil⟩⟩⟩⟩
theorem kkX4 {k : Nat} {fs : List am_F} (h : (am_sh k).2 = .inl (4, fs)) : fs = (match (am_sh 17).2 with | .inl (_, g) => g | .inr _ => []) := by
  unfold am_sh at h
  split at h <;> first | (injection h with e; injection e with e1 e2; exact e2.symm) | (injection h with e; injection e with e1 e2; exact absurd e1 (by decide)) | (injection h)
theorem fdX4 {own : String} {a : Jvm.Cond} {x j : Nat} (hj : j < 4) (h2 : Jvm.Cond.fieldLink own x (TX4 j).1 (TX4 j).2.1 (TX4 j).2.2.1 ∈ am_B) : am_Fst vwCl own (a :: am_B) x 4 j := by
  refine ⟨RX4, TX4, 4, tyX4, rfl, fun w hw => List.mem_cons_of_mem _ (lyX4 w hw), hj, List.mem_cons_of_mem _ h2, tyX4_ok, nmX4, fun k fs ty h h' => ?_⟩
  have e := kkX4 h
  subst e
  rcases (show j = 0 ∨ j = 1 ∨ j = 2 ∨ j = 3 by omega) with rfl | rfl | rfl | rfl <;> first | (injection h' with e; injection e with e; subst e; exact ⟨rfl, rfl⟩) | (injection h' with e; injection e)
theorem lyX5 : ∀ w ∈ wsX50, w ∈ am_B := List.forall_mem_cons.mpr ⟨wd_62, List.forall_mem_cons.mpr ⟨wd_63, fun _ h => absurd h List.not_mem_nil⟩⟩
theorem kkX5 {k : Nat} {fs : List am_F} (h : (am_sh k).2 = .inl (5, fs)) : fs = (match (am_sh 1).2 with | .inl (_, g) => g | .inr _ => []) := by
  unfold am_sh at h
  split at h <;> first | (injection h with e; injection e with e1 e2; exact e2.symm) | (injection h with e; injection e with e1 e2; exact absurd e1 (by decide)) | (injection h)
theorem fdX5 {own : String} {a : Jvm.Cond} {x j : Nat} (hj : j < 2) (h2 : Jvm.Cond.fieldLink own x (TX5 j).1 (TX5 j).2.1 (TX5 j).2.2.1 ∈ am_B) : am_Fst vwCl own (a :: am_B) x 5 j := by
  refine ⟨RX5, TX5, 2, tyX5, rfl, fun w hw => List.mem_cons_of_mem _ (lyX5 w hw), hj, List.mem_cons_of_mem _ h2, tyX5_ok, nmX5, fun k fs ty h h' => ?_⟩
  have e := kkX5 h
  subst e
  rcases (show j = 0 ∨ j = 1 by omega) with rfl | rfl <;> first | (injection h' with e; injection e with e; subst e; exact ⟨rfl, rfl⟩) | (injection h' with e; injection e)
theorem lyX6 : ∀ w ∈ wsX60, w ∈ am_B := List.forall_mem_cons.mpr ⟨wd_64, List.forall_mem_cons.mpr ⟨wd_65, List.forall_mem_cons.mpr ⟨wd_66, List.forall_mem_cons.mpr ⟨wd_67, List.forall_mem_cons.mpr ⟨wd_68, List.forall_mem_cons.mpr ⟨wd_69, List.forall_mem_cons.mpr ⟨wd_70, List.forall_mem_cons.mpr ⟨wd_71, List.forall_mem_cons.mpr ⟨wd_72, List.forall_mem_cons.mpr ⟨wd_73, List.forall_mem_cons.mpr ⟨wd_74, List.forall_mem_cons.mpr ⟨wd_75, fun _ h => absurd h List.not_mem_nil⟩⟩⟩⟩⟩⟩⟩⟩⟩⟩⟩⟩
theorem kkX6 {k : Nat} {fs : List am_F} (h : (am_sh k).2 = .inl (6, fs)) : fs = (match (am_sh 0).2 with | .inl (_, g) => g | .inr _ => []) := by
  unfold am_sh at h
  split at h <;> first | (injection h with e; injection e with e1 e2; exact e2.symm) | (injection h with e; injection e with e1 e2; exact absurd e1 (by decide)) | (injection h)
theorem fdX6 {own : String} {a : Jvm.Cond} {x j : Nat} (hj : j < 12) (h2 : Jvm.Cond.fieldLink own x (TX6 j).1 (TX6 j).2.1 (TX6 j).2.2.1 ∈ am_B) : am_Fst vwCl own (a :: am_B) x 6 j := by
  refine ⟨RX6, TX6, 12, tyX6, rfl, fun w hw => List.mem_cons_of_mem _ (lyX6 w hw), hj, List.mem_cons_of_mem _ h2, tyX6_ok, nmX6, fun k fs ty h h' => ?_⟩
  have e := kkX6 h
  subst e
  rcases (show j = 0 ∨ j = 1 ∨ j = 2 ∨ j = 3 ∨ j = 4 ∨ j = 5 ∨ j = 6 ∨ j = 7 ∨ j = 8 ∨ j = 9 ∨ j = 10 ∨ j = 11 by omega) with rfl | rfl | rfl | rfl | rfl | rfl | rfl | rfl | rfl | rfl | rfl | rfl <;> first | (injection h' with e; injection e with e; subst e; exact ⟨rfl, rfl⟩) | (injection h' with e; injection e)
theorem lyX7 : ∀ w ∈ wsX70, w ∈ am_B := List.forall_mem_cons.mpr ⟨wd_76, List.forall_mem_cons.mpr ⟨wd_77, List.forall_mem_cons.mpr ⟨wd_78, List.forall_mem_cons.mpr ⟨wd_79, List.forall_mem_cons.mpr ⟨wd_80, List.forall_mem_cons.mpr ⟨wd_81, List.forall_mem_cons.mpr ⟨wd_82, List.forall_mem_cons.mpr ⟨wd_83, List.forall_mem_cons.mpr ⟨wd_84, List.forall_mem_cons.mpr ⟨wd_85, List.forall_mem_cons.mpr ⟨wd_86, List.forall_mem_cons.mpr ⟨wd_87, List.forall_mem_cons.mpr ⟨wd_88, List.forall_mem_cons.mpr ⟨wd_89, List.forall_mem_cons.mpr ⟨wd_90, List.forall_mem_cons.mpr ⟨wd_91, List.forall_mem_cons.mpr ⟨wd_92, List.forall_mem_cons.mpr ⟨wd_93, List.forall_mem_cons.mpr ⟨wd_94, List.forall_mem_cons.mpr ⟨wd_95, List.forall_mem_cons.mpr ⟨wd_96, List.forall_mem_cons.mpr ⟨wd_97, List.forall_mem_cons.mpr ⟨wd_98, List.forall_mem_cons.mpr ⟨wd_99, List.forall_mem_cons.mpr ⟨wd_100, List.forall_mem_cons.mpr ⟨wd_101, List.forall_mem_cons.mpr ⟨wd_102, List.forall_mem_cons.mpr ⟨wd_103, List.forall_mem_cons.mpr ⟨wd_104, fun _ h => absurd h List.not_mem_nil⟩⟩⟩⟩⟩⟩⟩⟩⟩⟩⟩⟩⟩⟩⟩⟩⟩⟩⟩⟩⟩⟩⟩⟩⟩⟩⟩⟩⟩
theorem kkX7 {k : Nat} {fs : List am_F} (h : (am_sh k).2 = .inl (7, fs)) : fs = (match (am_sh 20).2 with | .inl (_, g) => g | .inr _ => []) := by
  unfold am_sh at h
  split at h <;> first | (injection h with e; injection e with e1 e2; exact e2.symm) | (injection h with e; injection e with e1 e2; exact absurd e1 (by decide)) | (injection h)
theorem fdX7 {own : String} {a : Jvm.Cond} {x j : Nat} (hj : j < 29) (h2 : Jvm.Cond.fieldLink own x (TX7 j).1 (TX7 j).2.1 (TX7 j).2.2.1 ∈ am_B) : am_Fst vwCl own (a :: am_B) x 7 j := by
  refine ⟨RX7, TX7, 29, tyX7, rfl, fun w hw => List.mem_cons_of_mem _ (lyX7 w hw), hj, List.mem_cons_of_mem _ h2, tyX7_ok, nmX7, fun k fs ty h h' => ?_⟩
  have e := kkX7 h
  subst e
  rcases (show j = 0 ∨ j = 1 ∨ j = 2 ∨ j = 3 ∨ j = 4 ∨ j = 5 ∨ j = 6 ∨ j = 7 ∨ j = 8 ∨ j = 9 ∨ j = 10 ∨ j = 11 ∨ j = 12 ∨ j = 13 ∨ j = 14 ∨ j = 15 ∨ j = 16 ∨ j = 17 ∨ j = 18 ∨ j = 19 ∨ j = 20 ∨ j = 21 ∨ j = 22 ∨ j = 23 ∨ j = 24 ∨ j = 25 ∨ j = 26 ∨ j = 27 ∨ j = 28 by omega) with rfl | rfl | rfl | rfl | rfl | rfl | rfl | rfl | rfl | rfl | rfl | rfl | rfl | rfl | rfl | rfl | rfl | rfl | rfl | rfl | rfl | rfl | rfl | rfl | rfl | rfl | rfl | rfl | rfl <;> first | (injection h' with e; injection e with e; subst e; exact ⟨rfl, rfl⟩) | (injection h' with e; injection e)
theorem am_Fl {cl : List vw_C} {own : String} {ws : List Jvm.Cond} {l : List (Nat × (Nat × Nat))} (h : ∀ q ∈ l, am_Fst cl own ws q.1 q.2.1 q.2.2) : ∀ x ci j, am_look l x = some (ci, j) → am_Fst cl own ws x ci j := fun x ci j e => h (x, ci, j) (am_look_in e)
theorem am_Kl {own : String} {ws : List Jvm.Cond} {l : List (Nat × am_V)} (h : ∀ q ∈ l, am_Kst own ws q.1 q.2) : ∀ x v, am_look l x = some v → am_Kst own ws x v := fun x v e => h (x, v) (am_look_in e)
theorem am_Cl {cl : List vw_C} {own : String} {ws : List Jvm.Cond} {rm : Room} {l : List (Nat × (Nat × Option Nat × am_Spec))} (h : ∀ q ∈ l, am_Cal cl own ws rm q.1 q.2.1 q.2.2.1 q.2.2.2) : ∀ x n rc f, am_look l x = some (n, rc, f) → am_Cal cl own ws rm x n rc f := fun x n rc f e => h (x, n, rc, f) (am_look_in e)
abbrev rmX0_clear : Room := { frames := 0, cells := 0, slots := 0, locals := 0 }
abbrev wsX0_clear : List Jvm.Cond := Jvm.Cond.code yX0_clear cX0_clear 1 none :: am_B
set_option maxRecDepth 100000 in
set_option maxHeartbeats 4000000 in
theorem snX0_clear : am_Snd vwCl yX0_clear wsX0_clear rmX0_clear sX0_clear := am_snd_of (cc := cX0_clear) (by decide) rfl (by decide +kernel) (am_Fl (List.forall_mem_cons.mpr ⟨fdX0 (am_lt rfl) wd_110, List.forall_mem_cons.mpr ⟨fdX0 (am_lt rfl) wd_109, List.forall_mem_cons.mpr ⟨fdX0 (am_lt rfl) wd_108, List.forall_mem_cons.mpr ⟨fdX0 (am_lt rfl) wd_107, List.forall_mem_cons.mpr ⟨fdX0 (am_lt rfl) wd_106, List.forall_mem_cons.mpr ⟨fdX0 (am_lt rfl) wd_105, fun _ h => absurd h List.not_mem_nil⟩⟩⟩⟩⟩⟩)) (am_Kl (fun _ h => absurd h List.not_mem_nil)) (am_Cl (fun _ h => absurd h List.not_mem_nil))
abbrev rmX0_copyFrom : Room := { frames := 1, cells := 0, slots := 0, locals := 26 }
abbrev wsX0_copyFrom : List Jvm.Cond := Jvm.Cond.code yX0_copyFrom cX0_copyFrom 3 none :: am_B
set_option maxRecDepth 100000 in
set_option maxHeartbeats 4000000 in
theorem snX0_copyFrom : am_Snd vwCl yX0_copyFrom wsX0_copyFrom rmX0_copyFrom sX0_copyFrom := am_snd_of (cc := cX0_copyFrom) (by decide) rfl (by decide +kernel) (am_Fl (List.forall_mem_cons.mpr ⟨fdX0 (am_lt rfl) wd_110, List.forall_mem_cons.mpr ⟨fdX0 (am_lt rfl) wd_109, List.forall_mem_cons.mpr ⟨fdX0 (am_lt rfl) wd_108, List.forall_mem_cons.mpr ⟨fdX0 (am_lt rfl) wd_107, List.forall_mem_cons.mpr ⟨fdX0 (am_lt rfl) wd_106, List.forall_mem_cons.mpr ⟨fdX0 (am_lt rfl) wd_105, List.forall_mem_cons.mpr ⟨fdX0 (am_lt rfl) wd_111, fun _ h => absurd h List.not_mem_nil⟩⟩⟩⟩⟩⟩⟩)) (am_Kl (fun _ h => absurd h List.not_mem_nil)) (am_Cl (List.forall_mem_cons.mpr ⟨am_cal_acp (List.mem_cons_of_mem _ wd_112) (List.mem_cons_of_mem _ wd_113) (List.mem_cons_of_mem _ wd_114) (List.mem_cons_of_mem _ wd_115) ⟨am_le rfl, am_le rfl⟩, fun _ h => absurd h List.not_mem_nil⟩))
abbrev rmX0_has : Room := { frames := 0, cells := 0, slots := 0, locals := 0 }
abbrev wsX0_has : List Jvm.Cond := Jvm.Cond.code yX0_has cX0_has 2 (some .boolean) :: am_B
set_option maxRecDepth 100000 in
set_option maxHeartbeats 4000000 in
theorem snX0_has : am_Snd vwCl yX0_has wsX0_has rmX0_has sX0_has := am_snd_of (cc := cX0_has) (by decide) rfl (by decide +kernel) (am_Fl (List.forall_mem_cons.mpr ⟨fdX0 (am_lt rfl) wd_110, fun _ h => absurd h List.not_mem_nil⟩)) (am_Kl (fun _ h => absurd h List.not_mem_nil)) (am_Cl (fun _ h => absurd h List.not_mem_nil))
abbrev rmX0_pools : Room := { frames := 0, cells := 0, slots := 0, locals := 0 }
abbrev wsX0_pools : List Jvm.Cond := Jvm.Cond.code yX0_pools cX0_pools 1 (some .int) :: am_B
set_option maxRecDepth 100000 in
set_option maxHeartbeats 4000000 in
theorem snX0_pools : am_Snd vwCl yX0_pools wsX0_pools rmX0_pools sX0_pools := am_snd_of (cc := cX0_pools) (by decide) rfl (by decide +kernel) (am_Fl (List.forall_mem_cons.mpr ⟨fdX0 (am_lt rfl) wd_110, fun _ h => absurd h List.not_mem_nil⟩)) (am_Kl (fun _ h => absurd h List.not_mem_nil)) (am_Cl (fun _ h => absurd h List.not_mem_nil))
abbrev rmX0_those : Room := { frames := 0, cells := 0, slots := 0, locals := 0 }
abbrev wsX0_those : List Jvm.Cond := Jvm.Cond.code yX0_those cX0_those 4 (some .int) :: am_B
set_option maxRecDepth 100000 in
set_option maxHeartbeats 4000000 in
theorem snX0_those : am_Snd vwCl yX0_those wsX0_those rmX0_those sX0_those := am_snd_of (cc := cX0_those) (by decide) rfl (by decide +kernel) (am_Fl (List.forall_mem_cons.mpr ⟨fdX0 (am_lt rfl) wd_110, List.forall_mem_cons.mpr ⟨fdX0 (am_lt rfl) wd_111, fun _ h => absurd h List.not_mem_nil⟩⟩)) (am_Kl (fun _ h => absurd h List.not_mem_nil)) (am_Cl (fun _ h => absurd h List.not_mem_nil))
abbrev rmJ6_bitCount : Room := { frames := 0, cells := 0, slots := 0, locals := 0 }
abbrev wsJ6_bitCount : List Jvm.Cond := Jvm.Cond.code yJ6_bitCount_0f7a4 cJ6_bitCount_0f7a4 1 (some .int) :: am_B
set_option maxRecDepth 100000 in
set_option maxHeartbeats 4000000 in
theorem snJ6_bitCount : am_Snd vwCl yJ6_bitCount_0f7a4 wsJ6_bitCount rmJ6_bitCount sJ6_bitCount := am_snd_of (cc := cJ6_bitCount_0f7a4) (by decide) rfl (by decide +kernel) (am_Fl (fun _ h => absurd h List.not_mem_nil)) (am_Kl (List.forall_mem_cons.mpr ⟨List.mem_cons_of_mem _ wd_118, List.forall_mem_cons.mpr ⟨List.mem_cons_of_mem _ wd_117, List.forall_mem_cons.mpr ⟨List.mem_cons_of_mem _ wd_116, fun _ h => absurd h List.not_mem_nil⟩⟩⟩)) (am_Cl (fun _ h => absurd h List.not_mem_nil))
abbrev rmX0_howMany : Room := { frames := 1, cells := 0, slots := 0, locals := 23 }
abbrev wsX0_howMany : List Jvm.Cond := Jvm.Cond.code yX0_howMany cX0_howMany 2 (some .int) :: am_B
set_option maxRecDepth 100000 in
set_option maxHeartbeats 4000000 in
theorem snX0_howMany : am_Snd vwCl yX0_howMany wsX0_howMany rmX0_howMany sX0_howMany := am_snd_of (cc := cX0_howMany) (by decide) rfl (by decide +kernel) (am_Fl (fun _ h => absurd h List.not_mem_nil)) (am_Kl (fun _ h => absurd h List.not_mem_nil)) (am_Cl (List.forall_mem_cons.mpr ⟨am_cal_V (r := (RX0, TX0, 7)) snX0_those rfl (by decide) (am_gV wd_123 wd_124 wd_125 wd_126 wd_127) rfl rfl rfl (by decide +kernel) ⟨am_le rfl, am_le rfl⟩, List.forall_mem_cons.mpr ⟨am_cal_S snJ6_bitCount (am_gS wd_119 wd_120 wd_121 wd_122) rfl rfl rfl (by decide +kernel) ⟨am_le rfl, am_le rfl⟩, fun _ h => absurd h List.not_mem_nil⟩⟩))
abbrev rmX0_here : Room := { frames := 1, cells := 0, slots := 0, locals := 23 }
abbrev wsX0_here : List Jvm.Cond := Jvm.Cond.code yX0_here cX0_here 1 (some .int) :: am_B
set_option maxRecDepth 100000 in
set_option maxHeartbeats 4000000 in
theorem snX0_here : am_Snd vwCl yX0_here wsX0_here rmX0_here sX0_here := am_snd_of (cc := cX0_here) (by decide) rfl (by decide +kernel) (am_Fl (fun _ h => absurd h List.not_mem_nil)) (am_Kl (fun _ h => absurd h List.not_mem_nil)) (am_Cl (List.forall_mem_cons.mpr ⟨am_cal_V (r := (RX0, TX0, 7)) snX0_those rfl (by decide) (am_gV wd_123 wd_124 wd_125 wd_126 wd_127) rfl rfl rfl (by decide +kernel) ⟨am_le rfl, am_le rfl⟩, fun _ h => absurd h List.not_mem_nil⟩))
abbrev rmX0_counts : Room := { frames := 0, cells := 0, slots := 0, locals := 0 }
abbrev wsX0_counts : List Jvm.Cond := Jvm.Cond.code yX0_counts cX0_counts 2 (some .boolean) :: am_B
set_option maxRecDepth 100000 in
set_option maxHeartbeats 4000000 in
theorem snX0_counts : am_Snd vwCl yX0_counts wsX0_counts rmX0_counts sX0_counts := am_snd_of (cc := cX0_counts) (by decide) rfl (by decide +kernel) (am_Fl (fun _ h => absurd h List.not_mem_nil)) (am_Kl (fun _ h => absurd h List.not_mem_nil)) (am_Cl (fun _ h => absurd h List.not_mem_nil))
abbrev rmX0_areAlike : Room := { frames := 1, cells := 0, slots := 0, locals := 21 }
abbrev wsX0_areAlike : List Jvm.Cond := Jvm.Cond.code yX0_areAlike cX0_areAlike 3 (some .boolean) :: am_B
set_option maxRecDepth 100000 in
set_option maxHeartbeats 4000000 in
theorem snX0_areAlike : am_Snd vwCl yX0_areAlike wsX0_areAlike rmX0_areAlike sX0_areAlike := am_snd_of (cc := cX0_areAlike) (by decide) rfl (by decide +kernel) (am_Fl (fun _ h => absurd h List.not_mem_nil)) (am_Kl (fun _ h => absurd h List.not_mem_nil)) (am_Cl (List.forall_mem_cons.mpr ⟨am_cal_S snX0_counts (am_gS wd_128 wd_129 wd_126 wd_130) rfl rfl rfl (by decide +kernel) ⟨am_le rfl, am_le rfl⟩, fun _ h => absurd h List.not_mem_nil⟩))
abbrev rmX0_rivalsOf : Room := { frames := 2, cells := 0, slots := 0, locals := 43 }
abbrev wsX0_rivalsOf : List Jvm.Cond := Jvm.Cond.code yX0_rivalsOf cX0_rivalsOf 5 (some .int) :: am_B
set_option maxRecDepth 100000 in
set_option maxHeartbeats 4000000 in
theorem snX0_rivalsOf : am_Snd vwCl yX0_rivalsOf wsX0_rivalsOf rmX0_rivalsOf sX0_rivalsOf := am_snd_of (cc := cX0_rivalsOf) (by decide) rfl (by decide +kernel) (am_Fl (List.forall_mem_cons.mpr ⟨fdX0 (am_lt rfl) wd_110, List.forall_mem_cons.mpr ⟨fdX0 (am_lt rfl) wd_111, fun _ h => absurd h List.not_mem_nil⟩⟩)) (am_Kl (fun _ h => absurd h List.not_mem_nil)) (am_Cl (List.forall_mem_cons.mpr ⟨am_cal_S snX0_areAlike (am_gS wd_131 wd_132 wd_126 wd_133) rfl rfl rfl (by decide +kernel) ⟨am_le rfl, am_le rfl⟩, fun _ h => absurd h List.not_mem_nil⟩))
abbrev rmX0_changeAshore : Room := { frames := 0, cells := 0, slots := 0, locals := 0 }
abbrev wsX0_changeAshore : List Jvm.Cond := Jvm.Cond.code yX0_changeAshore cX0_changeAshore 5 (some .int) :: am_B
set_option maxRecDepth 100000 in
set_option maxHeartbeats 4000000 in
theorem snX0_changeAshore : am_Snd vwCl yX0_changeAshore wsX0_changeAshore rmX0_changeAshore sX0_changeAshore := am_snd_of (cc := cX0_changeAshore) (by decide) rfl (by decide +kernel) (am_Fl (List.forall_mem_cons.mpr ⟨fdX0 (am_lt rfl) wd_111, fun _ h => absurd h List.not_mem_nil⟩)) (am_Kl (fun _ h => absurd h List.not_mem_nil)) (am_Cl (fun _ h => absurd h List.not_mem_nil))
abbrev rmX0_moveAll : Room := { frames := 0, cells := 0, slots := 0, locals := 0 }
abbrev wsX0_moveAll : List Jvm.Cond := Jvm.Cond.code yX0_moveAll cX0_moveAll 4 none :: am_B
set_option maxRecDepth 100000 in
set_option maxHeartbeats 4000000 in
theorem snX0_moveAll : am_Snd vwCl yX0_moveAll wsX0_moveAll rmX0_moveAll sX0_moveAll := am_snd_of (cc := cX0_moveAll) (by decide) rfl (by decide +kernel) (am_Fl (List.forall_mem_cons.mpr ⟨fdX0 (am_lt rfl) wd_110, List.forall_mem_cons.mpr ⟨fdX0 (am_lt rfl) wd_111, fun _ h => absurd h List.not_mem_nil⟩⟩)) (am_Kl (fun _ h => absurd h List.not_mem_nil)) (am_Cl (fun _ h => absurd h List.not_mem_nil))
abbrev rmX0_takeAboard : Room := { frames := 3, cells := 0, slots := 0, locals := 67 }
abbrev wsX0_takeAboard : List Jvm.Cond := Jvm.Cond.code yX0_takeAboard cX0_takeAboard 4 (some .int) :: am_B
set_option maxRecDepth 100000 in
set_option maxHeartbeats 4000000 in
theorem snX0_takeAboard : am_Snd vwCl yX0_takeAboard wsX0_takeAboard rmX0_takeAboard sX0_takeAboard := am_snd_of (cc := cX0_takeAboard) (by decide) rfl (by decide +kernel) (am_Fl (List.forall_mem_cons.mpr ⟨fdX0 (am_lt rfl) wd_111, List.forall_mem_cons.mpr ⟨fdX0 (am_lt rfl) wd_109, List.forall_mem_cons.mpr ⟨fdX0 (am_lt rfl) wd_105, fun _ h => absurd h List.not_mem_nil⟩⟩⟩)) (am_Kl (fun _ h => absurd h List.not_mem_nil)) (am_Cl (List.forall_mem_cons.mpr ⟨am_cal_V (r := (RX0, TX0, 7)) snX0_has rfl (by decide) (am_gV wd_142 wd_143 wd_144 wd_126 wd_145) rfl rfl rfl (by decide +kernel) ⟨am_le rfl, am_le rfl⟩, List.forall_mem_cons.mpr ⟨am_cal_V (r := (RX0, TX0, 7)) snX0_those rfl (by decide) (am_gV wd_123 wd_124 wd_125 wd_126 wd_127) rfl rfl rfl (by decide +kernel) ⟨am_le rfl, am_le rfl⟩, List.forall_mem_cons.mpr ⟨am_cal_V (r := (RX0, TX0, 7)) snX0_rivalsOf rfl (by decide) (am_gV wd_138 wd_139 wd_140 wd_126 wd_141) rfl rfl rfl (by decide +kernel) ⟨am_le rfl, am_le rfl⟩, List.forall_mem_cons.mpr ⟨am_cal_S snJ6_bitCount (am_gS wd_119 wd_120 wd_121 wd_122) rfl rfl rfl (by decide +kernel) ⟨am_le rfl, am_le rfl⟩, List.forall_mem_cons.mpr ⟨am_cal_V (r := (RX0, TX0, 7)) snX0_moveAll rfl (by decide) (am_gV wd_134 wd_135 wd_136 wd_126 wd_137) rfl rfl rfl (by decide +kernel) ⟨am_le rfl, am_le rfl⟩, fun _ h => absurd h List.not_mem_nil⟩⟩⟩⟩⟩))
abbrev rmX0_losePatience : Room := { frames := 0, cells := 0, slots := 0, locals := 0 }
abbrev wsX0_losePatience : List Jvm.Cond := Jvm.Cond.code yX0_losePatience cX0_losePatience 1 none :: am_B
set_option maxRecDepth 100000 in
set_option maxHeartbeats 4000000 in
theorem snX0_losePatience : am_Snd vwCl yX0_losePatience wsX0_losePatience rmX0_losePatience sX0_losePatience := am_snd_of (cc := cX0_losePatience) (by decide) rfl (by decide +kernel) (am_Fl (fun _ h => absurd h List.not_mem_nil)) (am_Kl (fun _ h => absurd h List.not_mem_nil)) (am_Cl (fun _ h => absurd h List.not_mem_nil))
abbrev rmX0_passHour : Room := { frames := 4, cells := 0, slots := 0, locals := 90 }
abbrev wsX0_passHour : List Jvm.Cond := Jvm.Cond.code yX0_passHour cX0_passHour 2 none :: am_B
set_option maxRecDepth 100000 in
set_option maxHeartbeats 4000000 in
theorem snX0_passHour : am_Snd vwCl yX0_passHour wsX0_passHour rmX0_passHour sX0_passHour := am_snd_of (cc := cX0_passHour) (by decide) rfl (by decide +kernel) (am_Fl (List.forall_mem_cons.mpr ⟨fdX0 (am_lt rfl) wd_110, List.forall_mem_cons.mpr ⟨fdX0 (am_lt rfl) wd_111, List.forall_mem_cons.mpr ⟨fdX0 (am_lt rfl) wd_106, fun _ h => absurd h List.not_mem_nil⟩⟩⟩)) (am_Kl (fun _ h => absurd h List.not_mem_nil)) (am_Cl (List.forall_mem_cons.mpr ⟨am_cal_V (r := (RX0, TX0, 7)) snX0_takeAboard rfl (by decide) (am_gV wd_149 wd_150 wd_151 wd_126 wd_152) rfl rfl rfl (by decide +kernel) ⟨am_le rfl, am_le rfl⟩, List.forall_mem_cons.mpr ⟨am_cal_S snX0_losePatience (am_gS wd_146 wd_147 wd_126 wd_148) rfl rfl rfl (by decide +kernel) ⟨am_le rfl, am_le rfl⟩, fun _ h => absurd h List.not_mem_nil⟩⟩))
abbrev rmX0_passHours : Room := { frames := 5, cells := 0, slots := 0, locals := 111 }
abbrev wsX0_passHours : List Jvm.Cond := Jvm.Cond.code yX0_passHours cX0_passHours 4 (some .int) :: am_B
set_option maxRecDepth 100000 in
set_option maxHeartbeats 4000000 in
theorem snX0_passHours : am_Snd vwCl yX0_passHours wsX0_passHours rmX0_passHours sX0_passHours := am_snd_of (cc := cX0_passHours) (by decide) rfl (by decide +kernel) (am_Fl (List.forall_mem_cons.mpr ⟨fdX0 (am_lt rfl) wd_105, fun _ h => absurd h List.not_mem_nil⟩)) (am_Kl (fun _ h => absurd h List.not_mem_nil)) (am_Cl (List.forall_mem_cons.mpr ⟨am_cal_V (r := (RX0, TX0, 7)) snX0_passHour rfl (by decide) (am_gV wd_153 wd_154 wd_155 wd_126 wd_156) rfl rfl rfl (by decide +kernel) ⟨am_le rfl, am_le rfl⟩, fun _ h => absurd h List.not_mem_nil⟩))
abbrev rmX6_isIn : Room := { frames := 0, cells := 0, slots := 0, locals := 0 }
abbrev wsX6_isIn : List Jvm.Cond := Jvm.Cond.code yX6_isIn cX6_isIn 2 (some .boolean) :: am_B
set_option maxRecDepth 100000 in
set_option maxHeartbeats 4000000 in
theorem snX6_isIn : am_Snd vwCl yX6_isIn wsX6_isIn rmX6_isIn sX6_isIn := am_snd_of (cc := cX6_isIn) (by decide) rfl (by decide +kernel) (am_Fl (fun _ h => absurd h List.not_mem_nil)) (am_Kl (fun _ h => absurd h List.not_mem_nil)) (am_Cl (fun _ h => absurd h List.not_mem_nil))
abbrev rmX0_bitOf : Room := { frames := 1, cells := 0, slots := 0, locals := 21 }
abbrev wsX0_bitOf : List Jvm.Cond := Jvm.Cond.code yX0_bitOf cX0_bitOf 2 (some .int) :: am_B
set_option maxRecDepth 100000 in
set_option maxHeartbeats 4000000 in
theorem snX0_bitOf : am_Snd vwCl yX0_bitOf wsX0_bitOf rmX0_bitOf sX0_bitOf := am_snd_of (cc := cX0_bitOf) (by decide) rfl (by decide +kernel) (am_Fl (fun _ h => absurd h List.not_mem_nil)) (am_Kl (fun _ h => absurd h List.not_mem_nil)) (am_Cl (List.forall_mem_cons.mpr ⟨am_cal_S snX0_counts (am_gS wd_128 wd_129 wd_126 wd_130) rfl rfl rfl (by decide +kernel) ⟨am_le rfl, am_le rfl⟩, fun _ h => absurd h List.not_mem_nil⟩))
abbrev rmX0_costToPart : Room := { frames := 2, cells := 0, slots := 0, locals := 42 }
abbrev wsX0_costToPart : List Jvm.Cond := Jvm.Cond.code yX0_costToPart cX0_costToPart 11 (some .int) :: am_B
set_option maxRecDepth 100000 in
set_option maxHeartbeats 4000000 in
theorem snX0_costToPart : am_Snd vwCl yX0_costToPart wsX0_costToPart rmX0_costToPart sX0_costToPart := am_snd_of (cc := cX0_costToPart) (by decide) rfl (by decide +kernel) (am_Fl (List.forall_mem_cons.mpr ⟨fdX0 (am_lt rfl) wd_110, List.forall_mem_cons.mpr ⟨fdX0 (am_lt rfl) wd_111, List.forall_mem_cons.mpr ⟨fdX0 (am_lt rfl) wd_108, List.forall_mem_cons.mpr ⟨fdX0 (am_lt rfl) wd_107, fun _ h => absurd h List.not_mem_nil⟩⟩⟩⟩)) (am_Kl (fun _ h => absurd h List.not_mem_nil)) (am_Cl (List.forall_mem_cons.mpr ⟨am_cal_N (host := "UnlikeFerry") snX6_isIn (am_gB wd_160) (List.mem_cons_of_mem _ wd_161) (List.mem_cons_of_mem _ wd_162) rfl rfl rfl (by decide +kernel) ⟨am_le rfl, am_le rfl⟩ (fun _ _ _ _ _ h => h.2.2.2.2.1), List.forall_mem_cons.mpr ⟨am_cal_S snX0_bitOf (am_gS wd_157 wd_158 wd_126 wd_159) rfl rfl rfl (by decide +kernel) ⟨am_le rfl, am_le rfl⟩, fun _ h => absurd h List.not_mem_nil⟩⟩))
abbrev rmX1_restart : Room := { frames := 1, cells := 0, slots := 0, locals := 20 }
abbrev wsX1_restart : List Jvm.Cond := Jvm.Cond.code yX1_restart cX1_restart 1 none :: am_B
set_option maxRecDepth 100000 in
set_option maxHeartbeats 4000000 in
theorem snX1_restart : am_Snd vwCl yX1_restart wsX1_restart rmX1_restart sX1_restart := am_snd_of (cc := cX1_restart) (by decide) rfl (by decide +kernel) (am_Fl (List.forall_mem_cons.mpr ⟨fdX1 (am_lt rfl) wd_170, List.forall_mem_cons.mpr ⟨fdX1 (am_lt rfl) wd_169, List.forall_mem_cons.mpr ⟨fdX1 (am_lt rfl) wd_168, List.forall_mem_cons.mpr ⟨fdX1 (am_lt rfl) wd_167, List.forall_mem_cons.mpr ⟨fdX1 (am_lt rfl) wd_166, List.forall_mem_cons.mpr ⟨fdX1 (am_lt rfl) wd_165, List.forall_mem_cons.mpr ⟨fdX1 (am_lt rfl) wd_164, List.forall_mem_cons.mpr ⟨fdX1 (am_lt rfl) wd_163, fun _ h => absurd h List.not_mem_nil⟩⟩⟩⟩⟩⟩⟩⟩)) (am_Kl (fun _ h => absurd h List.not_mem_nil)) (am_Cl (List.forall_mem_cons.mpr ⟨am_cal_V (r := (RX0, TX0, 7)) snX0_clear rfl (by decide) (am_gV wd_171 wd_172 wd_173 wd_126 wd_174) rfl rfl rfl (by decide +kernel) ⟨am_le rfl, am_le rfl⟩, fun _ h => absurd h List.not_mem_nil⟩))
abbrev rmX5_signAt : Room := { frames := 0, cells := 0, slots := 0, locals := 0 }
abbrev wsX5_signAt : List Jvm.Cond := Jvm.Cond.code yX5_signAt cX5_signAt 2 (some .int) :: am_B
set_option maxRecDepth 100000 in
set_option maxHeartbeats 4000000 in
theorem snX5_signAt : am_Snd vwCl yX5_signAt wsX5_signAt rmX5_signAt sX5_signAt := am_snd_of (cc := cX5_signAt) (by decide) rfl (by decide +kernel) (am_Fl (List.forall_mem_cons.mpr ⟨fdX5 (am_lt rfl) wd_176, List.forall_mem_cons.mpr ⟨fdX5 (am_lt rfl) wd_175, fun _ h => absurd h List.not_mem_nil⟩⟩)) (am_Kl (fun _ h => absurd h List.not_mem_nil)) (am_Cl (fun _ h => absurd h List.not_mem_nil))
abbrev rmX5_isLetterAt : Room := { frames := 0, cells := 0, slots := 0, locals := 0 }
abbrev wsX5_isLetterAt : List Jvm.Cond := Jvm.Cond.code yX5_isLetterAt cX5_isLetterAt 2 (some .boolean) :: am_B
set_option maxRecDepth 100000 in
set_option maxHeartbeats 4000000 in
theorem snX5_isLetterAt : am_Snd vwCl yX5_isLetterAt wsX5_isLetterAt rmX5_isLetterAt sX5_isLetterAt := am_snd_of (cc := cX5_isLetterAt) (by decide) rfl (by decide +kernel) (am_Fl (List.forall_mem_cons.mpr ⟨fdX5 (am_lt rfl) wd_176, List.forall_mem_cons.mpr ⟨fdX5 (am_lt rfl) wd_175, fun _ h => absurd h List.not_mem_nil⟩⟩)) (am_Kl (fun _ h => absurd h List.not_mem_nil)) (am_Cl (fun _ h => absurd h List.not_mem_nil))
abbrev rmX5_isFigureAt : Room := { frames := 0, cells := 0, slots := 0, locals := 0 }
abbrev wsX5_isFigureAt : List Jvm.Cond := Jvm.Cond.code yX5_isFigureAt cX5_isFigureAt 2 (some .boolean) :: am_B
set_option maxRecDepth 100000 in
set_option maxHeartbeats 4000000 in
theorem snX5_isFigureAt : am_Snd vwCl yX5_isFigureAt wsX5_isFigureAt rmX5_isFigureAt sX5_isFigureAt := am_snd_of (cc := cX5_isFigureAt) (by decide) rfl (by decide +kernel) (am_Fl (List.forall_mem_cons.mpr ⟨fdX5 (am_lt rfl) wd_176, List.forall_mem_cons.mpr ⟨fdX5 (am_lt rfl) wd_175, fun _ h => absurd h List.not_mem_nil⟩⟩)) (am_Kl (fun _ h => absurd h List.not_mem_nil)) (am_Cl (fun _ h => absurd h List.not_mem_nil))
abbrev rmX1_fail : Room := { frames := 0, cells := 0, slots := 0, locals := 0 }
abbrev wsX1_fail : List Jvm.Cond := Jvm.Cond.code yX1_fail cX1_fail 3 (some .boolean) :: am_B
set_option maxRecDepth 100000 in
set_option maxHeartbeats 4000000 in
theorem snX1_fail : am_Snd vwCl yX1_fail wsX1_fail rmX1_fail sX1_fail := am_snd_of (cc := cX1_fail) (by decide) rfl (by decide +kernel) (am_Fl (List.forall_mem_cons.mpr ⟨fdX1 (am_lt rfl) wd_168, List.forall_mem_cons.mpr ⟨fdX1 (am_lt rfl) wd_167, fun _ h => absurd h List.not_mem_nil⟩⟩)) (am_Kl (fun _ h => absurd h List.not_mem_nil)) (am_Cl (fun _ h => absurd h List.not_mem_nil))
abbrev rmX1_takeToken : Room := { frames := 1, cells := 0, slots := 0, locals := 22 }
abbrev wsX1_takeToken : List Jvm.Cond := Jvm.Cond.code yX1_takeToken cX1_takeToken 1 (some .boolean) :: am_B
set_option maxRecDepth 100000 in
set_option maxHeartbeats 4000000 in
theorem snX1_takeToken : am_Snd vwCl yX1_takeToken wsX1_takeToken rmX1_takeToken sX1_takeToken := am_snd_of (cc := cX1_takeToken) (by decide) rfl (by decide +kernel) (am_Fl (List.forall_mem_cons.mpr ⟨fdX1 (am_lt rfl) wd_166, List.forall_mem_cons.mpr ⟨fdX1 (am_lt rfl) wd_180, List.forall_mem_cons.mpr ⟨fdX1 (am_lt rfl) wd_179, List.forall_mem_cons.mpr ⟨fdX5 (am_lt rfl) wd_178, List.forall_mem_cons.mpr ⟨fdX1 (am_lt rfl) wd_177, fun _ h => absurd h List.not_mem_nil⟩⟩⟩⟩⟩)) (am_Kl (fun _ h => absurd h List.not_mem_nil)) (am_Cl (List.forall_mem_cons.mpr ⟨am_cal_V (r := (RX5, TX5, 2)) snX5_signAt rfl (by decide) (am_gV wd_195 wd_196 wd_197 wd_189 wd_198) rfl rfl rfl (by decide +kernel) ⟨am_le rfl, am_le rfl⟩, List.forall_mem_cons.mpr ⟨am_cal_V (r := (RX5, TX5, 2)) snX5_isLetterAt rfl (by decide) (am_gV wd_191 wd_192 wd_193 wd_189 wd_194) rfl rfl rfl (by decide +kernel) ⟨am_le rfl, am_le rfl⟩, List.forall_mem_cons.mpr ⟨am_cal_V (r := (RX5, TX5, 2)) snX5_isFigureAt rfl (by decide) (am_gV wd_186 wd_187 wd_188 wd_189 wd_190) rfl rfl rfl (by decide +kernel) ⟨am_le rfl, am_le rfl⟩, List.forall_mem_cons.mpr ⟨am_cal_V (r := (RX1, TX1, 11)) snX1_fail rfl (by decide) (am_gV wd_181 wd_182 wd_183 wd_184 wd_185) rfl rfl rfl (by decide +kernel) ⟨am_le rfl, am_le rfl⟩, fun _ h => absurd h List.not_mem_nil⟩⟩⟩⟩))
abbrev rmX5_hasWord : Room := { frames := 4, cells := 0, slots := 0, locals := 85 }
abbrev wsX5_hasWord : List Jvm.Cond := Jvm.Cond.code yX5_hasWord cX5_hasWord 5 (some .boolean) :: am_B
set_option maxRecDepth 100000 in
set_option maxHeartbeats 4000000 in
theorem snX5_hasWord : am_Snd vwCl yX5_hasWord wsX5_hasWord rmX5_hasWord sX5_hasWord := am_snd_of (cc := cX5_hasWord) (by decide) rfl (by decide +kernel) (am_Fl (fun _ h => absurd h List.not_mem_nil)) (am_Kl (fun _ h => absurd h List.not_mem_nil)) (am_Cl (List.forall_mem_cons.mpr ⟨am_cal_len ⟨am_le rfl, am_le rfl⟩, List.forall_mem_cons.mpr ⟨am_cal_V (r := (RX5, TX5, 2)) snX5_signAt rfl (by decide) (am_gV wd_199 wd_196 wd_197 wd_189 wd_198) rfl rfl rfl (by decide +kernel) ⟨am_le rfl, am_le rfl⟩, List.forall_mem_cons.mpr ⟨am_cal_chr ⟨am_le rfl, am_le rfl⟩, fun _ h => absurd h List.not_mem_nil⟩⟩⟩))
abbrev rmX1_isWord : Room := { frames := 5, cells := 0, slots := 0, locals := 109 }
abbrev wsX1_isWord : List Jvm.Cond := Jvm.Cond.code yX1_isWord cX1_isWord 2 (some .boolean) :: am_B
set_option maxRecDepth 100000 in
set_option maxHeartbeats 4000000 in
theorem snX1_isWord : am_Snd vwCl yX1_isWord wsX1_isWord rmX1_isWord sX1_isWord := am_snd_of (cc := cX1_isWord) (by decide) rfl (by decide +kernel) (am_Fl (List.forall_mem_cons.mpr ⟨fdX1 (am_lt rfl) wd_179, List.forall_mem_cons.mpr ⟨fdX1 (am_lt rfl) wd_180, List.forall_mem_cons.mpr ⟨fdX1 (am_lt rfl) wd_166, fun _ h => absurd h List.not_mem_nil⟩⟩⟩)) (am_Kl (fun _ h => absurd h List.not_mem_nil)) (am_Cl (List.forall_mem_cons.mpr ⟨am_cal_V (r := (RX5, TX5, 2)) snX5_hasWord rfl (by decide) (am_gV wd_200 wd_201 wd_202 wd_189 wd_203) rfl rfl rfl (by decide +kernel) ⟨am_le rfl, am_le rfl⟩, fun _ h => absurd h List.not_mem_nil⟩))
abbrev rmX1_number : Room := { frames := 1, cells := 0, slots := 0, locals := 21 }
abbrev wsX1_number : List Jvm.Cond := Jvm.Cond.code yX1_number cX1_number 3 (some .int) :: am_B
set_option maxRecDepth 100000 in
set_option maxHeartbeats 4000000 in
theorem snX1_number : am_Snd vwCl yX1_number wsX1_number rmX1_number sX1_number := am_snd_of (cc := cX1_number) (by decide) rfl (by decide +kernel) (am_Fl (List.forall_mem_cons.mpr ⟨fdX1 (am_lt rfl) wd_180, List.forall_mem_cons.mpr ⟨fdX1 (am_lt rfl) wd_166, List.forall_mem_cons.mpr ⟨fdX1 (am_lt rfl) wd_179, fun _ h => absurd h List.not_mem_nil⟩⟩⟩)) (am_Kl (fun _ h => absurd h List.not_mem_nil)) (am_Cl (List.forall_mem_cons.mpr ⟨am_cal_V (r := (RX5, TX5, 2)) snX5_signAt rfl (by decide) (am_gV wd_195 wd_196 wd_197 wd_189 wd_198) rfl rfl rfl (by decide +kernel) ⟨am_le rfl, am_le rfl⟩, fun _ h => absurd h List.not_mem_nil⟩))
abbrev rmX6_isWithin : Room := { frames := 0, cells := 0, slots := 0, locals := 0 }
abbrev wsX6_isWithin : List Jvm.Cond := Jvm.Cond.code yX6_isWithin cX6_isWithin 3 (some .boolean) :: am_B
set_option maxRecDepth 100000 in
set_option maxHeartbeats 4000000 in
theorem snX6_isWithin : am_Snd vwCl yX6_isWithin wsX6_isWithin rmX6_isWithin sX6_isWithin := am_snd_of (cc := cX6_isWithin) (by decide) rfl (by decide +kernel) (am_Fl (fun _ h => absurd h List.not_mem_nil)) (am_Kl (fun _ h => absurd h List.not_mem_nil)) (am_Cl (fun _ h => absurd h List.not_mem_nil))
abbrev rmX1_takeNumber : Room := { frames := 2, cells := 0, slots := 0, locals := 43 }
abbrev wsX1_takeNumber : List Jvm.Cond := Jvm.Cond.code yX1_takeNumber cX1_takeNumber 3 (some .boolean) :: am_B
set_option maxRecDepth 100000 in
set_option maxHeartbeats 4000000 in
theorem snX1_takeNumber : am_Snd vwCl yX1_takeNumber wsX1_takeNumber rmX1_takeNumber sX1_takeNumber := am_snd_of (cc := cX1_takeNumber) (by decide) rfl (by decide +kernel) (am_Fl (List.forall_mem_cons.mpr ⟨fdX1 (am_lt rfl) wd_177, List.forall_mem_cons.mpr ⟨fdX1 (am_lt rfl) wd_180, fun _ h => absurd h List.not_mem_nil⟩⟩)) (am_Kl (fun _ h => absurd h List.not_mem_nil)) (am_Cl (List.forall_mem_cons.mpr ⟨am_cal_V (r := (RX1, TX1, 11)) snX1_takeToken rfl (by decide) (am_gV wd_210 wd_211 wd_212 wd_184 wd_213) rfl rfl rfl (by decide +kernel) ⟨am_le rfl, am_le rfl⟩, List.forall_mem_cons.mpr ⟨am_cal_V (r := (RX1, TX1, 11)) snX1_fail rfl (by decide) (am_gV wd_181 wd_182 wd_183 wd_184 wd_185) rfl rfl rfl (by decide +kernel) ⟨am_le rfl, am_le rfl⟩, List.forall_mem_cons.mpr ⟨am_cal_V (r := (RX1, TX1, 11)) snX1_number rfl (by decide) (am_gV wd_206 wd_207 wd_208 wd_184 wd_209) rfl rfl rfl (by decide +kernel) ⟨am_le rfl, am_le rfl⟩, List.forall_mem_cons.mpr ⟨am_cal_N (host := "UnlikeFerry") snX6_isWithin (am_gB wd_204) (List.mem_cons_of_mem _ wd_205) (List.mem_cons_of_mem _ wd_162) rfl rfl rfl (by decide +kernel) ⟨am_le rfl, am_le rfl⟩ (fun _ _ _ _ _ h => h.2.2.2.2.2.2.2), fun _ h => absurd h List.not_mem_nil⟩⟩⟩⟩))
abbrev rmX1_takeStop : Room := { frames := 2, cells := 0, slots := 0, locals := 42 }
abbrev wsX1_takeStop : List Jvm.Cond := Jvm.Cond.code yX1_takeStop cX1_takeStop 1 (some .boolean) :: am_B
set_option maxRecDepth 100000 in
set_option maxHeartbeats 4000000 in
theorem snX1_takeStop : am_Snd vwCl yX1_takeStop wsX1_takeStop rmX1_takeStop sX1_takeStop := am_snd_of (cc := cX1_takeStop) (by decide) rfl (by decide +kernel) (am_Fl (List.forall_mem_cons.mpr ⟨fdX1 (am_lt rfl) wd_177, List.forall_mem_cons.mpr ⟨fdX1 (am_lt rfl) wd_180, fun _ h => absurd h List.not_mem_nil⟩⟩)) (am_Kl (fun _ h => absurd h List.not_mem_nil)) (am_Cl (List.forall_mem_cons.mpr ⟨am_cal_V (r := (RX1, TX1, 11)) snX1_takeToken rfl (by decide) (am_gV wd_210 wd_211 wd_212 wd_184 wd_213) rfl rfl rfl (by decide +kernel) ⟨am_le rfl, am_le rfl⟩, List.forall_mem_cons.mpr ⟨am_cal_V (r := (RX1, TX1, 11)) snX1_fail rfl (by decide) (am_gV wd_181 wd_182 wd_183 wd_184 wd_185) rfl rfl rfl (by decide +kernel) ⟨am_le rfl, am_le rfl⟩, fun _ h => absurd h List.not_mem_nil⟩⟩))
abbrev rmX1_takeSeats : Room := { frames := 3, cells := 0, slots := 0, locals := 65 }
abbrev wsX1_takeSeats : List Jvm.Cond := Jvm.Cond.code yX1_takeSeats cX1_takeSeats 1 (some .boolean) :: am_B
set_option maxRecDepth 100000 in
set_option maxHeartbeats 4000000 in
theorem snX1_takeSeats : am_Snd vwCl yX1_takeSeats wsX1_takeSeats rmX1_takeSeats sX1_takeSeats := am_snd_of (cc := cX1_takeSeats) (by decide) rfl (by decide +kernel) (am_Fl (List.forall_mem_cons.mpr ⟨fdX1 (am_lt rfl) wd_164, List.forall_mem_cons.mpr ⟨fdX1 (am_lt rfl) wd_180, List.forall_mem_cons.mpr ⟨fdX1 (am_lt rfl) wd_170, List.forall_mem_cons.mpr ⟨fdX0 (am_lt rfl) wd_214, fun _ h => absurd h List.not_mem_nil⟩⟩⟩⟩)) (am_Kl (fun _ h => absurd h List.not_mem_nil)) (am_Cl (List.forall_mem_cons.mpr ⟨am_cal_V (r := (RX1, TX1, 11)) snX1_fail rfl (by decide) (am_gV wd_181 wd_182 wd_183 wd_184 wd_185) rfl rfl rfl (by decide +kernel) ⟨am_le rfl, am_le rfl⟩, List.forall_mem_cons.mpr ⟨am_cal_V (r := (RX1, TX1, 11)) snX1_takeNumber rfl (by decide) (am_gV wd_219 wd_220 wd_221 wd_184 wd_222) rfl rfl rfl (by decide +kernel) ⟨am_le rfl, am_le rfl⟩, List.forall_mem_cons.mpr ⟨am_cal_V (r := (RX1, TX1, 11)) snX1_number rfl (by decide) (am_gV wd_206 wd_207 wd_208 wd_184 wd_209) rfl rfl rfl (by decide +kernel) ⟨am_le rfl, am_le rfl⟩, List.forall_mem_cons.mpr ⟨am_cal_V (r := (RX1, TX1, 11)) snX1_takeStop rfl (by decide) (am_gV wd_215 wd_216 wd_217 wd_184 wd_218) rfl rfl rfl (by decide +kernel) ⟨am_le rfl, am_le rfl⟩, fun _ h => absurd h List.not_mem_nil⟩⟩⟩⟩))
abbrev rmX1_takeCosts : Room := { frames := 3, cells := 0, slots := 0, locals := 65 }
abbrev wsX1_takeCosts : List Jvm.Cond := Jvm.Cond.code yX1_takeCosts cX1_takeCosts 1 (some .boolean) :: am_B
set_option maxRecDepth 100000 in
set_option maxHeartbeats 4000000 in
theorem snX1_takeCosts : am_Snd vwCl yX1_takeCosts wsX1_takeCosts rmX1_takeCosts sX1_takeCosts := am_snd_of (cc := cX1_takeCosts) (by decide) rfl (by decide +kernel) (am_Fl (List.forall_mem_cons.mpr ⟨fdX1 (am_lt rfl) wd_163, List.forall_mem_cons.mpr ⟨fdX1 (am_lt rfl) wd_180, List.forall_mem_cons.mpr ⟨fdX1 (am_lt rfl) wd_170, List.forall_mem_cons.mpr ⟨fdX0 (am_lt rfl) wd_224, List.forall_mem_cons.mpr ⟨fdX0 (am_lt rfl) wd_223, fun _ h => absurd h List.not_mem_nil⟩⟩⟩⟩⟩)) (am_Kl (fun _ h => absurd h List.not_mem_nil)) (am_Cl (List.forall_mem_cons.mpr ⟨am_cal_V (r := (RX1, TX1, 11)) snX1_fail rfl (by decide) (am_gV wd_181 wd_182 wd_183 wd_184 wd_185) rfl rfl rfl (by decide +kernel) ⟨am_le rfl, am_le rfl⟩, List.forall_mem_cons.mpr ⟨am_cal_V (r := (RX1, TX1, 11)) snX1_takeNumber rfl (by decide) (am_gV wd_219 wd_220 wd_221 wd_184 wd_222) rfl rfl rfl (by decide +kernel) ⟨am_le rfl, am_le rfl⟩, List.forall_mem_cons.mpr ⟨am_cal_V (r := (RX1, TX1, 11)) snX1_number rfl (by decide) (am_gV wd_206 wd_207 wd_208 wd_184 wd_209) rfl rfl rfl (by decide +kernel) ⟨am_le rfl, am_le rfl⟩, List.forall_mem_cons.mpr ⟨am_cal_V (r := (RX1, TX1, 11)) snX1_takeStop rfl (by decide) (am_gV wd_215 wd_216 wd_217 wd_184 wd_218) rfl rfl rfl (by decide +kernel) ⟨am_le rfl, am_le rfl⟩, fun _ h => absurd h List.not_mem_nil⟩⟩⟩⟩))
abbrev rmX1_takeHere : Room := { frames := 3, cells := 0, slots := 0, locals := 65 }
abbrev wsX1_takeHere : List Jvm.Cond := Jvm.Cond.code yX1_takeHere cX1_takeHere 2 (some .boolean) :: am_B
set_option maxRecDepth 100000 in
set_option maxHeartbeats 4000000 in
theorem snX1_takeHere : am_Snd vwCl yX1_takeHere wsX1_takeHere rmX1_takeHere sX1_takeHere := am_snd_of (cc := cX1_takeHere) (by decide) rfl (by decide +kernel) (am_Fl (List.forall_mem_cons.mpr ⟨fdX1 (am_lt rfl) wd_165, List.forall_mem_cons.mpr ⟨fdX1 (am_lt rfl) wd_180, fun _ h => absurd h List.not_mem_nil⟩⟩)) (am_Kl (fun _ h => absurd h List.not_mem_nil)) (am_Cl (List.forall_mem_cons.mpr ⟨am_cal_V (r := (RX1, TX1, 11)) snX1_takeNumber rfl (by decide) (am_gV wd_219 wd_220 wd_221 wd_184 wd_222) rfl rfl rfl (by decide +kernel) ⟨am_le rfl, am_le rfl⟩, List.forall_mem_cons.mpr ⟨am_cal_V (r := (RX1, TX1, 11)) snX1_number rfl (by decide) (am_gV wd_206 wd_207 wd_208 wd_184 wd_209) rfl rfl rfl (by decide +kernel) ⟨am_le rfl, am_le rfl⟩, List.forall_mem_cons.mpr ⟨am_cal_N (host := "UnlikeFerry") snX6_isIn (am_gB wd_160) (List.mem_cons_of_mem _ wd_161) (List.mem_cons_of_mem _ wd_162) rfl rfl rfl (by decide +kernel) ⟨am_le rfl, am_le rfl⟩ (fun _ _ _ _ _ h => h.2.2.2.2.2.1), List.forall_mem_cons.mpr ⟨am_cal_V (r := (RX1, TX1, 11)) snX1_fail rfl (by decide) (am_gV wd_181 wd_182 wd_183 wd_184 wd_185) rfl rfl rfl (by decide +kernel) ⟨am_le rfl, am_le rfl⟩, List.forall_mem_cons.mpr ⟨am_cal_V (r := (RX1, TX1, 11)) snX1_takeStop rfl (by decide) (am_gV wd_215 wd_216 wd_217 wd_184 wd_218) rfl rfl rfl (by decide +kernel) ⟨am_le rfl, am_le rfl⟩, fun _ h => absurd h List.not_mem_nil⟩⟩⟩⟩⟩))
abbrev rmX1_kindNamed : Room := { frames := 6, cells := 0, slots := 0, locals := 130 }
abbrev wsX1_kindNamed : List Jvm.Cond := Jvm.Cond.code yX1_kindNamed cX1_kindNamed 1 (some .int) :: am_B
set_option maxRecDepth 100000 in
set_option maxHeartbeats 4000000 in
theorem snX1_kindNamed : am_Snd vwCl yX1_kindNamed wsX1_kindNamed rmX1_kindNamed sX1_kindNamed := am_snd_of (cc := cX1_kindNamed) (by decide) rfl (by decide +kernel) (am_Fl (fun _ h => absurd h List.not_mem_nil)) (am_Kl (List.forall_mem_cons.mpr ⟨⟨rfl, rfl, am_lt rfl, rfl⟩, List.forall_mem_cons.mpr ⟨⟨rfl, rfl, am_lt rfl, rfl⟩, List.forall_mem_cons.mpr ⟨⟨rfl, rfl, am_lt rfl, rfl⟩, List.forall_mem_cons.mpr ⟨⟨rfl, rfl, am_lt rfl, rfl⟩, List.forall_mem_cons.mpr ⟨⟨rfl, rfl, am_lt rfl, rfl⟩, fun _ h => absurd h List.not_mem_nil⟩⟩⟩⟩⟩)) (am_Cl (List.forall_mem_cons.mpr ⟨am_cal_V (r := (RX1, TX1, 11)) snX1_isWord rfl (by decide) (am_gV wd_225 wd_226 wd_227 wd_184 wd_228) rfl rfl rfl (by decide +kernel) ⟨am_le rfl, am_le rfl⟩, fun _ h => absurd h List.not_mem_nil⟩))
abbrev rmX1_takeOne : Room := { frames := 3, cells := 0, slots := 0, locals := 65 }
abbrev wsX1_takeOne : List Jvm.Cond := Jvm.Cond.code yX1_takeOne cX1_takeOne 4 (some .boolean) :: am_B
set_option maxRecDepth 100000 in
set_option maxHeartbeats 4000000 in
theorem snX1_takeOne : am_Snd vwCl yX1_takeOne wsX1_takeOne rmX1_takeOne sX1_takeOne := am_snd_of (cc := cX1_takeOne) (by decide) rfl (by decide +kernel) (am_Fl (List.forall_mem_cons.mpr ⟨fdX1 (am_lt rfl) wd_180, List.forall_mem_cons.mpr ⟨fdX1 (am_lt rfl) wd_170, List.forall_mem_cons.mpr ⟨fdX0 (am_lt rfl) wd_230, List.forall_mem_cons.mpr ⟨fdX0 (am_lt rfl) wd_229, fun _ h => absurd h List.not_mem_nil⟩⟩⟩⟩)) (am_Kl (fun _ h => absurd h List.not_mem_nil)) (am_Cl (List.forall_mem_cons.mpr ⟨am_cal_V (r := (RX1, TX1, 11)) snX1_fail rfl (by decide) (am_gV wd_181 wd_182 wd_183 wd_184 wd_185) rfl rfl rfl (by decide +kernel) ⟨am_le rfl, am_le rfl⟩, List.forall_mem_cons.mpr ⟨am_cal_V (r := (RX1, TX1, 11)) snX1_takeNumber rfl (by decide) (am_gV wd_219 wd_220 wd_221 wd_184 wd_222) rfl rfl rfl (by decide +kernel) ⟨am_le rfl, am_le rfl⟩, List.forall_mem_cons.mpr ⟨am_cal_V (r := (RX1, TX1, 11)) snX1_number rfl (by decide) (am_gV wd_206 wd_207 wd_208 wd_184 wd_209) rfl rfl rfl (by decide +kernel) ⟨am_le rfl, am_le rfl⟩, List.forall_mem_cons.mpr ⟨am_cal_V (r := (RX1, TX1, 11)) snX1_takeStop rfl (by decide) (am_gV wd_215 wd_216 wd_217 wd_184 wd_218) rfl rfl rfl (by decide +kernel) ⟨am_le rfl, am_le rfl⟩, fun _ h => absurd h List.not_mem_nil⟩⟩⟩⟩))
abbrev rmX1_takeLine : Room := { frames := 7, cells := 0, slots := 0, locals := 150 }
abbrev wsX1_takeLine : List Jvm.Cond := Jvm.Cond.code yX1_takeLine cX1_takeLine 1 (some .boolean) :: am_B
set_option maxRecDepth 100000 in
set_option maxHeartbeats 4000000 in
theorem snX1_takeLine : am_Snd vwCl yX1_takeLine wsX1_takeLine rmX1_takeLine sX1_takeLine := am_snd_of (cc := cX1_takeLine) (by decide) rfl (by decide +kernel) (am_Fl (List.forall_mem_cons.mpr ⟨fdX1 (am_lt rfl) wd_177, List.forall_mem_cons.mpr ⟨fdX1 (am_lt rfl) wd_180, fun _ h => absurd h List.not_mem_nil⟩⟩)) (am_Kl (List.forall_mem_cons.mpr ⟨⟨rfl, rfl, am_lt rfl, rfl⟩, List.forall_mem_cons.mpr ⟨⟨rfl, rfl, am_lt rfl, rfl⟩, List.forall_mem_cons.mpr ⟨⟨rfl, rfl, am_lt rfl, rfl⟩, fun _ h => absurd h List.not_mem_nil⟩⟩⟩)) (am_Cl (List.forall_mem_cons.mpr ⟨am_cal_V (r := (RX1, TX1, 11)) snX1_fail rfl (by decide) (am_gV wd_181 wd_182 wd_183 wd_184 wd_185) rfl rfl rfl (by decide +kernel) ⟨am_le rfl, am_le rfl⟩, List.forall_mem_cons.mpr ⟨am_cal_V (r := (RX1, TX1, 11)) snX1_isWord rfl (by decide) (am_gV wd_225 wd_226 wd_227 wd_184 wd_228) rfl rfl rfl (by decide +kernel) ⟨am_le rfl, am_le rfl⟩, List.forall_mem_cons.mpr ⟨am_cal_V (r := (RX1, TX1, 11)) snX1_takeSeats rfl (by decide) (am_gV wd_247 wd_248 wd_249 wd_184 wd_250) rfl rfl rfl (by decide +kernel) ⟨am_le rfl, am_le rfl⟩, List.forall_mem_cons.mpr ⟨am_cal_V (r := (RX1, TX1, 11)) snX1_takeCosts rfl (by decide) (am_gV wd_243 wd_244 wd_245 wd_184 wd_246) rfl rfl rfl (by decide +kernel) ⟨am_le rfl, am_le rfl⟩, List.forall_mem_cons.mpr ⟨am_cal_V (r := (RX1, TX1, 11)) snX1_takeHere rfl (by decide) (am_gV wd_239 wd_240 wd_241 wd_184 wd_242) rfl rfl rfl (by decide +kernel) ⟨am_le rfl, am_le rfl⟩, List.forall_mem_cons.mpr ⟨am_cal_V (r := (RX1, TX1, 11)) snX1_kindNamed rfl (by decide) (am_gV wd_235 wd_236 wd_237 wd_184 wd_238) rfl rfl rfl (by decide +kernel) ⟨am_le rfl, am_le rfl⟩, List.forall_mem_cons.mpr ⟨am_cal_V (r := (RX1, TX1, 11)) snX1_takeOne rfl (by decide) (am_gV wd_231 wd_232 wd_233 wd_184 wd_234) rfl rfl rfl (by decide +kernel) ⟨am_le rfl, am_le rfl⟩, fun _ h => absurd h List.not_mem_nil⟩⟩⟩⟩⟩⟩⟩))
abbrev rmX1_letWait : Room := { frames := 1, cells := 0, slots := 0, locals := 22 }
abbrev wsX1_letWait : List Jvm.Cond := Jvm.Cond.code yX1_letWait cX1_letWait 2 none :: am_B
set_option maxRecDepth 100000 in
set_option maxHeartbeats 4000000 in
theorem snX1_letWait : am_Snd vwCl yX1_letWait wsX1_letWait rmX1_letWait sX1_letWait := am_snd_of (cc := cX1_letWait) (by decide) rfl (by decide +kernel) (am_Fl (List.forall_mem_cons.mpr ⟨fdX1 (am_lt rfl) wd_165, List.forall_mem_cons.mpr ⟨fdX1 (am_lt rfl) wd_170, List.forall_mem_cons.mpr ⟨fdX1 (am_lt rfl) wd_179, List.forall_mem_cons.mpr ⟨fdX5 (am_lt rfl) wd_178, List.forall_mem_cons.mpr ⟨fdX0 (am_lt rfl) wd_230, List.forall_mem_cons.mpr ⟨fdX0 (am_lt rfl) wd_229, fun _ h => absurd h List.not_mem_nil⟩⟩⟩⟩⟩⟩)) (am_Kl (fun _ h => absurd h List.not_mem_nil)) (am_Cl (List.forall_mem_cons.mpr ⟨am_cal_V (r := (RX0, TX0, 7)) snX0_pools rfl (by decide) (am_gV wd_251 wd_252 wd_253 wd_126 wd_254) rfl rfl rfl (by decide +kernel) ⟨am_le rfl, am_le rfl⟩, List.forall_mem_cons.mpr ⟨am_cal_V (r := (RX1, TX1, 11)) snX1_fail rfl (by decide) (am_gV wd_181 wd_182 wd_183 wd_184 wd_185) rfl rfl rfl (by decide +kernel) ⟨am_le rfl, am_le rfl⟩, List.forall_mem_cons.mpr ⟨am_cal_N (host := "UnlikeFerry") snX6_isIn (am_gB wd_160) (List.mem_cons_of_mem _ wd_161) (List.mem_cons_of_mem _ wd_162) rfl rfl rfl (by decide +kernel) ⟨am_le rfl, am_le rfl⟩ (fun _ _ _ _ _ h => h.2.2.2.2.2.1), fun _ h => absurd h List.not_mem_nil⟩⟩⟩))
abbrev rmX1_tellAll : Room := { frames := 8, cells := 0, slots := 0, locals := 170 }
abbrev wsX1_tellAll : List Jvm.Cond := Jvm.Cond.code yX1_tellAll cX1_tellAll 2 none :: am_B
set_option maxRecDepth 100000 in
set_option maxHeartbeats 4000000 in
theorem snX1_tellAll : am_Snd vwCl yX1_tellAll wsX1_tellAll rmX1_tellAll sX1_tellAll := am_snd_of (cc := cX1_tellAll) (by decide) rfl (by decide +kernel) (am_Fl (List.forall_mem_cons.mpr ⟨fdX1 (am_lt rfl) wd_177, List.forall_mem_cons.mpr ⟨fdX1 (am_lt rfl) wd_169, List.forall_mem_cons.mpr ⟨fdX1 (am_lt rfl) wd_168, fun _ h => absurd h List.not_mem_nil⟩⟩⟩)) (am_Kl (fun _ h => absurd h List.not_mem_nil)) (am_Cl (List.forall_mem_cons.mpr ⟨am_cal_V (r := (RX1, TX1, 11)) snX1_restart rfl (by decide) (am_gV wd_263 wd_264 wd_265 wd_184 wd_266) rfl rfl rfl (by decide +kernel) ⟨am_le rfl, am_le rfl⟩, List.forall_mem_cons.mpr ⟨am_cal_V (r := (RX1, TX1, 11)) snX1_takeToken rfl (by decide) (am_gV wd_210 wd_211 wd_212 wd_184 wd_213) rfl rfl rfl (by decide +kernel) ⟨am_le rfl, am_le rfl⟩, List.forall_mem_cons.mpr ⟨am_cal_V (r := (RX1, TX1, 11)) snX1_takeLine rfl (by decide) (am_gV wd_259 wd_260 wd_261 wd_184 wd_262) rfl rfl rfl (by decide +kernel) ⟨am_le rfl, am_le rfl⟩, List.forall_mem_cons.mpr ⟨am_cal_V (r := (RX1, TX1, 11)) snX1_letWait rfl (by decide) (am_gV wd_255 wd_256 wd_257 wd_184 wd_258) rfl rfl rfl (by decide +kernel) ⟨am_le rfl, am_le rfl⟩, fun _ h => absurd h List.not_mem_nil⟩⟩⟩⟩))
abbrev rmX2_note : Room := { frames := 0, cells := 0, slots := 0, locals := 0 }
abbrev wsX2_note : List Jvm.Cond := Jvm.Cond.code yX2_note cX2_note 3 (some .boolean) :: am_B
set_option maxRecDepth 100000 in
set_option maxHeartbeats 4000000 in
theorem snX2_note : am_Snd vwCl yX2_note wsX2_note rmX2_note sX2_note := am_snd_of (cc := cX2_note) (by decide) rfl (by decide +kernel) (am_Fl (List.forall_mem_cons.mpr ⟨fdX2 (am_lt rfl) wd_269, List.forall_mem_cons.mpr ⟨fdX2 (am_lt rfl) wd_268, List.forall_mem_cons.mpr ⟨fdX2 (am_lt rfl) wd_267, fun _ h => absurd h List.not_mem_nil⟩⟩⟩)) (am_Kl (fun _ h => absurd h List.not_mem_nil)) (am_Cl (fun _ h => absurd h List.not_mem_nil))
abbrev rmX2_those : Room := { frames := 0, cells := 0, slots := 0, locals := 0 }
abbrev wsX2_those : List Jvm.Cond := Jvm.Cond.code yX2_those cX2_those 4 (some .int) :: am_B
set_option maxRecDepth 100000 in
set_option maxHeartbeats 4000000 in
theorem snX2_those : am_Snd vwCl yX2_those wsX2_those rmX2_those sX2_those := am_snd_of (cc := cX2_those) (by decide) rfl (by decide +kernel) (am_Fl (List.forall_mem_cons.mpr ⟨fdX2 (am_lt rfl) wd_269, List.forall_mem_cons.mpr ⟨fdX2 (am_lt rfl) wd_267, List.forall_mem_cons.mpr ⟨fdX2 (am_lt rfl) wd_268, fun _ h => absurd h List.not_mem_nil⟩⟩⟩)) (am_Kl (fun _ h => absurd h List.not_mem_nil)) (am_Cl (fun _ h => absurd h List.not_mem_nil))
abbrev rmX3_isUnlike : Room := { frames := 1, cells := 0, slots := 0, locals := 21 }
abbrev wsX3_isUnlike : List Jvm.Cond := Jvm.Cond.code yX3_isUnlike cX3_isUnlike 3 (some .boolean) :: am_B
set_option maxRecDepth 100000 in
set_option maxHeartbeats 4000000 in
theorem snX3_isUnlike : am_Snd vwCl yX3_isUnlike wsX3_isUnlike rmX3_isUnlike sX3_isUnlike := am_snd_of (cc := cX3_isUnlike) (by decide) rfl (by decide +kernel) (am_Fl (List.forall_mem_cons.mpr ⟨fdX3 (am_lt rfl) wd_270, fun _ h => absurd h List.not_mem_nil⟩)) (am_Kl (fun _ h => absurd h List.not_mem_nil)) (am_Cl (List.forall_mem_cons.mpr ⟨am_cal_N (host := "UnlikeFerry") snX6_isIn (am_gB wd_160) (List.mem_cons_of_mem _ wd_161) (List.mem_cons_of_mem _ wd_162) rfl rfl rfl (by decide +kernel) ⟨am_le rfl, am_le rfl⟩ (fun _ _ _ _ _ h => h.2.2.2.2.2.2.1), fun _ h => absurd h List.not_mem_nil⟩))
abbrev rmX3_gather : Room := { frames := 3, cells := 0, slots := 0, locals := 67 }
abbrev wsX3_gather : List Jvm.Cond := Jvm.Cond.code yX3_gather cX3_gather 7 none :: am_B
set_option maxRecDepth 100000 in
set_option maxHeartbeats 4000000 in
theorem snX3_gather : am_Snd vwCl yX3_gather wsX3_gather rmX3_gather sX3_gather := am_snd_of (cc := cX3_gather) (by decide) rfl (by decide +kernel) (am_Fl (List.forall_mem_cons.mpr ⟨fdX0 (am_lt rfl) wd_275, List.forall_mem_cons.mpr ⟨fdX3 (am_lt rfl) wd_270, List.forall_mem_cons.mpr ⟨fdX0 (am_lt rfl) wd_274, List.forall_mem_cons.mpr ⟨fdX3 (am_lt rfl) wd_273, List.forall_mem_cons.mpr ⟨fdX3 (am_lt rfl) wd_272, List.forall_mem_cons.mpr ⟨fdX3 (am_lt rfl) wd_271, fun _ h => absurd h List.not_mem_nil⟩⟩⟩⟩⟩⟩)) (am_Kl (fun _ h => absurd h List.not_mem_nil)) (am_Cl (List.forall_mem_cons.mpr ⟨am_cal_V (r := (RX0, TX0, 7)) snX0_rivalsOf rfl (by decide) (am_gV wd_283 wd_139 wd_140 wd_126 wd_141) rfl rfl rfl (by decide +kernel) ⟨am_le rfl, am_le rfl⟩, List.forall_mem_cons.mpr ⟨am_cal_V (r := (RX0, TX0, 7)) snX0_pools rfl (by decide) (am_gV wd_282 wd_252 wd_253 wd_126 wd_254) rfl rfl rfl (by decide +kernel) ⟨am_le rfl, am_le rfl⟩, List.forall_mem_cons.mpr ⟨am_cal_S snJ6_bitCount (am_gS wd_281 wd_120 wd_121 wd_122) rfl rfl rfl (by decide +kernel) ⟨am_le rfl, am_le rfl⟩, List.forall_mem_cons.mpr ⟨am_cal_V (r := (RX3, TX3, 5)) snX3_isUnlike rfl (by decide) (am_gV wd_276 wd_277 wd_278 wd_279 wd_280) rfl rfl rfl (by decide +kernel) ⟨am_le rfl, am_le rfl⟩, fun _ h => absurd h List.not_mem_nil⟩⟩⟩⟩))
abbrev rmJ6_numberOfLeadingZeros : Room := { frames := 0, cells := 0, slots := 0, locals := 0 }
abbrev wsJ6_numberOfLeadingZeros : List Jvm.Cond := Jvm.Cond.code yJ6_numberOfLeadingZeros_0f7a4 cJ6_numberOfLeadingZeros_0f7a4 2 (some .int) :: am_B
set_option maxRecDepth 100000 in
set_option maxHeartbeats 4000000 in
theorem snJ6_numberOfLeadingZeros : am_Snd vwCl yJ6_numberOfLeadingZeros_0f7a4 wsJ6_numberOfLeadingZeros rmJ6_numberOfLeadingZeros sJ6_numberOfLeadingZeros := am_snd_of (cc := cJ6_numberOfLeadingZeros_0f7a4) (by decide) rfl (by decide +kernel) (am_Fl (fun _ h => absurd h List.not_mem_nil)) (am_Kl (List.forall_mem_cons.mpr ⟨List.mem_cons_of_mem _ wd_284, fun _ h => absurd h List.not_mem_nil⟩)) (am_Cl (fun _ h => absurd h List.not_mem_nil))
abbrev rmJ6_highestOneBit : Room := { frames := 1, cells := 0, slots := 0, locals := 21 }
abbrev wsJ6_highestOneBit : List Jvm.Cond := Jvm.Cond.code yJ6_highestOneBit_0f7a4 cJ6_highestOneBit_0f7a4 1 (some .int) :: am_B
set_option maxRecDepth 100000 in
set_option maxHeartbeats 4000000 in
theorem snJ6_highestOneBit : am_Snd vwCl yJ6_highestOneBit_0f7a4 wsJ6_highestOneBit rmJ6_highestOneBit sJ6_highestOneBit := am_snd_of (cc := cJ6_highestOneBit_0f7a4) (by decide) rfl (by decide +kernel) (am_Fl (fun _ h => absurd h List.not_mem_nil)) (am_Kl (List.forall_mem_cons.mpr ⟨List.mem_cons_of_mem _ wd_285, fun _ h => absurd h List.not_mem_nil⟩)) (am_Cl (List.forall_mem_cons.mpr ⟨am_cal_S snJ6_numberOfLeadingZeros (am_gS wd_286 wd_287 wd_121 wd_288) rfl rfl rfl (by decide +kernel) ⟨am_le rfl, am_le rfl⟩, fun _ h => absurd h List.not_mem_nil⟩))
abbrev rmX3_pack : Room := { frames := 2, cells := 0, slots := 0, locals := 41 }
abbrev wsX3_pack : List Jvm.Cond := Jvm.Cond.code yX3_pack cX3_pack 6 none :: am_B
set_option maxRecDepth 100000 in
set_option maxHeartbeats 4000000 in
theorem snX3_pack : am_Snd vwCl yX3_pack wsX3_pack rmX3_pack sX3_pack := am_snd_of (cc := cX3_pack) (by decide) rfl (by decide +kernel) (am_Fl (List.forall_mem_cons.mpr ⟨fdX3 (am_lt rfl) wd_289, List.forall_mem_cons.mpr ⟨fdX3 (am_lt rfl) wd_273, List.forall_mem_cons.mpr ⟨fdX3 (am_lt rfl) wd_272, List.forall_mem_cons.mpr ⟨fdX3 (am_lt rfl) wd_271, fun _ h => absurd h List.not_mem_nil⟩⟩⟩⟩)) (am_Kl (fun _ h => absurd h List.not_mem_nil)) (am_Cl (List.forall_mem_cons.mpr ⟨am_cal_S snJ6_highestOneBit (am_gS wd_294 wd_295 wd_121 wd_296) rfl rfl rfl (by decide +kernel) ⟨am_le rfl, am_le rfl⟩, List.forall_mem_cons.mpr ⟨am_cal_max (List.mem_cons_of_mem _ wd_291) (List.mem_cons_of_mem _ wd_292) (List.mem_cons_of_mem _ wd_293) (List.mem_cons_of_mem _ wd_290) ⟨am_le rfl, am_le rfl⟩, fun _ h => absurd h List.not_mem_nil⟩⟩))
abbrev rmX3_hasOneWithin : Room := { frames := 0, cells := 0, slots := 0, locals := 0 }
abbrev wsX3_hasOneWithin : List Jvm.Cond := Jvm.Cond.code yX3_hasOneWithin cX3_hasOneWithin 3 (some .boolean) :: am_B
set_option maxRecDepth 100000 in
set_option maxHeartbeats 4000000 in
theorem snX3_hasOneWithin : am_Snd vwCl yX3_hasOneWithin wsX3_hasOneWithin rmX3_hasOneWithin sX3_hasOneWithin := am_snd_of (cc := cX3_hasOneWithin) (by decide) rfl (by decide +kernel) (am_Fl (List.forall_mem_cons.mpr ⟨fdX3 (am_lt rfl) wd_272, List.forall_mem_cons.mpr ⟨fdX3 (am_lt rfl) wd_271, fun _ h => absurd h List.not_mem_nil⟩⟩)) (am_Kl (fun _ h => absurd h List.not_mem_nil)) (am_Cl (fun _ h => absurd h List.not_mem_nil))
abbrev rmX3_inAll : Room := { frames := 0, cells := 0, slots := 0, locals := 0 }
abbrev wsX3_inAll : List Jvm.Cond := Jvm.Cond.code yX3_inAll cX3_inAll 3 (some .int) :: am_B
set_option maxRecDepth 100000 in
set_option maxHeartbeats 4000000 in
theorem snX3_inAll : am_Snd vwCl yX3_inAll wsX3_inAll rmX3_inAll sX3_inAll := am_snd_of (cc := cX3_inAll) (by decide) rfl (by decide +kernel) (am_Fl (List.forall_mem_cons.mpr ⟨fdX3 (am_lt rfl) wd_272, List.forall_mem_cons.mpr ⟨fdX3 (am_lt rfl) wd_271, fun _ h => absurd h List.not_mem_nil⟩⟩)) (am_Kl (fun _ h => absurd h List.not_mem_nil)) (am_Cl (fun _ h => absurd h List.not_mem_nil))
abbrev rmX3_inAny : Room := { frames := 0, cells := 0, slots := 0, locals := 0 }
abbrev wsX3_inAny : List Jvm.Cond := Jvm.Cond.code yX3_inAny cX3_inAny 3 (some .int) :: am_B
set_option maxRecDepth 100000 in
set_option maxHeartbeats 4000000 in
theorem snX3_inAny : am_Snd vwCl yX3_inAny wsX3_inAny rmX3_inAny sX3_inAny := am_snd_of (cc := cX3_inAny) (by decide) rfl (by decide +kernel) (am_Fl (List.forall_mem_cons.mpr ⟨fdX3 (am_lt rfl) wd_272, List.forall_mem_cons.mpr ⟨fdX3 (am_lt rfl) wd_271, fun _ h => absurd h List.not_mem_nil⟩⟩)) (am_Kl (fun _ h => absurd h List.not_mem_nil)) (am_Cl (fun _ h => absurd h List.not_mem_nil))
abbrev rmX4_renew : Room := { frames := 0, cells := 0, slots := 0, locals := 0 }
abbrev wsX4_renew : List Jvm.Cond := Jvm.Cond.code yX4_renew cX4_renew 4 none :: am_B
set_option maxRecDepth 100000 in
set_option maxHeartbeats 4000000 in
theorem snX4_renew : am_Snd vwCl yX4_renew wsX4_renew rmX4_renew sX4_renew := am_snd_of (cc := cX4_renew) (by decide) rfl (by decide +kernel) (am_Fl (List.forall_mem_cons.mpr ⟨fdX4 (am_lt rfl) wd_300, List.forall_mem_cons.mpr ⟨fdX4 (am_lt rfl) wd_299, List.forall_mem_cons.mpr ⟨fdX4 (am_lt rfl) wd_298, List.forall_mem_cons.mpr ⟨fdX4 (am_lt rfl) wd_297, fun _ h => absurd h List.not_mem_nil⟩⟩⟩⟩)) (am_Kl (fun _ h => absurd h List.not_mem_nil)) (am_Cl (fun _ h => absurd h List.not_mem_nil))
abbrev rmX4_faultAt : Room := { frames := 0, cells := 0, slots := 0, locals := 0 }
abbrev wsX4_faultAt : List Jvm.Cond := Jvm.Cond.code yX4_faultAt cX4_faultAt 2 (some .int) :: am_B
set_option maxRecDepth 100000 in
set_option maxHeartbeats 4000000 in
theorem snX4_faultAt : am_Snd vwCl yX4_faultAt wsX4_faultAt rmX4_faultAt sX4_faultAt := am_snd_of (cc := cX4_faultAt) (by decide) rfl (by decide +kernel) (am_Fl (List.forall_mem_cons.mpr ⟨fdX4 (am_lt rfl) wd_299, List.forall_mem_cons.mpr ⟨fdX4 (am_lt rfl) wd_297, fun _ h => absurd h List.not_mem_nil⟩⟩)) (am_Kl (fun _ h => absurd h List.not_mem_nil)) (am_Cl (fun _ h => absurd h List.not_mem_nil))
abbrev rmX4_faultAs : Room := { frames := 1, cells := 0, slots := 0, locals := 21 }
abbrev wsX4_faultAs : List Jvm.Cond := Jvm.Cond.code yX4_faultAs cX4_faultAs 3 (some .int) :: am_B
set_option maxRecDepth 100000 in
set_option maxHeartbeats 4000000 in
theorem snX4_faultAs : am_Snd vwCl yX4_faultAs wsX4_faultAs rmX4_faultAs sX4_faultAs := am_snd_of (cc := cX4_faultAs) (by decide) rfl (by decide +kernel) (am_Fl (List.forall_mem_cons.mpr ⟨fdX4 (am_lt rfl) wd_299, List.forall_mem_cons.mpr ⟨fdX4 (am_lt rfl) wd_298, fun _ h => absurd h List.not_mem_nil⟩⟩)) (am_Kl (fun _ h => absurd h List.not_mem_nil)) (am_Cl (List.forall_mem_cons.mpr ⟨am_cal_V (r := (RX4, TX4, 4)) snX4_faultAt rfl (by decide) (am_gV wd_301 wd_302 wd_303 wd_304 wd_305) rfl rfl rfl (by decide +kernel) ⟨am_le rfl, am_le rfl⟩, fun _ h => absurd h List.not_mem_nil⟩))
abbrev rmX4_put : Room := { frames := 0, cells := 0, slots := 0, locals := 0 }
abbrev wsX4_put : List Jvm.Cond := Jvm.Cond.code yX4_put cX4_put 3 none :: am_B
set_option maxRecDepth 100000 in
set_option maxHeartbeats 4000000 in
theorem snX4_put : am_Snd vwCl yX4_put wsX4_put rmX4_put sX4_put := am_snd_of (cc := cX4_put) (by decide) rfl (by decide +kernel) (am_Fl (List.forall_mem_cons.mpr ⟨fdX4 (am_lt rfl) wd_298, List.forall_mem_cons.mpr ⟨fdX4 (am_lt rfl) wd_300, fun _ h => absurd h List.not_mem_nil⟩⟩)) (am_Kl (fun _ h => absurd h List.not_mem_nil)) (am_Cl (fun _ h => absurd h List.not_mem_nil))
abbrev rmX5_append : Room := { frames := 0, cells := 0, slots := 0, locals := 0 }
abbrev wsX5_append : List Jvm.Cond := Jvm.Cond.code yX5_append cX5_append 2 (some .boolean) :: am_B
set_option maxRecDepth 100000 in
set_option maxHeartbeats 4000000 in
theorem snX5_append : am_Snd vwCl yX5_append wsX5_append rmX5_append sX5_append := am_snd_of (cc := cX5_append) (by decide) rfl (by decide +kernel) (am_Fl (List.forall_mem_cons.mpr ⟨fdX5 (am_lt rfl) wd_176, List.forall_mem_cons.mpr ⟨fdX5 (am_lt rfl) wd_175, fun _ h => absurd h List.not_mem_nil⟩⟩)) (am_Kl (fun _ h => absurd h List.not_mem_nil)) (am_Cl (fun _ h => absurd h List.not_mem_nil))
abbrev rmX6_feed : Room := { frames := 1, cells := 0, slots := 0, locals := 22 }
abbrev wsX6_feed : List Jvm.Cond := Jvm.Cond.code yX6_feed cX6_feed 2 (some .int) :: am_B
set_option maxRecDepth 100000 in
set_option maxHeartbeats 4000000 in
theorem snX6_feed : am_Snd vwCl yX6_feed wsX6_feed rmX6_feed sX6_feed := am_snd_of (cc := cX6_feed) (by decide) rfl (by decide +kernel) (am_Fl (List.forall_mem_cons.mpr ⟨fdX6 (am_lt rfl) wd_307, List.forall_mem_cons.mpr ⟨fdX5 (am_lt rfl) wd_306, fun _ h => absurd h List.not_mem_nil⟩⟩)) (am_Kl (fun _ h => absurd h List.not_mem_nil)) (am_Cl (List.forall_mem_cons.mpr ⟨am_cal_S snX6_isWithin (am_gS wd_312 wd_205 wd_162 wd_204) rfl rfl rfl (by decide +kernel) ⟨am_le rfl, am_le rfl⟩, List.forall_mem_cons.mpr ⟨am_cal_V (r := (RX5, TX5, 2)) snX5_append rfl (by decide) (am_gV wd_308 wd_309 wd_310 wd_189 wd_311) rfl rfl rfl (by decide +kernel) ⟨am_le rfl, am_le rfl⟩, fun _ h => absurd h List.not_mem_nil⟩⟩))
abbrev rmX6_end : Room := { frames := 1, cells := 0, slots := 0, locals := 22 }
abbrev wsX6_end : List Jvm.Cond := Jvm.Cond.code yX6_end cX6_end 3 (some .int) :: am_B
set_option maxRecDepth 100000 in
set_option maxHeartbeats 4000000 in
theorem snX6_end : am_Snd vwCl yX6_end wsX6_end rmX6_end sX6_end := am_snd_of (cc := cX6_end) (by decide) rfl (by decide +kernel) (am_Fl (List.forall_mem_cons.mpr ⟨fdX6 (am_lt rfl) wd_307, List.forall_mem_cons.mpr ⟨fdX5 (am_lt rfl) wd_306, fun _ h => absurd h List.not_mem_nil⟩⟩)) (am_Kl (fun _ h => absurd h List.not_mem_nil)) (am_Cl (List.forall_mem_cons.mpr ⟨am_cal_S snX6_isWithin (am_gS wd_312 wd_205 wd_162 wd_204) rfl rfl rfl (by decide +kernel) ⟨am_le rfl, am_le rfl⟩, fun _ h => absurd h List.not_mem_nil⟩))
abbrev rmX6_text : Room := { frames := 9, cells := 0, slots := 0, locals := 191 }
abbrev wsX6_text : List Jvm.Cond := Jvm.Cond.code yX6_text cX6_text 2 (some .int) :: am_B
set_option maxRecDepth 100000 in
set_option maxHeartbeats 4000000 in
theorem snX6_text : am_Snd vwCl yX6_text wsX6_text rmX6_text sX6_text := am_snd_of (cc := cX6_text) (by decide) rfl (by decide +kernel) (am_Fl (List.forall_mem_cons.mpr ⟨fdX6 (am_lt rfl) wd_322, List.forall_mem_cons.mpr ⟨fdX6 (am_lt rfl) wd_307, List.forall_mem_cons.mpr ⟨fdX5 (am_lt rfl) wd_306, List.forall_mem_cons.mpr ⟨fdX1 (am_lt rfl) wd_321, List.forall_mem_cons.mpr ⟨fdX6 (am_lt rfl) wd_320, List.forall_mem_cons.mpr ⟨fdX1 (am_lt rfl) wd_319, List.forall_mem_cons.mpr ⟨fdX6 (am_lt rfl) wd_318, List.forall_mem_cons.mpr ⟨fdX1 (am_lt rfl) wd_317, List.forall_mem_cons.mpr ⟨fdX6 (am_lt rfl) wd_316, List.forall_mem_cons.mpr ⟨fdX2 (am_lt rfl) wd_315, List.forall_mem_cons.mpr ⟨fdX6 (am_lt rfl) wd_314, List.forall_mem_cons.mpr ⟨fdX1 (am_lt rfl) wd_313, fun _ h => absurd h List.not_mem_nil⟩⟩⟩⟩⟩⟩⟩⟩⟩⟩⟩⟩)) (am_Kl (fun _ h => absurd h List.not_mem_nil)) (am_Cl (List.forall_mem_cons.mpr ⟨am_cal_V (r := (RX1, TX1, 11)) snX1_tellAll rfl (by decide) (am_gV wd_327 wd_328 wd_329 wd_184 wd_330) rfl rfl rfl (by decide +kernel) ⟨am_le rfl, am_le rfl⟩, List.forall_mem_cons.mpr ⟨am_cal_V (r := (RX0, TX0, 7)) snX0_copyFrom rfl (by decide) (am_gV wd_323 wd_324 wd_325 wd_126 wd_326) rfl rfl rfl (by decide +kernel) ⟨am_le rfl, am_le rfl⟩, fun _ h => absurd h List.not_mem_nil⟩⟩))
abbrev rmX6_fault : Room := { frames := 0, cells := 0, slots := 0, locals := 0 }
abbrev wsX6_fault : List Jvm.Cond := Jvm.Cond.code yX6_fault cX6_fault 1 (some .int) :: am_B
set_option maxRecDepth 100000 in
set_option maxHeartbeats 4000000 in
theorem snX6_fault : am_Snd vwCl yX6_fault wsX6_fault rmX6_fault sX6_fault := am_snd_of (cc := cX6_fault) (by decide) rfl (by decide +kernel) (am_Fl (List.forall_mem_cons.mpr ⟨fdX6 (am_lt rfl) wd_320, fun _ h => absurd h List.not_mem_nil⟩)) (am_Kl (fun _ h => absurd h List.not_mem_nil)) (am_Cl (fun _ h => absurd h List.not_mem_nil))
abbrev rmX6_rule : Room := { frames := 1, cells := 0, slots := 0, locals := 23 }
abbrev wsX6_rule : List Jvm.Cond := Jvm.Cond.code yX6_rule cX6_rule 2 (some .int) :: am_B
set_option maxRecDepth 100000 in
set_option maxHeartbeats 4000000 in
theorem snX6_rule : am_Snd vwCl yX6_rule wsX6_rule rmX6_rule sX6_rule := am_snd_of (cc := cX6_rule) (by decide) rfl (by decide +kernel) (am_Fl (List.forall_mem_cons.mpr ⟨fdX6 (am_lt rfl) wd_318, List.forall_mem_cons.mpr ⟨fdX0 (am_lt rfl) wd_336, List.forall_mem_cons.mpr ⟨fdX0 (am_lt rfl) wd_335, List.forall_mem_cons.mpr ⟨fdX0 (am_lt rfl) wd_334, List.forall_mem_cons.mpr ⟨fdX0 (am_lt rfl) wd_333, List.forall_mem_cons.mpr ⟨fdX0 (am_lt rfl) wd_332, List.forall_mem_cons.mpr ⟨fdX0 (am_lt rfl) wd_331, fun _ h => absurd h List.not_mem_nil⟩⟩⟩⟩⟩⟩⟩)) (am_Kl (fun _ h => absurd h List.not_mem_nil)) (am_Cl (List.forall_mem_cons.mpr ⟨am_cal_V (r := (RX0, TX0, 7)) snX0_those rfl (by decide) (am_gV wd_337 wd_124 wd_125 wd_126 wd_127) rfl rfl rfl (by decide +kernel) ⟨am_le rfl, am_le rfl⟩, fun _ h => absurd h List.not_mem_nil⟩))
abbrev rmX6_one : Room := { frames := 1, cells := 0, slots := 0, locals := 22 }
abbrev wsX6_one : List Jvm.Cond := Jvm.Cond.code yX6_one cX6_one 3 (some .int) :: am_B
set_option maxRecDepth 100000 in
set_option maxHeartbeats 4000000 in
theorem snX6_one : am_Snd vwCl yX6_one wsX6_one rmX6_one sX6_one := am_snd_of (cc := cX6_one) (by decide) rfl (by decide +kernel) (am_Fl (List.forall_mem_cons.mpr ⟨fdX6 (am_lt rfl) wd_318, List.forall_mem_cons.mpr ⟨fdX0 (am_lt rfl) wd_338, fun _ h => absurd h List.not_mem_nil⟩⟩)) (am_Kl (fun _ h => absurd h List.not_mem_nil)) (am_Cl (List.forall_mem_cons.mpr ⟨am_cal_V (r := (RX0, TX0, 7)) snX0_has rfl (by decide) (am_gV wd_339 wd_143 wd_144 wd_126 wd_145) rfl rfl rfl (by decide +kernel) ⟨am_le rfl, am_le rfl⟩, List.forall_mem_cons.mpr ⟨am_cal_S snX6_isWithin (am_gS wd_312 wd_205 wd_162 wd_204) rfl rfl rfl (by decide +kernel) ⟨am_le rfl, am_le rfl⟩, fun _ h => absurd h List.not_mem_nil⟩⟩))
abbrev rmX6_alike : Room := { frames := 3, cells := 0, slots := 0, locals := 67 }
abbrev wsX6_alike : List Jvm.Cond := Jvm.Cond.code yX6_alike cX6_alike 2 (some .int) :: am_B
set_option maxRecDepth 100000 in
set_option maxHeartbeats 4000000 in
theorem snX6_alike : am_Snd vwCl yX6_alike wsX6_alike rmX6_alike sX6_alike := am_snd_of (cc := cX6_alike) (by decide) rfl (by decide +kernel) (am_Fl (List.forall_mem_cons.mpr ⟨fdX6 (am_lt rfl) wd_318, List.forall_mem_cons.mpr ⟨fdX0 (am_lt rfl) wd_338, fun _ h => absurd h List.not_mem_nil⟩⟩)) (am_Kl (fun _ h => absurd h List.not_mem_nil)) (am_Cl (List.forall_mem_cons.mpr ⟨am_cal_V (r := (RX0, TX0, 7)) snX0_has rfl (by decide) (am_gV wd_339 wd_143 wd_144 wd_126 wd_145) rfl rfl rfl (by decide +kernel) ⟨am_le rfl, am_le rfl⟩, List.forall_mem_cons.mpr ⟨am_cal_V (r := (RX0, TX0, 7)) snX0_rivalsOf rfl (by decide) (am_gV wd_340 wd_139 wd_140 wd_126 wd_141) rfl rfl rfl (by decide +kernel) ⟨am_le rfl, am_le rfl⟩, fun _ h => absurd h List.not_mem_nil⟩⟩))
abbrev rmX6_turn : Room := { frames := 1, cells := 0, slots := 0, locals := 24 }
abbrev wsX6_turn : List Jvm.Cond := Jvm.Cond.code yX6_turn cX6_turn 4 (some .int) :: am_B
set_option maxRecDepth 100000 in
set_option maxHeartbeats 4000000 in
theorem snX6_turn : am_Snd vwCl yX6_turn wsX6_turn rmX6_turn sX6_turn := am_snd_of (cc := cX6_turn) (by decide) rfl (by decide +kernel) (am_Fl (List.forall_mem_cons.mpr ⟨fdX6 (am_lt rfl) wd_318, fun _ h => absurd h List.not_mem_nil⟩)) (am_Kl (fun _ h => absurd h List.not_mem_nil)) (am_Cl (List.forall_mem_cons.mpr ⟨am_cal_V (r := (RX0, TX0, 7)) snX0_has rfl (by decide) (am_gV wd_339 wd_143 wd_144 wd_126 wd_145) rfl rfl rfl (by decide +kernel) ⟨am_le rfl, am_le rfl⟩, List.forall_mem_cons.mpr ⟨am_cal_S snX6_isWithin (am_gS wd_312 wd_205 wd_162 wd_204) rfl rfl rfl (by decide +kernel) ⟨am_le rfl, am_le rfl⟩, List.forall_mem_cons.mpr ⟨am_cal_V (r := (RX0, TX0, 7)) snX0_changeAshore rfl (by decide) (am_gV wd_341 wd_342 wd_343 wd_126 wd_344) rfl rfl rfl (by decide +kernel) ⟨am_le rfl, am_le rfl⟩, fun _ h => absurd h List.not_mem_nil⟩⟩⟩))
abbrev rmX6_teach : Room := { frames := 1, cells := 0, slots := 0, locals := 24 }
abbrev wsX6_teach : List Jvm.Cond := Jvm.Cond.code yX6_teach cX6_teach 3 (some .int) :: am_B
set_option maxRecDepth 100000 in
set_option maxHeartbeats 4000000 in
theorem snX6_teach : am_Snd vwCl yX6_teach wsX6_teach rmX6_teach sX6_teach := am_snd_of (cc := cX6_teach) (by decide) rfl (by decide +kernel) (am_Fl (List.forall_mem_cons.mpr ⟨fdX6 (am_lt rfl) wd_318, fun _ h => absurd h List.not_mem_nil⟩)) (am_Kl (fun _ h => absurd h List.not_mem_nil)) (am_Cl (List.forall_mem_cons.mpr ⟨am_cal_V (r := (RX0, TX0, 7)) snX0_has rfl (by decide) (am_gV wd_339 wd_143 wd_144 wd_126 wd_145) rfl rfl rfl (by decide +kernel) ⟨am_le rfl, am_le rfl⟩, List.forall_mem_cons.mpr ⟨am_cal_S snX6_isWithin (am_gS wd_312 wd_205 wd_162 wd_204) rfl rfl rfl (by decide +kernel) ⟨am_le rfl, am_le rfl⟩, List.forall_mem_cons.mpr ⟨am_cal_V (r := (RX0, TX0, 7)) snX0_changeAshore rfl (by decide) (am_gV wd_341 wd_342 wd_343 wd_126 wd_344) rfl rfl rfl (by decide +kernel) ⟨am_le rfl, am_le rfl⟩, fun _ h => absurd h List.not_mem_nil⟩⟩⟩))
abbrev rmX6_calm : Room := { frames := 1, cells := 0, slots := 0, locals := 22 }
abbrev wsX6_calm : List Jvm.Cond := Jvm.Cond.code yX6_calm cX6_calm 4 (some .int) :: am_B
set_option maxRecDepth 100000 in
set_option maxHeartbeats 4000000 in
theorem snX6_calm : am_Snd vwCl yX6_calm wsX6_calm rmX6_calm sX6_calm := am_snd_of (cc := cX6_calm) (by decide) rfl (by decide +kernel) (am_Fl (List.forall_mem_cons.mpr ⟨fdX6 (am_lt rfl) wd_318, List.forall_mem_cons.mpr ⟨fdX0 (am_lt rfl) wd_338, fun _ h => absurd h List.not_mem_nil⟩⟩)) (am_Kl (fun _ h => absurd h List.not_mem_nil)) (am_Cl (List.forall_mem_cons.mpr ⟨am_cal_V (r := (RX0, TX0, 7)) snX0_has rfl (by decide) (am_gV wd_339 wd_143 wd_144 wd_126 wd_145) rfl rfl rfl (by decide +kernel) ⟨am_le rfl, am_le rfl⟩, List.forall_mem_cons.mpr ⟨am_cal_S snX6_isWithin (am_gS wd_312 wd_205 wd_162 wd_204) rfl rfl rfl (by decide +kernel) ⟨am_le rfl, am_le rfl⟩, fun _ h => absurd h List.not_mem_nil⟩⟩))
abbrev rmX6_seats : Room := { frames := 2, cells := 0, slots := 0, locals := 44 }
abbrev wsX6_seats : List Jvm.Cond := Jvm.Cond.code yX6_seats cX6_seats 3 (some .int) :: am_B
set_option maxRecDepth 100000 in
set_option maxHeartbeats 4000000 in
theorem snX6_seats : am_Snd vwCl yX6_seats wsX6_seats rmX6_seats sX6_seats := am_snd_of (cc := cX6_seats) (by decide) rfl (by decide +kernel) (am_Fl (List.forall_mem_cons.mpr ⟨fdX6 (am_lt rfl) wd_318, List.forall_mem_cons.mpr ⟨fdX0 (am_lt rfl) wd_335, fun _ h => absurd h List.not_mem_nil⟩⟩)) (am_Kl (fun _ h => absurd h List.not_mem_nil)) (am_Cl (List.forall_mem_cons.mpr ⟨am_cal_S snX6_isWithin (am_gS wd_312 wd_205 wd_162 wd_204) rfl rfl rfl (by decide +kernel) ⟨am_le rfl, am_le rfl⟩, List.forall_mem_cons.mpr ⟨am_cal_V (r := (RX0, TX0, 7)) snX0_howMany rfl (by decide) (am_gV wd_345 wd_346 wd_347 wd_126 wd_348) rfl rfl rfl (by decide +kernel) ⟨am_le rfl, am_le rfl⟩, fun _ h => absurd h List.not_mem_nil⟩⟩))
abbrev rmX6_price : Room := { frames := 1, cells := 0, slots := 0, locals := 22 }
abbrev wsX6_price : List Jvm.Cond := Jvm.Cond.code yX6_price cX6_price 4 (some .int) :: am_B
set_option maxRecDepth 100000 in
set_option maxHeartbeats 4000000 in
theorem snX6_price : am_Snd vwCl yX6_price wsX6_price rmX6_price sX6_price := am_snd_of (cc := cX6_price) (by decide) rfl (by decide +kernel) (am_Fl (List.forall_mem_cons.mpr ⟨fdX6 (am_lt rfl) wd_318, List.forall_mem_cons.mpr ⟨fdX0 (am_lt rfl) wd_334, List.forall_mem_cons.mpr ⟨fdX0 (am_lt rfl) wd_333, fun _ h => absurd h List.not_mem_nil⟩⟩⟩)) (am_Kl (fun _ h => absurd h List.not_mem_nil)) (am_Cl (List.forall_mem_cons.mpr ⟨am_cal_S snX6_isWithin (am_gS wd_312 wd_205 wd_162 wd_204) rfl rfl rfl (by decide +kernel) ⟨am_le rfl, am_le rfl⟩, fun _ h => absurd h List.not_mem_nil⟩))
abbrev rmX6_moveOne : Room := { frames := 2, cells := 0, slots := 0, locals := 44 }
abbrev wsX6_moveOne : List Jvm.Cond := Jvm.Cond.code yX6_moveOne cX6_moveOne 4 (some .int) :: am_B
set_option maxRecDepth 100000 in
set_option maxHeartbeats 4000000 in
theorem snX6_moveOne : am_Snd vwCl yX6_moveOne wsX6_moveOne rmX6_moveOne sX6_moveOne := am_snd_of (cc := cX6_moveOne) (by decide) rfl (by decide +kernel) (am_Fl (List.forall_mem_cons.mpr ⟨fdX6 (am_lt rfl) wd_318, List.forall_mem_cons.mpr ⟨fdX0 (am_lt rfl) wd_338, fun _ h => absurd h List.not_mem_nil⟩⟩)) (am_Kl (fun _ h => absurd h List.not_mem_nil)) (am_Cl (List.forall_mem_cons.mpr ⟨am_cal_V (r := (RX0, TX0, 7)) snX0_has rfl (by decide) (am_gV wd_339 wd_143 wd_144 wd_126 wd_145) rfl rfl rfl (by decide +kernel) ⟨am_le rfl, am_le rfl⟩, List.forall_mem_cons.mpr ⟨am_cal_V (r := (RX0, TX0, 7)) snX0_howMany rfl (by decide) (am_gV wd_345 wd_346 wd_347 wd_126 wd_348) rfl rfl rfl (by decide +kernel) ⟨am_le rfl, am_le rfl⟩, fun _ h => absurd h List.not_mem_nil⟩⟩))
abbrev rmX6_come : Room := { frames := 3, cells := 0, slots := 0, locals := 67 }
abbrev wsX6_come : List Jvm.Cond := Jvm.Cond.code yX6_come cX6_come 2 (some .int) :: am_B
set_option maxRecDepth 100000 in
set_option maxHeartbeats 4000000 in
theorem snX6_come : am_Snd vwCl yX6_come wsX6_come rmX6_come sX6_come := am_snd_of (cc := cX6_come) (by decide) rfl (by decide +kernel) (am_Fl (fun _ h => absurd h List.not_mem_nil)) (am_Kl (fun _ h => absurd h List.not_mem_nil)) (am_Cl (List.forall_mem_cons.mpr ⟨am_cal_V (r := (RX6, TX6, 12)) snX6_moveOne rfl (by decide) (am_gV wd_349 wd_350 wd_351 wd_162 wd_352) rfl rfl rfl (by decide +kernel) ⟨am_le rfl, am_le rfl⟩, fun _ h => absurd h List.not_mem_nil⟩))
abbrev rmX6_leave : Room := { frames := 3, cells := 0, slots := 0, locals := 67 }
abbrev wsX6_leave : List Jvm.Cond := Jvm.Cond.code yX6_leave cX6_leave 2 (some .int) :: am_B
set_option maxRecDepth 100000 in
set_option maxHeartbeats 4000000 in
theorem snX6_leave : am_Snd vwCl yX6_leave wsX6_leave rmX6_leave sX6_leave := am_snd_of (cc := cX6_leave) (by decide) rfl (by decide +kernel) (am_Fl (fun _ h => absurd h List.not_mem_nil)) (am_Kl (fun _ h => absurd h List.not_mem_nil)) (am_Cl (List.forall_mem_cons.mpr ⟨am_cal_V (r := (RX6, TX6, 12)) snX6_moveOne rfl (by decide) (am_gV wd_349 wd_350 wd_351 wd_162 wd_352) rfl rfl rfl (by decide +kernel) ⟨am_le rfl, am_le rfl⟩, fun _ h => absurd h List.not_mem_nil⟩))
abbrev rmX6_board : Room := { frames := 4, cells := 0, slots := 0, locals := 90 }
abbrev wsX6_board : List Jvm.Cond := Jvm.Cond.code yX6_board cX6_board 2 (some .int) :: am_B
set_option maxRecDepth 100000 in
set_option maxHeartbeats 4000000 in
theorem snX6_board : am_Snd vwCl yX6_board wsX6_board rmX6_board sX6_board := am_snd_of (cc := cX6_board) (by decide) rfl (by decide +kernel) (am_Fl (List.forall_mem_cons.mpr ⟨fdX6 (am_lt rfl) wd_318, fun _ h => absurd h List.not_mem_nil⟩)) (am_Kl (fun _ h => absurd h List.not_mem_nil)) (am_Cl (List.forall_mem_cons.mpr ⟨am_cal_V (r := (RX0, TX0, 7)) snX0_takeAboard rfl (by decide) (am_gV wd_353 wd_150 wd_151 wd_126 wd_152) rfl rfl rfl (by decide +kernel) ⟨am_le rfl, am_le rfl⟩, fun _ h => absurd h List.not_mem_nil⟩))
abbrev rmX6_go : Room := { frames := 6, cells := 0, slots := 0, locals := 134 }
abbrev wsX6_go : List Jvm.Cond := Jvm.Cond.code yX6_go cX6_go 2 (some .int) :: am_B
set_option maxRecDepth 100000 in
set_option maxHeartbeats 4000000 in
theorem snX6_go : am_Snd vwCl yX6_go wsX6_go rmX6_go sX6_go := am_snd_of (cc := cX6_go) (by decide) rfl (by decide +kernel) (am_Fl (List.forall_mem_cons.mpr ⟨fdX6 (am_lt rfl) wd_318, List.forall_mem_cons.mpr ⟨fdX0 (am_lt rfl) wd_332, fun _ h => absurd h List.not_mem_nil⟩⟩)) (am_Kl (fun _ h => absurd h List.not_mem_nil)) (am_Cl (List.forall_mem_cons.mpr ⟨am_cal_S snX6_isWithin (am_gS wd_312 wd_205 wd_162 wd_204) rfl rfl rfl (by decide +kernel) ⟨am_le rfl, am_le rfl⟩, List.forall_mem_cons.mpr ⟨am_cal_V (r := (RX0, TX0, 7)) snX0_passHours rfl (by decide) (am_gV wd_354 wd_355 wd_356 wd_126 wd_357) rfl rfl rfl (by decide +kernel) ⟨am_le rfl, am_le rfl⟩, fun _ h => absurd h List.not_mem_nil⟩⟩))
abbrev rmX6_ahead : Room := { frames := 6, cells := 0, slots := 0, locals := 134 }
abbrev wsX6_ahead : List Jvm.Cond := Jvm.Cond.code yX6_ahead cX6_ahead 4 (some .int) :: am_B
set_option maxRecDepth 100000 in
set_option maxHeartbeats 4000000 in
theorem snX6_ahead : am_Snd vwCl yX6_ahead wsX6_ahead rmX6_ahead sX6_ahead := am_snd_of (cc := cX6_ahead) (by decide) rfl (by decide +kernel) (am_Fl (List.forall_mem_cons.mpr ⟨fdX6 (am_lt rfl) wd_358, List.forall_mem_cons.mpr ⟨fdX6 (am_lt rfl) wd_318, fun _ h => absurd h List.not_mem_nil⟩⟩)) (am_Kl (fun _ h => absurd h List.not_mem_nil)) (am_Cl (List.forall_mem_cons.mpr ⟨am_cal_S snX6_isWithin (am_gS wd_312 wd_205 wd_162 wd_204) rfl rfl rfl (by decide +kernel) ⟨am_le rfl, am_le rfl⟩, List.forall_mem_cons.mpr ⟨am_cal_V (r := (RX0, TX0, 7)) snX0_copyFrom rfl (by decide) (am_gV wd_323 wd_324 wd_325 wd_126 wd_326) rfl rfl rfl (by decide +kernel) ⟨am_le rfl, am_le rfl⟩, List.forall_mem_cons.mpr ⟨am_cal_V (r := (RX0, TX0, 7)) snX0_passHours rfl (by decide) (am_gV wd_354 wd_355 wd_356 wd_126 wd_357) rfl rfl rfl (by decide +kernel) ⟨am_le rfl, am_le rfl⟩, List.forall_mem_cons.mpr ⟨am_cal_V (r := (RX0, TX0, 7)) snX0_those rfl (by decide) (am_gV wd_337 wd_124 wd_125 wd_126 wd_127) rfl rfl rfl (by decide +kernel) ⟨am_le rfl, am_le rfl⟩, fun _ h => absurd h List.not_mem_nil⟩⟩⟩⟩))
abbrev rmX6_when : Room := { frames := 5, cells := 0, slots := 0, locals := 111 }
abbrev wsX6_when : List Jvm.Cond := Jvm.Cond.code yX6_when cX6_when 3 (some .int) :: am_B
set_option maxRecDepth 100000 in
set_option maxHeartbeats 4000000 in
theorem snX6_when : am_Snd vwCl yX6_when wsX6_when rmX6_when sX6_when := am_snd_of (cc := cX6_when) (by decide) rfl (by decide +kernel) (am_Fl (List.forall_mem_cons.mpr ⟨fdX6 (am_lt rfl) wd_318, List.forall_mem_cons.mpr ⟨fdX6 (am_lt rfl) wd_358, List.forall_mem_cons.mpr ⟨fdX0 (am_lt rfl) wd_338, fun _ h => absurd h List.not_mem_nil⟩⟩⟩)) (am_Kl (fun _ h => absurd h List.not_mem_nil)) (am_Cl (List.forall_mem_cons.mpr ⟨am_cal_V (r := (RX0, TX0, 7)) snX0_has rfl (by decide) (am_gV wd_339 wd_143 wd_144 wd_126 wd_145) rfl rfl rfl (by decide +kernel) ⟨am_le rfl, am_le rfl⟩, List.forall_mem_cons.mpr ⟨am_cal_V (r := (RX0, TX0, 7)) snX0_copyFrom rfl (by decide) (am_gV wd_323 wd_324 wd_325 wd_126 wd_326) rfl rfl rfl (by decide +kernel) ⟨am_le rfl, am_le rfl⟩, List.forall_mem_cons.mpr ⟨am_cal_V (r := (RX0, TX0, 7)) snX0_passHour rfl (by decide) (am_gV wd_359 wd_154 wd_155 wd_126 wd_156) rfl rfl rfl (by decide +kernel) ⟨am_le rfl, am_le rfl⟩, fun _ h => absurd h List.not_mem_nil⟩⟩⟩))
abbrev rmX6_blocks : Room := { frames := 3, cells := 0, slots := 0, locals := 67 }
abbrev wsX6_blocks : List Jvm.Cond := Jvm.Cond.code yX6_blocks cX6_blocks 2 (some .int) :: am_B
set_option maxRecDepth 100000 in
set_option maxHeartbeats 4000000 in
theorem snX6_blocks : am_Snd vwCl yX6_blocks wsX6_blocks rmX6_blocks sX6_blocks := am_snd_of (cc := cX6_blocks) (by decide) rfl (by decide +kernel) (am_Fl (List.forall_mem_cons.mpr ⟨fdX6 (am_lt rfl) wd_318, List.forall_mem_cons.mpr ⟨fdX0 (am_lt rfl) wd_338, fun _ h => absurd h List.not_mem_nil⟩⟩)) (am_Kl (fun _ h => absurd h List.not_mem_nil)) (am_Cl (List.forall_mem_cons.mpr ⟨am_cal_V (r := (RX0, TX0, 7)) snX0_has rfl (by decide) (am_gV wd_339 wd_143 wd_144 wd_126 wd_145) rfl rfl rfl (by decide +kernel) ⟨am_le rfl, am_le rfl⟩, List.forall_mem_cons.mpr ⟨am_cal_V (r := (RX0, TX0, 7)) snX0_rivalsOf rfl (by decide) (am_gV wd_340 wd_139 wd_140 wd_126 wd_141) rfl rfl rfl (by decide +kernel) ⟨am_le rfl, am_le rfl⟩, List.forall_mem_cons.mpr ⟨am_cal_V (r := (RX0, TX0, 7)) snX0_those rfl (by decide) (am_gV wd_337 wd_124 wd_125 wd_126 wd_127) rfl rfl rfl (by decide +kernel) ⟨am_le rfl, am_le rfl⟩, fun _ h => absurd h List.not_mem_nil⟩⟩⟩))
abbrev rmX6_most : Room := { frames := 4, cells := 0, slots := 0, locals := 93 }
abbrev wsX6_most : List Jvm.Cond := Jvm.Cond.code yX6_most cX6_most 2 (some .int) :: am_B
set_option maxRecDepth 100000 in
set_option maxHeartbeats 4000000 in
theorem snX6_most : am_Snd vwCl yX6_most wsX6_most rmX6_most sX6_most := am_snd_of (cc := cX6_most) (by decide) rfl (by decide +kernel) (am_Fl (List.forall_mem_cons.mpr ⟨fdX6 (am_lt rfl) wd_361, List.forall_mem_cons.mpr ⟨fdX6 (am_lt rfl) wd_318, List.forall_mem_cons.mpr ⟨fdX3 (am_lt rfl) wd_360, fun _ h => absurd h List.not_mem_nil⟩⟩⟩)) (am_Kl (fun _ h => absurd h List.not_mem_nil)) (am_Cl (List.forall_mem_cons.mpr ⟨am_cal_S snX6_isWithin (am_gS wd_312 wd_205 wd_162 wd_204) rfl rfl rfl (by decide +kernel) ⟨am_le rfl, am_le rfl⟩, List.forall_mem_cons.mpr ⟨am_cal_V (r := (RX0, TX0, 7)) snX0_here rfl (by decide) (am_gV wd_370 wd_371 wd_372 wd_126 wd_373) rfl rfl rfl (by decide +kernel) ⟨am_le rfl, am_le rfl⟩, List.forall_mem_cons.mpr ⟨am_cal_V (r := (RX3, TX3, 5)) snX3_gather rfl (by decide) (am_gV wd_366 wd_367 wd_368 wd_279 wd_369) rfl rfl rfl (by decide +kernel) ⟨am_le rfl, am_le rfl⟩, List.forall_mem_cons.mpr ⟨am_cal_V (r := (RX3, TX3, 5)) snX3_pack rfl (by decide) (am_gV wd_362 wd_363 wd_364 wd_279 wd_365) rfl rfl rfl (by decide +kernel) ⟨am_le rfl, am_le rfl⟩, fun _ h => absurd h List.not_mem_nil⟩⟩⟩⟩))
abbrev rmX6_tellSets : Room := { frames := 1, cells := 0, slots := 0, locals := 22 }
abbrev wsX6_tellSets : List Jvm.Cond := Jvm.Cond.code yX6_tellSets cX6_tellSets 3 (some .int) :: am_B
set_option maxRecDepth 100000 in
set_option maxHeartbeats 4000000 in
theorem snX6_tellSets : am_Snd vwCl yX6_tellSets wsX6_tellSets rmX6_tellSets sX6_tellSets := am_snd_of (cc := cX6_tellSets) (by decide) rfl (by decide +kernel) (am_Fl (List.forall_mem_cons.mpr ⟨fdX6 (am_lt rfl) wd_361, List.forall_mem_cons.mpr ⟨fdX3 (am_lt rfl) wd_375, List.forall_mem_cons.mpr ⟨fdX3 (am_lt rfl) wd_374, fun _ h => absurd h List.not_mem_nil⟩⟩⟩)) (am_Kl (fun _ h => absurd h List.not_mem_nil)) (am_Cl (List.forall_mem_cons.mpr ⟨am_cal_V (r := (RX3, TX3, 5)) snX3_inAll rfl (by decide) (am_gV wd_380 wd_381 wd_382 wd_279 wd_383) rfl rfl rfl (by decide +kernel) ⟨am_le rfl, am_le rfl⟩, List.forall_mem_cons.mpr ⟨am_cal_V (r := (RX3, TX3, 5)) snX3_inAny rfl (by decide) (am_gV wd_376 wd_377 wd_378 wd_279 wd_379) rfl rfl rfl (by decide +kernel) ⟨am_le rfl, am_le rfl⟩, fun _ h => absurd h List.not_mem_nil⟩⟩))
abbrev rmX6_sets : Room := { frames := 4, cells := 0, slots := 0, locals := 93 }
abbrev wsX6_sets : List Jvm.Cond := Jvm.Cond.code yX6_sets cX6_sets 2 (some .int) :: am_B
set_option maxRecDepth 100000 in
set_option maxHeartbeats 4000000 in
theorem snX6_sets : am_Snd vwCl yX6_sets wsX6_sets rmX6_sets sX6_sets := am_snd_of (cc := cX6_sets) (by decide) rfl (by decide +kernel) (am_Fl (List.forall_mem_cons.mpr ⟨fdX6 (am_lt rfl) wd_361, List.forall_mem_cons.mpr ⟨fdX6 (am_lt rfl) wd_318, List.forall_mem_cons.mpr ⟨fdX0 (am_lt rfl) wd_335, fun _ h => absurd h List.not_mem_nil⟩⟩⟩)) (am_Kl (fun _ h => absurd h List.not_mem_nil)) (am_Cl (List.forall_mem_cons.mpr ⟨am_cal_S snX6_isWithin (am_gS wd_312 wd_205 wd_162 wd_204) rfl rfl rfl (by decide +kernel) ⟨am_le rfl, am_le rfl⟩, List.forall_mem_cons.mpr ⟨am_cal_V (r := (RX0, TX0, 7)) snX0_here rfl (by decide) (am_gV wd_370 wd_371 wd_372 wd_126 wd_373) rfl rfl rfl (by decide +kernel) ⟨am_le rfl, am_le rfl⟩, List.forall_mem_cons.mpr ⟨am_cal_V (r := (RX3, TX3, 5)) snX3_gather rfl (by decide) (am_gV wd_366 wd_367 wd_368 wd_279 wd_369) rfl rfl rfl (by decide +kernel) ⟨am_le rfl, am_le rfl⟩, List.forall_mem_cons.mpr ⟨am_cal_V (r := (RX6, TX6, 12)) snX6_tellSets rfl (by decide) (am_gV wd_384 wd_385 wd_386 wd_162 wd_387) rfl rfl rfl (by decide +kernel) ⟨am_le rfl, am_le rfl⟩, fun _ h => absurd h List.not_mem_nil⟩⟩⟩⟩))
abbrev rmX6_fill : Room := { frames := 4, cells := 0, slots := 0, locals := 93 }
abbrev wsX6_fill : List Jvm.Cond := Jvm.Cond.code yX6_fill cX6_fill 2 (some .int) :: am_B
set_option maxRecDepth 100000 in
set_option maxHeartbeats 4000000 in
theorem snX6_fill : am_Snd vwCl yX6_fill wsX6_fill rmX6_fill sX6_fill := am_snd_of (cc := cX6_fill) (by decide) rfl (by decide +kernel) (am_Fl (List.forall_mem_cons.mpr ⟨fdX6 (am_lt rfl) wd_361, List.forall_mem_cons.mpr ⟨fdX6 (am_lt rfl) wd_318, List.forall_mem_cons.mpr ⟨fdX0 (am_lt rfl) wd_335, fun _ h => absurd h List.not_mem_nil⟩⟩⟩)) (am_Kl (fun _ h => absurd h List.not_mem_nil)) (am_Cl (List.forall_mem_cons.mpr ⟨am_cal_S snX6_isWithin (am_gS wd_312 wd_205 wd_162 wd_204) rfl rfl rfl (by decide +kernel) ⟨am_le rfl, am_le rfl⟩, List.forall_mem_cons.mpr ⟨am_cal_V (r := (RX0, TX0, 7)) snX0_here rfl (by decide) (am_gV wd_370 wd_371 wd_372 wd_126 wd_373) rfl rfl rfl (by decide +kernel) ⟨am_le rfl, am_le rfl⟩, List.forall_mem_cons.mpr ⟨am_cal_V (r := (RX0, TX0, 7)) snX0_those rfl (by decide) (am_gV wd_337 wd_124 wd_125 wd_126 wd_127) rfl rfl rfl (by decide +kernel) ⟨am_le rfl, am_le rfl⟩, List.forall_mem_cons.mpr ⟨am_cal_V (r := (RX3, TX3, 5)) snX3_gather rfl (by decide) (am_gV wd_366 wd_367 wd_368 wd_279 wd_369) rfl rfl rfl (by decide +kernel) ⟨am_le rfl, am_le rfl⟩, List.forall_mem_cons.mpr ⟨am_cal_V (r := (RX6, TX6, 12)) snX6_tellSets rfl (by decide) (am_gV wd_384 wd_385 wd_386 wd_162 wd_387) rfl rfl rfl (by decide +kernel) ⟨am_le rfl, am_le rfl⟩, fun _ h => absurd h List.not_mem_nil⟩⟩⟩⟩⟩))
abbrev rmJ6_numberOfTrailingZeros : Room := { frames := 0, cells := 0, slots := 0, locals := 0 }
abbrev wsJ6_numberOfTrailingZeros : List Jvm.Cond := Jvm.Cond.code yJ6_numberOfTrailingZeros_0f7a4 cJ6_numberOfTrailingZeros_0f7a4 2 (some .int) :: am_B
set_option maxRecDepth 100000 in
set_option maxHeartbeats 4000000 in
theorem snJ6_numberOfTrailingZeros : am_Snd vwCl yJ6_numberOfTrailingZeros_0f7a4 wsJ6_numberOfTrailingZeros rmJ6_numberOfTrailingZeros sJ6_numberOfTrailingZeros := am_snd_of (cc := cJ6_numberOfTrailingZeros_0f7a4) (by decide) rfl (by decide +kernel) (am_Fl (fun _ h => absurd h List.not_mem_nil)) (am_Kl (List.forall_mem_cons.mpr ⟨List.mem_cons_of_mem _ wd_284, fun _ h => absurd h List.not_mem_nil⟩)) (am_Cl (fun _ h => absurd h List.not_mem_nil))
abbrev rmX6_let : Room := { frames := 4, cells := 0, slots := 0, locals := 93 }
abbrev wsX6_let : List Jvm.Cond := Jvm.Cond.code yX6_let cX6_let 9 (some .int) :: am_B
set_option maxRecDepth 100000 in
set_option maxHeartbeats 4000000 in
theorem snX6_let : am_Snd vwCl yX6_let wsX6_let rmX6_let sX6_let := am_snd_of (cc := cX6_let) (by decide) rfl (by decide +kernel) (am_Fl (List.forall_mem_cons.mpr ⟨fdX6 (am_lt rfl) wd_318, List.forall_mem_cons.mpr ⟨fdX6 (am_lt rfl) wd_361, List.forall_mem_cons.mpr ⟨fdX0 (am_lt rfl) wd_335, List.forall_mem_cons.mpr ⟨fdX3 (am_lt rfl) wd_375, List.forall_mem_cons.mpr ⟨fdX3 (am_lt rfl) wd_374, List.forall_mem_cons.mpr ⟨fdX3 (am_lt rfl) wd_360, fun _ h => absurd h List.not_mem_nil⟩⟩⟩⟩⟩⟩)) (am_Kl (fun _ h => absurd h List.not_mem_nil)) (am_Cl (List.forall_mem_cons.mpr ⟨am_cal_S snX6_isWithin (am_gS wd_312 wd_205 wd_162 wd_204) rfl rfl rfl (by decide +kernel) ⟨am_le rfl, am_le rfl⟩, List.forall_mem_cons.mpr ⟨am_cal_V (r := (RX0, TX0, 7)) snX0_here rfl (by decide) (am_gV wd_370 wd_371 wd_372 wd_126 wd_373) rfl rfl rfl (by decide +kernel) ⟨am_le rfl, am_le rfl⟩, List.forall_mem_cons.mpr ⟨am_cal_V (r := (RX0, TX0, 7)) snX0_those rfl (by decide) (am_gV wd_337 wd_124 wd_125 wd_126 wd_127) rfl rfl rfl (by decide +kernel) ⟨am_le rfl, am_le rfl⟩, List.forall_mem_cons.mpr ⟨am_cal_V (r := (RX3, TX3, 5)) snX3_gather rfl (by decide) (am_gV wd_366 wd_367 wd_368 wd_279 wd_369) rfl rfl rfl (by decide +kernel) ⟨am_le rfl, am_le rfl⟩, List.forall_mem_cons.mpr ⟨am_cal_V (r := (RX3, TX3, 5)) snX3_pack rfl (by decide) (am_gV wd_362 wd_363 wd_364 wd_279 wd_365) rfl rfl rfl (by decide +kernel) ⟨am_le rfl, am_le rfl⟩, List.forall_mem_cons.mpr ⟨am_cal_S snJ6_numberOfTrailingZeros (am_gS wd_388 wd_389 wd_121 wd_390) rfl rfl rfl (by decide +kernel) ⟨am_le rfl, am_le rfl⟩, fun _ h => absurd h List.not_mem_nil⟩⟩⟩⟩⟩⟩))
abbrev rmX6_cheap : Room := { frames := 3, cells := 0, slots := 0, locals := 72 }
abbrev wsX6_cheap : List Jvm.Cond := Jvm.Cond.code yX6_cheap cX6_cheap 7 (some .int) :: am_B
set_option maxRecDepth 100000 in
set_option maxHeartbeats 4000000 in
theorem snX6_cheap : am_Snd vwCl yX6_cheap wsX6_cheap rmX6_cheap sX6_cheap := am_snd_of (cc := cX6_cheap) (by decide) rfl (by decide +kernel) (am_Fl (List.forall_mem_cons.mpr ⟨fdX6 (am_lt rfl) wd_318, List.forall_mem_cons.mpr ⟨fdX0 (am_lt rfl) wd_335, fun _ h => absurd h List.not_mem_nil⟩⟩)) (am_Kl (fun _ h => absurd h List.not_mem_nil)) (am_Cl (List.forall_mem_cons.mpr ⟨am_cal_S snX6_isWithin (am_gS wd_312 wd_205 wd_162 wd_204) rfl rfl rfl (by decide +kernel) ⟨am_le rfl, am_le rfl⟩, List.forall_mem_cons.mpr ⟨am_cal_V (r := (RX0, TX0, 7)) snX0_here rfl (by decide) (am_gV wd_370 wd_371 wd_372 wd_126 wd_373) rfl rfl rfl (by decide +kernel) ⟨am_le rfl, am_le rfl⟩, List.forall_mem_cons.mpr ⟨am_cal_V (r := (RX0, TX0, 7)) snX0_pools rfl (by decide) (am_gV wd_396 wd_252 wd_253 wd_126 wd_254) rfl rfl rfl (by decide +kernel) ⟨am_le rfl, am_le rfl⟩, List.forall_mem_cons.mpr ⟨am_cal_S snJ6_bitCount (am_gS wd_395 wd_120 wd_121 wd_122) rfl rfl rfl (by decide +kernel) ⟨am_le rfl, am_le rfl⟩, List.forall_mem_cons.mpr ⟨am_cal_V (r := (RX0, TX0, 7)) snX0_costToPart rfl (by decide) (am_gV wd_391 wd_392 wd_393 wd_126 wd_394) rfl rfl rfl (by decide +kernel) ⟨am_le rfl, am_le rfl⟩, fun _ h => absurd h List.not_mem_nil⟩⟩⟩⟩⟩))
abbrev rmX6_send : Room := { frames := 4, cells := 0, slots := 0, locals := 93 }
abbrev wsX6_send : List Jvm.Cond := Jvm.Cond.code yX6_send cX6_send 7 (some .int) :: am_B
set_option maxRecDepth 100000 in
set_option maxHeartbeats 4000000 in
theorem snX6_send : am_Snd vwCl yX6_send wsX6_send rmX6_send sX6_send := am_snd_of (cc := cX6_send) (by decide) rfl (by decide +kernel) (am_Fl (List.forall_mem_cons.mpr ⟨fdX6 (am_lt rfl) wd_361, List.forall_mem_cons.mpr ⟨fdX6 (am_lt rfl) wd_318, List.forall_mem_cons.mpr ⟨fdX0 (am_lt rfl) wd_335, List.forall_mem_cons.mpr ⟨fdX6 (am_lt rfl) wd_397, fun _ h => absurd h List.not_mem_nil⟩⟩⟩⟩)) (am_Kl (fun _ h => absurd h List.not_mem_nil)) (am_Cl (List.forall_mem_cons.mpr ⟨am_cal_S snX6_isWithin (am_gS wd_312 wd_205 wd_162 wd_204) rfl rfl rfl (by decide +kernel) ⟨am_le rfl, am_le rfl⟩, List.forall_mem_cons.mpr ⟨am_cal_V (r := (RX0, TX0, 7)) snX0_here rfl (by decide) (am_gV wd_370 wd_371 wd_372 wd_126 wd_373) rfl rfl rfl (by decide +kernel) ⟨am_le rfl, am_le rfl⟩, List.forall_mem_cons.mpr ⟨am_cal_V (r := (RX0, TX0, 7)) snX0_those rfl (by decide) (am_gV wd_337 wd_124 wd_125 wd_126 wd_127) rfl rfl rfl (by decide +kernel) ⟨am_le rfl, am_le rfl⟩, List.forall_mem_cons.mpr ⟨am_cal_V (r := (RX3, TX3, 5)) snX3_gather rfl (by decide) (am_gV wd_366 wd_367 wd_368 wd_279 wd_369) rfl rfl rfl (by decide +kernel) ⟨am_le rfl, am_le rfl⟩, List.forall_mem_cons.mpr ⟨am_cal_V (r := (RX0, TX0, 7)) snX0_rivalsOf rfl (by decide) (am_gV wd_340 wd_139 wd_140 wd_126 wd_141) rfl rfl rfl (by decide +kernel) ⟨am_le rfl, am_le rfl⟩, List.forall_mem_cons.mpr ⟨am_cal_V (r := (RX3, TX3, 5)) snX3_hasOneWithin rfl (by decide) (am_gV wd_398 wd_399 wd_400 wd_279 wd_401) rfl rfl rfl (by decide +kernel) ⟨am_le rfl, am_le rfl⟩, fun _ h => absurd h List.not_mem_nil⟩⟩⟩⟩⟩⟩))
abbrev rmX6_last : Room := { frames := 4, cells := 0, slots := 0, locals := 93 }
abbrev wsX6_last : List Jvm.Cond := Jvm.Cond.code yX6_last cX6_last 3 (some .int) :: am_B
set_option maxRecDepth 100000 in
set_option maxHeartbeats 4000000 in
theorem snX6_last : am_Snd vwCl yX6_last wsX6_last rmX6_last sX6_last := am_snd_of (cc := cX6_last) (by decide) rfl (by decide +kernel) (am_Fl (List.forall_mem_cons.mpr ⟨fdX6 (am_lt rfl) wd_318, List.forall_mem_cons.mpr ⟨fdX0 (am_lt rfl) wd_335, List.forall_mem_cons.mpr ⟨fdX6 (am_lt rfl) wd_361, fun _ h => absurd h List.not_mem_nil⟩⟩⟩)) (am_Kl (fun _ h => absurd h List.not_mem_nil)) (am_Cl (List.forall_mem_cons.mpr ⟨am_cal_V (r := (RX0, TX0, 7)) snX0_pools rfl (by decide) (am_gV wd_396 wd_252 wd_253 wd_126 wd_254) rfl rfl rfl (by decide +kernel) ⟨am_le rfl, am_le rfl⟩, List.forall_mem_cons.mpr ⟨am_cal_S snX6_isWithin (am_gS wd_312 wd_205 wd_162 wd_204) rfl rfl rfl (by decide +kernel) ⟨am_le rfl, am_le rfl⟩, List.forall_mem_cons.mpr ⟨am_cal_V (r := (RX0, TX0, 7)) snX0_here rfl (by decide) (am_gV wd_370 wd_371 wd_372 wd_126 wd_373) rfl rfl rfl (by decide +kernel) ⟨am_le rfl, am_le rfl⟩, List.forall_mem_cons.mpr ⟨am_cal_S snJ6_bitCount (am_gS wd_395 wd_120 wd_121 wd_122) rfl rfl rfl (by decide +kernel) ⟨am_le rfl, am_le rfl⟩, List.forall_mem_cons.mpr ⟨am_cal_V (r := (RX3, TX3, 5)) snX3_gather rfl (by decide) (am_gV wd_366 wd_367 wd_368 wd_279 wd_369) rfl rfl rfl (by decide +kernel) ⟨am_le rfl, am_le rfl⟩, List.forall_mem_cons.mpr ⟨am_cal_V (r := (RX3, TX3, 5)) snX3_inAny rfl (by decide) (am_gV wd_376 wd_377 wd_378 wd_279 wd_379) rfl rfl rfl (by decide +kernel) ⟨am_le rfl, am_le rfl⟩, fun _ h => absurd h List.not_mem_nil⟩⟩⟩⟩⟩⟩))
abbrev rmX6_power : Room := { frames := 0, cells := 0, slots := 0, locals := 0 }
abbrev wsX6_power : List Jvm.Cond := Jvm.Cond.code yX6_power cX6_power 5 (some .long) :: am_B
set_option maxRecDepth 100000 in
set_option maxHeartbeats 4000000 in
theorem snX6_power : am_Snd vwCl yX6_power wsX6_power rmX6_power sX6_power := am_snd_of (cc := cX6_power) (by decide) rfl (by decide +kernel) (am_Fl (fun _ h => absurd h List.not_mem_nil)) (am_Kl (fun _ h => absurd h List.not_mem_nil)) (am_Cl (fun _ h => absurd h List.not_mem_nil))
abbrev rmX6_weight : Room := { frames := 1, cells := 0, slots := 0, locals := 24 }
abbrev wsX6_weight : List Jvm.Cond := Jvm.Cond.code yX6_weight cX6_weight 3 (some .long) :: am_B
set_option maxRecDepth 100000 in
set_option maxHeartbeats 4000000 in
theorem snX6_weight : am_Snd vwCl yX6_weight wsX6_weight rmX6_weight sX6_weight := am_snd_of (cc := cX6_weight) (by decide) rfl (by decide +kernel) (am_Fl (fun _ h => absurd h List.not_mem_nil)) (am_Kl (fun _ h => absurd h List.not_mem_nil)) (am_Cl (List.forall_mem_cons.mpr ⟨am_cal_S snJ6_bitCount (am_gS wd_395 wd_120 wd_121 wd_122) rfl rfl rfl (by decide +kernel) ⟨am_le rfl, am_le rfl⟩, List.forall_mem_cons.mpr ⟨am_cal_S snX6_power (am_gS wd_402 wd_403 wd_162 wd_404) rfl rfl rfl (by decide +kernel) ⟨am_le rfl, am_le rfl⟩, fun _ h => absurd h List.not_mem_nil⟩⟩))
abbrev rmX6_commonDivisor : Room := { frames := 0, cells := 0, slots := 0, locals := 0 }
abbrev wsX6_commonDivisor : List Jvm.Cond := Jvm.Cond.code yX6_commonDivisor cX6_commonDivisor 11 (some .long) :: am_B
set_option maxRecDepth 100000 in
set_option maxHeartbeats 4000000 in
theorem snX6_commonDivisor : am_Snd vwCl yX6_commonDivisor wsX6_commonDivisor rmX6_commonDivisor sX6_commonDivisor := am_snd_of (cc := cX6_commonDivisor) (by decide) rfl (by decide +kernel) (am_Fl (fun _ h => absurd h List.not_mem_nil)) (am_Kl (fun _ h => absurd h List.not_mem_nil)) (am_Cl (fun _ h => absurd h List.not_mem_nil))
abbrev rmX6_inLowestTerms : Room := { frames := 1, cells := 0, slots := 0, locals := 30 }
abbrev wsX6_inLowestTerms : List Jvm.Cond := Jvm.Cond.code yX6_inLowestTerms cX6_inLowestTerms 7 (some .long) :: am_B
set_option maxRecDepth 100000 in
set_option maxHeartbeats 4000000 in
theorem snX6_inLowestTerms : am_Snd vwCl yX6_inLowestTerms wsX6_inLowestTerms rmX6_inLowestTerms sX6_inLowestTerms := am_snd_of (cc := cX6_inLowestTerms) (by decide) rfl (by decide +kernel) (am_Fl (fun _ h => absurd h List.not_mem_nil)) (am_Kl (List.forall_mem_cons.mpr ⟨List.mem_cons_of_mem _ wd_405, fun _ h => absurd h List.not_mem_nil⟩)) (am_Cl (List.forall_mem_cons.mpr ⟨am_cal_S snX6_commonDivisor (am_gS wd_406 wd_407 wd_162 wd_408) rfl rfl rfl (by decide +kernel) ⟨am_le rfl, am_le rfl⟩, fun _ h => absurd h List.not_mem_nil⟩))
abbrev rmX6_odds : Room := { frames := 4, cells := 0, slots := 0, locals := 93 }
abbrev wsX6_odds : List Jvm.Cond := Jvm.Cond.code yX6_odds cX6_odds 8 (some .long) :: am_B
set_option maxRecDepth 100000 in
set_option maxHeartbeats 4000000 in
theorem snX6_odds : am_Snd vwCl yX6_odds wsX6_odds rmX6_odds sX6_odds := am_snd_of (cc := cX6_odds) (by decide) rfl (by decide +kernel) (am_Fl (List.forall_mem_cons.mpr ⟨fdX6 (am_lt rfl) wd_318, List.forall_mem_cons.mpr ⟨fdX6 (am_lt rfl) wd_361, List.forall_mem_cons.mpr ⟨fdX0 (am_lt rfl) wd_335, fun _ h => absurd h List.not_mem_nil⟩⟩⟩)) (am_Kl (List.forall_mem_cons.mpr ⟨List.mem_cons_of_mem _ wd_405, fun _ h => absurd h List.not_mem_nil⟩)) (am_Cl (List.forall_mem_cons.mpr ⟨am_cal_S snX6_isWithin (am_gS wd_312 wd_205 wd_162 wd_204) rfl rfl rfl (by decide +kernel) ⟨am_le rfl, am_le rfl⟩, List.forall_mem_cons.mpr ⟨am_cal_V (r := (RX0, TX0, 7)) snX0_those rfl (by decide) (am_gV wd_337 wd_124 wd_125 wd_126 wd_127) rfl rfl rfl (by decide +kernel) ⟨am_le rfl, am_le rfl⟩, List.forall_mem_cons.mpr ⟨am_cal_V (r := (RX3, TX3, 5)) snX3_gather rfl (by decide) (am_gV wd_366 wd_367 wd_368 wd_279 wd_369) rfl rfl rfl (by decide +kernel) ⟨am_le rfl, am_le rfl⟩, List.forall_mem_cons.mpr ⟨am_cal_V (r := (RX3, TX3, 5)) snX3_hasOneWithin rfl (by decide) (am_gV wd_398 wd_399 wd_400 wd_279 wd_401) rfl rfl rfl (by decide +kernel) ⟨am_le rfl, am_le rfl⟩, List.forall_mem_cons.mpr ⟨am_cal_S snX6_weight (am_gS wd_412 wd_413 wd_162 wd_414) rfl rfl rfl (by decide +kernel) ⟨am_le rfl, am_le rfl⟩, List.forall_mem_cons.mpr ⟨am_cal_S snJ6_bitCount (am_gS wd_395 wd_120 wd_121 wd_122) rfl rfl rfl (by decide +kernel) ⟨am_le rfl, am_le rfl⟩, List.forall_mem_cons.mpr ⟨am_cal_S snX6_power (am_gS wd_402 wd_403 wd_162 wd_404) rfl rfl rfl (by decide +kernel) ⟨am_le rfl, am_le rfl⟩, List.forall_mem_cons.mpr ⟨am_cal_S snX6_inLowestTerms (am_gS wd_409 wd_410 wd_162 wd_411) rfl rfl rfl (by decide +kernel) ⟨am_le rfl, am_le rfl⟩, fun _ h => absurd h List.not_mem_nil⟩⟩⟩⟩⟩⟩⟩⟩))
abbrev rmX6_mean : Room := { frames := 4, cells := 0, slots := 0, locals := 93 }
abbrev wsX6_mean : List Jvm.Cond := Jvm.Cond.code yX6_mean cX6_mean 8 (some .long) :: am_B
set_option maxRecDepth 100000 in
set_option maxHeartbeats 4000000 in
theorem snX6_mean : am_Snd vwCl yX6_mean wsX6_mean rmX6_mean sX6_mean := am_snd_of (cc := cX6_mean) (by decide) rfl (by decide +kernel) (am_Fl (List.forall_mem_cons.mpr ⟨fdX6 (am_lt rfl) wd_318, List.forall_mem_cons.mpr ⟨fdX6 (am_lt rfl) wd_361, List.forall_mem_cons.mpr ⟨fdX0 (am_lt rfl) wd_335, List.forall_mem_cons.mpr ⟨fdX3 (am_lt rfl) wd_360, fun _ h => absurd h List.not_mem_nil⟩⟩⟩⟩)) (am_Kl (List.forall_mem_cons.mpr ⟨List.mem_cons_of_mem _ wd_405, fun _ h => absurd h List.not_mem_nil⟩)) (am_Cl (List.forall_mem_cons.mpr ⟨am_cal_S snX6_isWithin (am_gS wd_312 wd_205 wd_162 wd_204) rfl rfl rfl (by decide +kernel) ⟨am_le rfl, am_le rfl⟩, List.forall_mem_cons.mpr ⟨am_cal_V (r := (RX0, TX0, 7)) snX0_those rfl (by decide) (am_gV wd_337 wd_124 wd_125 wd_126 wd_127) rfl rfl rfl (by decide +kernel) ⟨am_le rfl, am_le rfl⟩, List.forall_mem_cons.mpr ⟨am_cal_V (r := (RX3, TX3, 5)) snX3_gather rfl (by decide) (am_gV wd_366 wd_367 wd_368 wd_279 wd_369) rfl rfl rfl (by decide +kernel) ⟨am_le rfl, am_le rfl⟩, List.forall_mem_cons.mpr ⟨am_cal_V (r := (RX3, TX3, 5)) snX3_pack rfl (by decide) (am_gV wd_362 wd_363 wd_364 wd_279 wd_365) rfl rfl rfl (by decide +kernel) ⟨am_le rfl, am_le rfl⟩, List.forall_mem_cons.mpr ⟨am_cal_S snX6_weight (am_gS wd_412 wd_413 wd_162 wd_414) rfl rfl rfl (by decide +kernel) ⟨am_le rfl, am_le rfl⟩, List.forall_mem_cons.mpr ⟨am_cal_S snJ6_bitCount (am_gS wd_395 wd_120 wd_121 wd_122) rfl rfl rfl (by decide +kernel) ⟨am_le rfl, am_le rfl⟩, List.forall_mem_cons.mpr ⟨am_cal_S snX6_power (am_gS wd_402 wd_403 wd_162 wd_404) rfl rfl rfl (by decide +kernel) ⟨am_le rfl, am_le rfl⟩, List.forall_mem_cons.mpr ⟨am_cal_S snX6_inLowestTerms (am_gS wd_409 wd_410 wd_162 wd_411) rfl rfl rfl (by decide +kernel) ⟨am_le rfl, am_le rfl⟩, fun _ h => absurd h List.not_mem_nil⟩⟩⟩⟩⟩⟩⟩⟩))
abbrev rmX6_see : Room := { frames := 1, cells := 0, slots := 0, locals := 22 }
abbrev wsX6_see : List Jvm.Cond := Jvm.Cond.code yX6_see cX6_see 3 (some .int) :: am_B
set_option maxRecDepth 100000 in
set_option maxHeartbeats 4000000 in
theorem snX6_see : am_Snd vwCl yX6_see wsX6_see rmX6_see sX6_see := am_snd_of (cc := cX6_see) (by decide) rfl (by decide +kernel) (am_Fl (List.forall_mem_cons.mpr ⟨fdX6 (am_lt rfl) wd_318, List.forall_mem_cons.mpr ⟨fdX6 (am_lt rfl) wd_316, List.forall_mem_cons.mpr ⟨fdX2 (am_lt rfl) wd_315, fun _ h => absurd h List.not_mem_nil⟩⟩⟩)) (am_Kl (fun _ h => absurd h List.not_mem_nil)) (am_Cl (List.forall_mem_cons.mpr ⟨am_cal_V (r := (RX0, TX0, 7)) snX0_has rfl (by decide) (am_gV wd_339 wd_143 wd_144 wd_126 wd_145) rfl rfl rfl (by decide +kernel) ⟨am_le rfl, am_le rfl⟩, List.forall_mem_cons.mpr ⟨am_cal_V (r := (RX2, TX2, 3)) snX2_note rfl (by decide) (am_gV wd_415 wd_416 wd_417 wd_418 wd_419) rfl rfl rfl (by decide +kernel) ⟨am_le rfl, am_le rfl⟩, fun _ h => absurd h List.not_mem_nil⟩⟩))
abbrev rmX6_forget : Room := { frames := 1, cells := 0, slots := 0, locals := 22 }
abbrev wsX6_forget : List Jvm.Cond := Jvm.Cond.code yX6_forget cX6_forget 3 (some .int) :: am_B
set_option maxRecDepth 100000 in
set_option maxHeartbeats 4000000 in
theorem snX6_forget : am_Snd vwCl yX6_forget wsX6_forget rmX6_forget sX6_forget := am_snd_of (cc := cX6_forget) (by decide) rfl (by decide +kernel) (am_Fl (List.forall_mem_cons.mpr ⟨fdX6 (am_lt rfl) wd_316, List.forall_mem_cons.mpr ⟨fdX2 (am_lt rfl) wd_315, fun _ h => absurd h List.not_mem_nil⟩⟩)) (am_Kl (fun _ h => absurd h List.not_mem_nil)) (am_Cl (List.forall_mem_cons.mpr ⟨am_cal_S snX6_isWithin (am_gS wd_312 wd_205 wd_162 wd_204) rfl rfl rfl (by decide +kernel) ⟨am_le rfl, am_le rfl⟩, fun _ h => absurd h List.not_mem_nil⟩))
abbrev rmX6_fits : Room := { frames := 4, cells := 0, slots := 0, locals := 93 }
abbrev wsX6_fits : List Jvm.Cond := Jvm.Cond.code yX6_fits cX6_fits 3 (some .int) :: am_B
set_option maxRecDepth 100000 in
set_option maxHeartbeats 4000000 in
theorem snX6_fits : am_Snd vwCl yX6_fits wsX6_fits rmX6_fits sX6_fits := am_snd_of (cc := cX6_fits) (by decide) rfl (by decide +kernel) (am_Fl (List.forall_mem_cons.mpr ⟨fdX6 (am_lt rfl) wd_318, List.forall_mem_cons.mpr ⟨fdX6 (am_lt rfl) wd_361, List.forall_mem_cons.mpr ⟨fdX0 (am_lt rfl) wd_335, List.forall_mem_cons.mpr ⟨fdX6 (am_lt rfl) wd_316, fun _ h => absurd h List.not_mem_nil⟩⟩⟩⟩)) (am_Kl (fun _ h => absurd h List.not_mem_nil)) (am_Cl (List.forall_mem_cons.mpr ⟨am_cal_S snX6_isWithin (am_gS wd_312 wd_205 wd_162 wd_204) rfl rfl rfl (by decide +kernel) ⟨am_le rfl, am_le rfl⟩, List.forall_mem_cons.mpr ⟨am_cal_V (r := (RX0, TX0, 7)) snX0_pools rfl (by decide) (am_gV wd_396 wd_252 wd_253 wd_126 wd_254) rfl rfl rfl (by decide +kernel) ⟨am_le rfl, am_le rfl⟩, List.forall_mem_cons.mpr ⟨am_cal_V (r := (RX2, TX2, 3)) snX2_those rfl (by decide) (am_gV wd_420 wd_421 wd_422 wd_418 wd_423) rfl rfl rfl (by decide +kernel) ⟨am_le rfl, am_le rfl⟩, List.forall_mem_cons.mpr ⟨am_cal_V (r := (RX3, TX3, 5)) snX3_gather rfl (by decide) (am_gV wd_366 wd_367 wd_368 wd_279 wd_369) rfl rfl rfl (by decide +kernel) ⟨am_le rfl, am_le rfl⟩, List.forall_mem_cons.mpr ⟨am_cal_V (r := (RX6, TX6, 12)) snX6_tellSets rfl (by decide) (am_gV wd_384 wd_385 wd_386 wd_162 wd_387) rfl rfl rfl (by decide +kernel) ⟨am_le rfl, am_le rfl⟩, fun _ h => absurd h List.not_mem_nil⟩⟩⟩⟩⟩))
abbrev rmX6_drift : Room := { frames := 4, cells := 0, slots := 0, locals := 90 }
abbrev wsX6_drift : List Jvm.Cond := Jvm.Cond.code yX6_drift cX6_drift 6 (some .int) :: am_B
set_option maxRecDepth 100000 in
set_option maxHeartbeats 4000000 in
theorem snX6_drift : am_Snd vwCl yX6_drift wsX6_drift rmX6_drift sX6_drift := am_snd_of (cc := cX6_drift) (by decide) rfl (by decide +kernel) (am_Fl (List.forall_mem_cons.mpr ⟨fdX6 (am_lt rfl) wd_318, List.forall_mem_cons.mpr ⟨fdX0 (am_lt rfl) wd_336, List.forall_mem_cons.mpr ⟨fdX6 (am_lt rfl) wd_358, List.forall_mem_cons.mpr ⟨fdX0 (am_lt rfl) wd_331, fun _ h => absurd h List.not_mem_nil⟩⟩⟩⟩)) (am_Kl (List.forall_mem_cons.mpr ⟨List.mem_cons_of_mem _ wd_424, fun _ h => absurd h List.not_mem_nil⟩)) (am_Cl (List.forall_mem_cons.mpr ⟨am_cal_S snX6_isWithin (am_gS wd_312 wd_205 wd_162 wd_204) rfl rfl rfl (by decide +kernel) ⟨am_le rfl, am_le rfl⟩, List.forall_mem_cons.mpr ⟨am_cal_V (r := (RX0, TX0, 7)) snX0_copyFrom rfl (by decide) (am_gV wd_323 wd_324 wd_325 wd_126 wd_326) rfl rfl rfl (by decide +kernel) ⟨am_le rfl, am_le rfl⟩, List.forall_mem_cons.mpr ⟨am_cal_V (r := (RX0, TX0, 7)) snX0_takeAboard rfl (by decide) (am_gV wd_353 wd_150 wd_151 wd_126 wd_152) rfl rfl rfl (by decide +kernel) ⟨am_le rfl, am_le rfl⟩, List.forall_mem_cons.mpr ⟨am_cal_V (r := (RX0, TX0, 7)) snX0_those rfl (by decide) (am_gV wd_337 wd_124 wd_125 wd_126 wd_127) rfl rfl rfl (by decide +kernel) ⟨am_le rfl, am_le rfl⟩, fun _ h => absurd h List.not_mem_nil⟩⟩⟩⟩))
abbrev rmX6_keep : Room := { frames := 2, cells := 0, slots := 0, locals := 48 }
abbrev wsX6_keep : List Jvm.Cond := Jvm.Cond.code yX6_keep cX6_keep 3 (some .int) :: am_B
set_option maxRecDepth 100000 in
set_option maxHeartbeats 4000000 in
theorem snX6_keep : am_Snd vwCl yX6_keep wsX6_keep rmX6_keep sX6_keep := am_snd_of (cc := cX6_keep) (by decide) rfl (by decide +kernel) (am_Fl (List.forall_mem_cons.mpr ⟨fdX6 (am_lt rfl) wd_314, List.forall_mem_cons.mpr ⟨fdX6 (am_lt rfl) wd_425, List.forall_mem_cons.mpr ⟨fdX6 (am_lt rfl) wd_318, fun _ h => absurd h List.not_mem_nil⟩⟩⟩)) (am_Kl (fun _ h => absurd h List.not_mem_nil)) (am_Cl (List.forall_mem_cons.mpr ⟨am_cal_S snX6_isWithin (am_gS wd_312 wd_205 wd_162 wd_204) rfl rfl rfl (by decide +kernel) ⟨am_le rfl, am_le rfl⟩, List.forall_mem_cons.mpr ⟨am_cal_V (r := (RX0, TX0, 7)) snX0_copyFrom rfl (by decide) (am_gV wd_323 wd_324 wd_325 wd_126 wd_326) rfl rfl rfl (by decide +kernel) ⟨am_le rfl, am_le rfl⟩, fun _ h => absurd h List.not_mem_nil⟩⟩))
abbrev rmX6_back : Room := { frames := 2, cells := 0, slots := 0, locals := 48 }
abbrev wsX6_back : List Jvm.Cond := Jvm.Cond.code yX6_back cX6_back 2 (some .int) :: am_B
set_option maxRecDepth 100000 in
set_option maxHeartbeats 4000000 in
theorem snX6_back : am_Snd vwCl yX6_back wsX6_back rmX6_back sX6_back := am_snd_of (cc := cX6_back) (by decide) rfl (by decide +kernel) (am_Fl (List.forall_mem_cons.mpr ⟨fdX6 (am_lt rfl) wd_314, List.forall_mem_cons.mpr ⟨fdX6 (am_lt rfl) wd_318, List.forall_mem_cons.mpr ⟨fdX6 (am_lt rfl) wd_425, List.forall_mem_cons.mpr ⟨fdX0 (am_lt rfl) wd_332, fun _ h => absurd h List.not_mem_nil⟩⟩⟩⟩)) (am_Kl (fun _ h => absurd h List.not_mem_nil)) (am_Cl (List.forall_mem_cons.mpr ⟨am_cal_S snX6_isWithin (am_gS wd_312 wd_205 wd_162 wd_204) rfl rfl rfl (by decide +kernel) ⟨am_le rfl, am_le rfl⟩, List.forall_mem_cons.mpr ⟨am_cal_V (r := (RX0, TX0, 7)) snX0_copyFrom rfl (by decide) (am_gV wd_323 wd_324 wd_325 wd_126 wd_326) rfl rfl rfl (by decide +kernel) ⟨am_le rfl, am_le rfl⟩, fun _ h => absurd h List.not_mem_nil⟩⟩))
abbrev rmX6_isSheet : Room := { frames := 1, cells := 0, slots := 0, locals := 22 }
abbrev wsX6_isSheet : List Jvm.Cond := Jvm.Cond.code yX6_isSheet cX6_isSheet 1 (some .boolean) :: am_B
set_option maxRecDepth 100000 in
set_option maxHeartbeats 4000000 in
theorem snX6_isSheet : am_Snd vwCl yX6_isSheet wsX6_isSheet rmX6_isSheet sX6_isSheet := am_snd_of (cc := cX6_isSheet) (by decide) rfl (by decide +kernel) (am_Fl (fun _ h => absurd h List.not_mem_nil)) (am_Kl (fun _ h => absurd h List.not_mem_nil)) (am_Cl (List.forall_mem_cons.mpr ⟨am_cal_S snX6_isWithin (am_gS wd_312 wd_205 wd_162 wd_204) rfl rfl rfl (by decide +kernel) ⟨am_le rfl, am_le rfl⟩, fun _ h => absurd h List.not_mem_nil⟩))
abbrev rmX6_isLane : Room := { frames := 1, cells := 0, slots := 0, locals := 22 }
abbrev wsX6_isLane : List Jvm.Cond := Jvm.Cond.code yX6_isLane cX6_isLane 1 (some .boolean) :: am_B
set_option maxRecDepth 100000 in
set_option maxHeartbeats 4000000 in
theorem snX6_isLane : am_Snd vwCl yX6_isLane wsX6_isLane rmX6_isLane sX6_isLane := am_snd_of (cc := cX6_isLane) (by decide) rfl (by decide +kernel) (am_Fl (fun _ h => absurd h List.not_mem_nil)) (am_Kl (fun _ h => absurd h List.not_mem_nil)) (am_Cl (List.forall_mem_cons.mpr ⟨am_cal_S snX6_isWithin (am_gS wd_312 wd_205 wd_162 wd_204) rfl rfl rfl (by decide +kernel) ⟨am_le rfl, am_le rfl⟩, fun _ h => absurd h List.not_mem_nil⟩))
abbrev rmX6_sheet : Room := { frames := 2, cells := 0, slots := 0, locals := 42 }
abbrev wsX6_sheet : List Jvm.Cond := Jvm.Cond.code yX6_sheet cX6_sheet 4 (some .int) :: am_B
set_option maxRecDepth 100000 in
set_option maxHeartbeats 4000000 in
theorem snX6_sheet : am_Snd vwCl yX6_sheet wsX6_sheet rmX6_sheet sX6_sheet := am_snd_of (cc := cX6_sheet) (by decide) rfl (by decide +kernel) (am_Fl (List.forall_mem_cons.mpr ⟨fdX6 (am_lt rfl) wd_426, fun _ h => absurd h List.not_mem_nil⟩)) (am_Kl (fun _ h => absurd h List.not_mem_nil)) (am_Cl (List.forall_mem_cons.mpr ⟨am_cal_S snX6_isSheet (am_gS wd_434 wd_435 wd_162 wd_436) rfl rfl rfl (by decide +kernel) ⟨am_le rfl, am_le rfl⟩, List.forall_mem_cons.mpr ⟨am_cal_S snX6_isLane (am_gS wd_431 wd_432 wd_162 wd_433) rfl rfl rfl (by decide +kernel) ⟨am_le rfl, am_le rfl⟩, List.forall_mem_cons.mpr ⟨am_cal_V (r := (RX4, TX4, 4)) snX4_renew rfl (by decide) (am_gV wd_427 wd_428 wd_429 wd_304 wd_430) rfl rfl rfl (by decide +kernel) ⟨am_le rfl, am_le rfl⟩, fun _ h => absurd h List.not_mem_nil⟩⟩⟩))
abbrev rmX6_lay : Room := { frames := 2, cells := 0, slots := 0, locals := 42 }
abbrev wsX6_lay : List Jvm.Cond := Jvm.Cond.code yX6_lay cX6_lay 5 (some .int) :: am_B
set_option maxRecDepth 100000 in
set_option maxHeartbeats 4000000 in
theorem snX6_lay : am_Snd vwCl yX6_lay wsX6_lay rmX6_lay sX6_lay := am_snd_of (cc := cX6_lay) (by decide) rfl (by decide +kernel) (am_Fl (List.forall_mem_cons.mpr ⟨fdX6 (am_lt rfl) wd_426, fun _ h => absurd h List.not_mem_nil⟩)) (am_Kl (fun _ h => absurd h List.not_mem_nil)) (am_Cl (List.forall_mem_cons.mpr ⟨am_cal_S snX6_isSheet (am_gS wd_434 wd_435 wd_162 wd_436) rfl rfl rfl (by decide +kernel) ⟨am_le rfl, am_le rfl⟩, List.forall_mem_cons.mpr ⟨am_cal_V (r := (RX4, TX4, 4)) snX4_faultAt rfl (by decide) (am_gV wd_441 wd_302 wd_303 wd_304 wd_305) rfl rfl rfl (by decide +kernel) ⟨am_le rfl, am_le rfl⟩, List.forall_mem_cons.mpr ⟨am_cal_V (r := (RX4, TX4, 4)) snX4_put rfl (by decide) (am_gV wd_437 wd_438 wd_439 wd_304 wd_440) rfl rfl rfl (by decide +kernel) ⟨am_le rfl, am_le rfl⟩, fun _ h => absurd h List.not_mem_nil⟩⟩⟩))
abbrev rmX6_read : Room := { frames := 4, cells := 0, slots := 0, locals := 90 }
abbrev wsX6_read : List Jvm.Cond := Jvm.Cond.code yX6_read cX6_read 9 (some .int) :: am_B
set_option maxRecDepth 100000 in
set_option maxHeartbeats 4000000 in
theorem snX6_read : am_Snd vwCl yX6_read wsX6_read rmX6_read sX6_read := am_snd_of (cc := cX6_read) (by decide) rfl (by decide +kernel) (am_Fl (List.forall_mem_cons.mpr ⟨fdX6 (am_lt rfl) wd_426, List.forall_mem_cons.mpr ⟨fdX6 (am_lt rfl) wd_358, List.forall_mem_cons.mpr ⟨fdX6 (am_lt rfl) wd_318, List.forall_mem_cons.mpr ⟨fdX4 (am_lt rfl) wd_443, List.forall_mem_cons.mpr ⟨fdX6 (am_lt rfl) wd_442, fun _ h => absurd h List.not_mem_nil⟩⟩⟩⟩⟩)) (am_Kl (fun _ h => absurd h List.not_mem_nil)) (am_Cl (List.forall_mem_cons.mpr ⟨am_cal_S snX6_isSheet (am_gS wd_434 wd_435 wd_162 wd_436) rfl rfl rfl (by decide +kernel) ⟨am_le rfl, am_le rfl⟩, List.forall_mem_cons.mpr ⟨am_cal_S snX6_isLane (am_gS wd_431 wd_432 wd_162 wd_433) rfl rfl rfl (by decide +kernel) ⟨am_le rfl, am_le rfl⟩, List.forall_mem_cons.mpr ⟨am_cal_S snX6_isWithin (am_gS wd_312 wd_205 wd_162 wd_204) rfl rfl rfl (by decide +kernel) ⟨am_le rfl, am_le rfl⟩, List.forall_mem_cons.mpr ⟨am_cal_V (r := (RX0, TX0, 7)) snX0_copyFrom rfl (by decide) (am_gV wd_323 wd_324 wd_325 wd_126 wd_326) rfl rfl rfl (by decide +kernel) ⟨am_le rfl, am_le rfl⟩, List.forall_mem_cons.mpr ⟨am_cal_V (r := (RX4, TX4, 4)) snX4_faultAs rfl (by decide) (am_gV wd_444 wd_445 wd_446 wd_304 wd_447) rfl rfl rfl (by decide +kernel) ⟨am_le rfl, am_le rfl⟩, List.forall_mem_cons.mpr ⟨am_cal_V (r := (RX0, TX0, 7)) snX0_takeAboard rfl (by decide) (am_gV wd_353 wd_150 wd_151 wd_126 wd_152) rfl rfl rfl (by decide +kernel) ⟨am_le rfl, am_le rfl⟩, fun _ h => absurd h List.not_mem_nil⟩⟩⟩⟩⟩⟩))
abbrev rmX6_torn : Room := { frames := 0, cells := 0, slots := 0, locals := 0 }
abbrev wsX6_torn : List Jvm.Cond := Jvm.Cond.code yX6_torn cX6_torn 1 (some .int) :: am_B
set_option maxRecDepth 100000 in
set_option maxHeartbeats 4000000 in
theorem snX6_torn : am_Snd vwCl yX6_torn wsX6_torn rmX6_torn sX6_torn := am_snd_of (cc := cX6_torn) (by decide) rfl (by decide +kernel) (am_Fl (List.forall_mem_cons.mpr ⟨fdX6 (am_lt rfl) wd_442, fun _ h => absurd h List.not_mem_nil⟩)) (am_Kl (fun _ h => absurd h List.not_mem_nil)) (am_Cl (fun _ h => absurd h List.not_mem_nil))
abbrev rmX6_alikePairs : Room := { frames := 4, cells := 0, slots := 0, locals := 93 }
abbrev wsX6_alikePairs : List Jvm.Cond := Jvm.Cond.code yX6_alikePairs cX6_alikePairs 2 (some .int) :: am_B
set_option maxRecDepth 100000 in
set_option maxHeartbeats 4000000 in
theorem snX6_alikePairs : am_Snd vwCl yX6_alikePairs wsX6_alikePairs rmX6_alikePairs sX6_alikePairs := am_snd_of (cc := cX6_alikePairs) (by decide) rfl (by decide +kernel) (am_Fl (List.forall_mem_cons.mpr ⟨fdX6 (am_lt rfl) wd_361, List.forall_mem_cons.mpr ⟨fdX6 (am_lt rfl) wd_318, List.forall_mem_cons.mpr ⟨fdX3 (am_lt rfl) wd_375, fun _ h => absurd h List.not_mem_nil⟩⟩⟩)) (am_Kl (fun _ h => absurd h List.not_mem_nil)) (am_Cl (List.forall_mem_cons.mpr ⟨am_cal_V (r := (RX0, TX0, 7)) snX0_here rfl (by decide) (am_gV wd_370 wd_371 wd_372 wd_126 wd_373) rfl rfl rfl (by decide +kernel) ⟨am_le rfl, am_le rfl⟩, List.forall_mem_cons.mpr ⟨am_cal_V (r := (RX3, TX3, 5)) snX3_gather rfl (by decide) (am_gV wd_366 wd_367 wd_368 wd_279 wd_369) rfl rfl rfl (by decide +kernel) ⟨am_le rfl, am_le rfl⟩, List.forall_mem_cons.mpr ⟨am_cal_V (r := (RX0, TX0, 7)) snX0_howMany rfl (by decide) (am_gV wd_345 wd_346 wd_347 wd_126 wd_348) rfl rfl rfl (by decide +kernel) ⟨am_le rfl, am_le rfl⟩, fun _ h => absurd h List.not_mem_nil⟩⟩⟩))
abbrev rmX6_count : Room := { frames := 5, cells := 0, slots := 0, locals := 114 }
abbrev wsX6_count : List Jvm.Cond := Jvm.Cond.code yX6_count cX6_count 2 (some .int) :: am_B
set_option maxRecDepth 100000 in
set_option maxHeartbeats 4000000 in
theorem snX6_count : am_Snd vwCl yX6_count wsX6_count rmX6_count sX6_count := am_snd_of (cc := cX6_count) (by decide) rfl (by decide +kernel) (am_Fl (List.forall_mem_cons.mpr ⟨fdX6 (am_lt rfl) wd_316, List.forall_mem_cons.mpr ⟨fdX2 (am_lt rfl) wd_315, List.forall_mem_cons.mpr ⟨fdX6 (am_lt rfl) wd_314, List.forall_mem_cons.mpr ⟨fdX6 (am_lt rfl) wd_307, List.forall_mem_cons.mpr ⟨fdX5 (am_lt rfl) wd_306, List.forall_mem_cons.mpr ⟨fdX6 (am_lt rfl) wd_426, List.forall_mem_cons.mpr ⟨fdX4 (am_lt rfl) wd_449, List.forall_mem_cons.mpr ⟨fdX4 (am_lt rfl) wd_448, List.forall_mem_cons.mpr ⟨fdX6 (am_lt rfl) wd_318, fun _ h => absurd h List.not_mem_nil⟩⟩⟩⟩⟩⟩⟩⟩⟩)) (am_Kl (fun _ h => absurd h List.not_mem_nil)) (am_Cl (List.forall_mem_cons.mpr ⟨am_cal_V (r := (RX0, TX0, 7)) snX0_howMany rfl (by decide) (am_gV wd_345 wd_346 wd_347 wd_126 wd_348) rfl rfl rfl (by decide +kernel) ⟨am_le rfl, am_le rfl⟩, List.forall_mem_cons.mpr ⟨am_cal_V (r := (RX6, TX6, 12)) snX6_alikePairs rfl (by decide) (am_gV wd_450 wd_451 wd_452 wd_162 wd_453) rfl rfl rfl (by decide +kernel) ⟨am_le rfl, am_le rfl⟩, fun _ h => absurd h List.not_mem_nil⟩⟩))
abbrev rmX7_in : Room := { frames := 0, cells := 0, slots := 0, locals := 0 }
abbrev wsX7_in : List Jvm.Cond := Jvm.Cond.code yX7_in cX7_in 6 (some .boolean) :: am_B
set_option maxRecDepth 100000 in
set_option maxHeartbeats 4000000 in
theorem snX7_in : am_Snd vwCl yX7_in wsX7_in rmX7_in sX7_in := am_snd_of (cc := cX7_in) (by decide) rfl (by decide +kernel) (am_Fl (fun _ h => absurd h List.not_mem_nil)) (am_Kl (fun _ h => absurd h List.not_mem_nil)) (am_Cl (fun _ h => absurd h List.not_mem_nil))
abbrev rmX7_feed : Room := { frames := 1, cells := 0, slots := 0, locals := 25 }
abbrev wsX7_feed : List Jvm.Cond := Jvm.Cond.code yX7_feed cX7_feed 2 (some .int) :: am_B
set_option maxRecDepth 100000 in
set_option maxHeartbeats 4000000 in
theorem snX7_feed : am_Snd vwCl yX7_feed wsX7_feed rmX7_feed sX7_feed := am_snd_of (cc := cX7_feed) (by decide) rfl (by decide +kernel) (am_Fl (List.forall_mem_cons.mpr ⟨fdX7 (am_lt rfl) wd_455, List.forall_mem_cons.mpr ⟨fdX7 (am_lt rfl) wd_454, fun _ h => absurd h List.not_mem_nil⟩⟩)) (am_Kl (List.forall_mem_cons.mpr ⟨List.mem_cons_of_mem _ wd_456, fun _ h => absurd h List.not_mem_nil⟩)) (am_Cl (List.forall_mem_cons.mpr ⟨am_cal_S snX7_in (am_gS wd_457 wd_458 wd_459 wd_460) rfl rfl rfl (by decide +kernel) ⟨am_le rfl, am_le rfl⟩, fun _ h => absurd h List.not_mem_nil⟩))
abbrev rmX7_end : Room := { frames := 1, cells := 0, slots := 0, locals := 25 }
abbrev wsX7_end : List Jvm.Cond := Jvm.Cond.code yX7_end cX7_end 3 (some .int) :: am_B
set_option maxRecDepth 100000 in
set_option maxHeartbeats 4000000 in
theorem snX7_end : am_Snd vwCl yX7_end wsX7_end rmX7_end sX7_end := am_snd_of (cc := cX7_end) (by decide) rfl (by decide +kernel) (am_Fl (List.forall_mem_cons.mpr ⟨fdX7 (am_lt rfl) wd_455, fun _ h => absurd h List.not_mem_nil⟩)) (am_Kl (fun _ h => absurd h List.not_mem_nil)) (am_Cl (List.forall_mem_cons.mpr ⟨am_cal_S snX7_in (am_gS wd_457 wd_458 wd_459 wd_460) rfl rfl rfl (by decide +kernel) ⟨am_le rfl, am_le rfl⟩, fun _ h => absurd h List.not_mem_nil⟩))
abbrev rmX7_byteAt : Room := { frames := 0, cells := 0, slots := 0, locals := 0 }
abbrev wsX7_byteAt : List Jvm.Cond := Jvm.Cond.code yX7_byteAt cX7_byteAt 2 (some .int) :: am_B
set_option maxRecDepth 100000 in
set_option maxHeartbeats 4000000 in
theorem snX7_byteAt : am_Snd vwCl yX7_byteAt wsX7_byteAt rmX7_byteAt sX7_byteAt := am_snd_of (cc := cX7_byteAt) (by decide) rfl (by decide +kernel) (am_Fl (List.forall_mem_cons.mpr ⟨fdX7 (am_lt rfl) wd_455, List.forall_mem_cons.mpr ⟨fdX7 (am_lt rfl) wd_454, fun _ h => absurd h List.not_mem_nil⟩⟩)) (am_Kl (fun _ h => absurd h List.not_mem_nil)) (am_Cl (fun _ h => absurd h List.not_mem_nil))
abbrev rmX7_fails : Room := { frames := 0, cells := 0, slots := 0, locals := 0 }
abbrev wsX7_fails : List Jvm.Cond := Jvm.Cond.code yX7_fails cX7_fails 2 none :: am_B
set_option maxRecDepth 100000 in
set_option maxHeartbeats 4000000 in
theorem snX7_fails : am_Snd vwCl yX7_fails wsX7_fails rmX7_fails sX7_fails := am_snd_of (cc := cX7_fails) (by decide) rfl (by decide +kernel) (am_Fl (List.forall_mem_cons.mpr ⟨fdX7 (am_lt rfl) wd_463, List.forall_mem_cons.mpr ⟨fdX7 (am_lt rfl) wd_462, List.forall_mem_cons.mpr ⟨fdX7 (am_lt rfl) wd_461, fun _ h => absurd h List.not_mem_nil⟩⟩⟩)) (am_Kl (fun _ h => absurd h List.not_mem_nil)) (am_Cl (fun _ h => absurd h List.not_mem_nil))
abbrev rmX7_nameHere : Room := { frames := 1, cells := 0, slots := 0, locals := 21 }
abbrev wsX7_nameHere : List Jvm.Cond := Jvm.Cond.code yX7_nameHere cX7_nameHere 4 (some .int) :: am_B
set_option maxRecDepth 100000 in
set_option maxHeartbeats 4000000 in
theorem snX7_nameHere : am_Snd vwCl yX7_nameHere wsX7_nameHere rmX7_nameHere sX7_nameHere := am_snd_of (cc := cX7_nameHere) (by decide) rfl (by decide +kernel) (am_Fl (List.forall_mem_cons.mpr ⟨fdX7 (am_lt rfl) wd_467, List.forall_mem_cons.mpr ⟨fdX7 (am_lt rfl) wd_466, List.forall_mem_cons.mpr ⟨fdX7 (am_lt rfl) wd_462, List.forall_mem_cons.mpr ⟨fdX7 (am_lt rfl) wd_465, List.forall_mem_cons.mpr ⟨fdX7 (am_lt rfl) wd_464, fun _ h => absurd h List.not_mem_nil⟩⟩⟩⟩⟩)) (am_Kl (fun _ h => absurd h List.not_mem_nil)) (am_Cl (List.forall_mem_cons.mpr ⟨am_cal_V (r := (RX7, TX7, 29)) snX7_byteAt rfl (by decide) (am_gV wd_468 wd_469 wd_470 wd_459 wd_471) rfl rfl rfl (by decide +kernel) ⟨am_le rfl, am_le rfl⟩, fun _ h => absurd h List.not_mem_nil⟩))
abbrev rmX7_step : Room := { frames := 1, cells := 0, slots := 0, locals := 25 }
abbrev wsX7_step : List Jvm.Cond := Jvm.Cond.code yX7_step cX7_step 2 none :: am_B
set_option maxRecDepth 100000 in
set_option maxHeartbeats 4000000 in
theorem snX7_step : am_Snd vwCl yX7_step wsX7_step rmX7_step sX7_step := am_snd_of (cc := cX7_step) (by decide) rfl (by decide +kernel) (am_Fl (List.forall_mem_cons.mpr ⟨fdX7 (am_lt rfl) wd_463, List.forall_mem_cons.mpr ⟨fdX7 (am_lt rfl) wd_466, List.forall_mem_cons.mpr ⟨fdX7 (am_lt rfl) wd_462, List.forall_mem_cons.mpr ⟨fdX7 (am_lt rfl) wd_472, List.forall_mem_cons.mpr ⟨fdX7 (am_lt rfl) wd_467, fun _ h => absurd h List.not_mem_nil⟩⟩⟩⟩⟩)) (am_Kl (List.forall_mem_cons.mpr ⟨List.mem_cons_of_mem _ wd_476, List.forall_mem_cons.mpr ⟨List.mem_cons_of_mem _ wd_475, List.forall_mem_cons.mpr ⟨List.mem_cons_of_mem _ wd_474, List.forall_mem_cons.mpr ⟨List.mem_cons_of_mem _ wd_473, fun _ h => absurd h List.not_mem_nil⟩⟩⟩⟩)) (am_Cl (List.forall_mem_cons.mpr ⟨am_cal_V (r := (RX7, TX7, 29)) snX7_byteAt rfl (by decide) (am_gV wd_468 wd_469 wd_470 wd_459 wd_471) rfl rfl rfl (by decide +kernel) ⟨am_le rfl, am_le rfl⟩, List.forall_mem_cons.mpr ⟨am_cal_S snX7_in (am_gS wd_457 wd_458 wd_459 wd_460) rfl rfl rfl (by decide +kernel) ⟨am_le rfl, am_le rfl⟩, List.forall_mem_cons.mpr ⟨am_cal_V (r := (RX7, TX7, 29)) snX7_fails rfl (by decide) (am_gV wd_477 wd_478 wd_479 wd_459 wd_480) rfl rfl rfl (by decide +kernel) ⟨am_le rfl, am_le rfl⟩, fun _ h => absurd h List.not_mem_nil⟩⟩⟩))
abbrev rmX7_other : Room := { frames := 2, cells := 0, slots := 0, locals := 46 }
abbrev wsX7_other : List Jvm.Cond := Jvm.Cond.code yX7_other cX7_other 5 (some .int) :: am_B
set_option maxRecDepth 100000 in
set_option maxHeartbeats 4000000 in
theorem snX7_other : am_Snd vwCl yX7_other wsX7_other rmX7_other sX7_other := am_snd_of (cc := cX7_other) (by decide) rfl (by decide +kernel) (am_Fl (List.forall_mem_cons.mpr ⟨fdX7 (am_lt rfl) wd_463, List.forall_mem_cons.mpr ⟨fdX7 (am_lt rfl) wd_467, List.forall_mem_cons.mpr ⟨fdX7 (am_lt rfl) wd_472, fun _ h => absurd h List.not_mem_nil⟩⟩⟩)) (am_Kl (fun _ h => absurd h List.not_mem_nil)) (am_Cl (List.forall_mem_cons.mpr ⟨am_cal_V (r := (RX7, TX7, 29)) snX7_fails rfl (by decide) (am_gV wd_477 wd_478 wd_479 wd_459 wd_480) rfl rfl rfl (by decide +kernel) ⟨am_le rfl, am_le rfl⟩, List.forall_mem_cons.mpr ⟨am_cal_S snX7_in (am_gS wd_457 wd_458 wd_459 wd_460) rfl rfl rfl (by decide +kernel) ⟨am_le rfl, am_le rfl⟩, List.forall_mem_cons.mpr ⟨am_cal_V (r := (RX7, TX7, 29)) snX7_step rfl (by decide) (am_gV wd_481 wd_482 wd_483 wd_459 wd_484) rfl rfl rfl (by decide +kernel) ⟨am_le rfl, am_le rfl⟩, fun _ h => absurd h List.not_mem_nil⟩⟩⟩))
abbrev rmX7_readMore : Room := { frames := 3, cells := 0, slots := 0, locals := 70 }
abbrev wsX7_readMore : List Jvm.Cond := Jvm.Cond.code yX7_readMore cX7_readMore 4 none :: am_B
set_option maxRecDepth 100000 in
set_option maxHeartbeats 4000000 in
theorem snX7_readMore : am_Snd vwCl yX7_readMore wsX7_readMore rmX7_readMore sX7_readMore := am_snd_of (cc := cX7_readMore) (by decide) rfl (by decide +kernel) (am_Fl (List.forall_mem_cons.mpr ⟨fdX7 (am_lt rfl) wd_487, List.forall_mem_cons.mpr ⟨fdX7 (am_lt rfl) wd_486, List.forall_mem_cons.mpr ⟨fdX7 (am_lt rfl) wd_485, fun _ h => absurd h List.not_mem_nil⟩⟩⟩)) (am_Kl (fun _ h => absurd h List.not_mem_nil)) (am_Cl (List.forall_mem_cons.mpr ⟨am_cal_V (r := (RX7, TX7, 29)) snX7_other rfl (by decide) (am_gV wd_488 wd_489 wd_490 wd_459 wd_491) rfl rfl rfl (by decide +kernel) ⟨am_le rfl, am_le rfl⟩, fun _ h => absurd h List.not_mem_nil⟩))
abbrev rmX7_readLine : Room := { frames := 4, cells := 0, slots := 0, locals := 93 }
abbrev wsX7_readLine : List Jvm.Cond := Jvm.Cond.code yX7_readLine cX7_readLine 2 none :: am_B
set_option maxRecDepth 100000 in
set_option maxHeartbeats 4000000 in
theorem snX7_readLine : am_Snd vwCl yX7_readLine wsX7_readLine rmX7_readLine sX7_readLine := am_snd_of (cc := cX7_readLine) (by decide) rfl (by decide +kernel) (am_Fl (List.forall_mem_cons.mpr ⟨fdX7 (am_lt rfl) wd_487, List.forall_mem_cons.mpr ⟨fdX7 (am_lt rfl) wd_492, List.forall_mem_cons.mpr ⟨fdX7 (am_lt rfl) wd_463, List.forall_mem_cons.mpr ⟨fdX7 (am_lt rfl) wd_467, fun _ h => absurd h List.not_mem_nil⟩⟩⟩⟩)) (am_Kl (List.forall_mem_cons.mpr ⟨List.mem_cons_of_mem _ wd_495, List.forall_mem_cons.mpr ⟨List.mem_cons_of_mem _ wd_494, List.forall_mem_cons.mpr ⟨List.mem_cons_of_mem _ wd_493, fun _ h => absurd h List.not_mem_nil⟩⟩⟩)) (am_Cl (List.forall_mem_cons.mpr ⟨am_cal_V (r := (RX7, TX7, 29)) snX7_nameHere rfl (by decide) (am_gV wd_500 wd_501 wd_502 wd_459 wd_503) rfl rfl rfl (by decide +kernel) ⟨am_le rfl, am_le rfl⟩, List.forall_mem_cons.mpr ⟨am_cal_S snX7_in (am_gS wd_457 wd_458 wd_459 wd_460) rfl rfl rfl (by decide +kernel) ⟨am_le rfl, am_le rfl⟩, List.forall_mem_cons.mpr ⟨am_cal_V (r := (RX7, TX7, 29)) snX7_fails rfl (by decide) (am_gV wd_477 wd_478 wd_479 wd_459 wd_480) rfl rfl rfl (by decide +kernel) ⟨am_le rfl, am_le rfl⟩, List.forall_mem_cons.mpr ⟨am_cal_V (r := (RX7, TX7, 29)) snX7_step rfl (by decide) (am_gV wd_481 wd_482 wd_483 wd_459 wd_484) rfl rfl rfl (by decide +kernel) ⟨am_le rfl, am_le rfl⟩, List.forall_mem_cons.mpr ⟨am_cal_V (r := (RX7, TX7, 29)) snX7_readMore rfl (by decide) (am_gV wd_496 wd_497 wd_498 wd_459 wd_499) rfl rfl rfl (by decide +kernel) ⟨am_le rfl, am_le rfl⟩, fun _ h => absurd h List.not_mem_nil⟩⟩⟩⟩⟩))
abbrev rmX7_text : Room := { frames := 5, cells := 0, slots := 0, locals := 114 }
abbrev wsX7_text : List Jvm.Cond := Jvm.Cond.code yX7_text cX7_text 3 (some .int) :: am_B
set_option maxRecDepth 100000 in
set_option maxHeartbeats 4000000 in
theorem snX7_text : am_Snd vwCl yX7_text wsX7_text rmX7_text sX7_text := am_snd_of (cc := cX7_text) (by decide) rfl (by decide +kernel) (am_Fl (List.forall_mem_cons.mpr ⟨fdX7 (am_lt rfl) wd_463, List.forall_mem_cons.mpr ⟨fdX7 (am_lt rfl) wd_466, List.forall_mem_cons.mpr ⟨fdX7 (am_lt rfl) wd_487, List.forall_mem_cons.mpr ⟨fdX7 (am_lt rfl) wd_492, List.forall_mem_cons.mpr ⟨fdX7 (am_lt rfl) wd_485, List.forall_mem_cons.mpr ⟨fdX7 (am_lt rfl) wd_486, List.forall_mem_cons.mpr ⟨fdX7 (am_lt rfl) wd_467, List.forall_mem_cons.mpr ⟨fdX7 (am_lt rfl) wd_455, List.forall_mem_cons.mpr ⟨fdX7 (am_lt rfl) wd_508, List.forall_mem_cons.mpr ⟨fdX7 (am_lt rfl) wd_461, List.forall_mem_cons.mpr ⟨fdX7 (am_lt rfl) wd_507, List.forall_mem_cons.mpr ⟨fdX7 (am_lt rfl) wd_506, List.forall_mem_cons.mpr ⟨fdX7 (am_lt rfl) wd_505, List.forall_mem_cons.mpr ⟨fdX7 (am_lt rfl) wd_504, fun _ h => absurd h List.not_mem_nil⟩⟩⟩⟩⟩⟩⟩⟩⟩⟩⟩⟩⟩⟩)) (am_Kl (fun _ h => absurd h List.not_mem_nil)) (am_Cl (List.forall_mem_cons.mpr ⟨am_cal_V (r := (RX7, TX7, 29)) snX7_step rfl (by decide) (am_gV wd_481 wd_482 wd_483 wd_459 wd_484) rfl rfl rfl (by decide +kernel) ⟨am_le rfl, am_le rfl⟩, List.forall_mem_cons.mpr ⟨am_cal_V (r := (RX7, TX7, 29)) snX7_readLine rfl (by decide) (am_gV wd_509 wd_510 wd_511 wd_459 wd_512) rfl rfl rfl (by decide +kernel) ⟨am_le rfl, am_le rfl⟩, List.forall_mem_cons.mpr ⟨am_cal_V (r := (RX7, TX7, 29)) snX7_fails rfl (by decide) (am_gV wd_477 wd_478 wd_479 wd_459 wd_480) rfl rfl rfl (by decide +kernel) ⟨am_le rfl, am_le rfl⟩, fun _ h => absurd h List.not_mem_nil⟩⟩⟩))
abbrev rmX7_fault : Room := { frames := 0, cells := 0, slots := 0, locals := 0 }
abbrev wsX7_fault : List Jvm.Cond := Jvm.Cond.code yX7_fault cX7_fault 1 (some .int) :: am_B
set_option maxRecDepth 100000 in
set_option maxHeartbeats 4000000 in
theorem snX7_fault : am_Snd vwCl yX7_fault wsX7_fault rmX7_fault sX7_fault := am_snd_of (cc := cX7_fault) (by decide) rfl (by decide +kernel) (am_Fl (List.forall_mem_cons.mpr ⟨fdX7 (am_lt rfl) wd_508, fun _ h => absurd h List.not_mem_nil⟩)) (am_Kl (fun _ h => absurd h List.not_mem_nil)) (am_Cl (fun _ h => absurd h List.not_mem_nil))
abbrev rmX7_isOne : Room := { frames := 1, cells := 0, slots := 0, locals := 25 }
abbrev wsX7_isOne : List Jvm.Cond := Jvm.Cond.code yX7_isOne cX7_isOne 2 (some .boolean) :: am_B
set_option maxRecDepth 100000 in
set_option maxHeartbeats 4000000 in
theorem snX7_isOne : am_Snd vwCl yX7_isOne wsX7_isOne rmX7_isOne sX7_isOne := am_snd_of (cc := cX7_isOne) (by decide) rfl (by decide +kernel) (am_Fl (List.forall_mem_cons.mpr ⟨fdX7 (am_lt rfl) wd_506, fun _ h => absurd h List.not_mem_nil⟩)) (am_Kl (fun _ h => absurd h List.not_mem_nil)) (am_Cl (List.forall_mem_cons.mpr ⟨am_cal_S snX7_in (am_gS wd_457 wd_458 wd_459 wd_460) rfl rfl rfl (by decide +kernel) ⟨am_le rfl, am_le rfl⟩, fun _ h => absurd h List.not_mem_nil⟩))
abbrev rmX7_whoOn : Room := { frames := 0, cells := 0, slots := 0, locals := 0 }
abbrev wsX7_whoOn : List Jvm.Cond := Jvm.Cond.code yX7_whoOn cX7_whoOn 5 (some .int) :: am_B
set_option maxRecDepth 100000 in
set_option maxHeartbeats 4000000 in
theorem snX7_whoOn : am_Snd vwCl yX7_whoOn wsX7_whoOn rmX7_whoOn sX7_whoOn := am_snd_of (cc := cX7_whoOn) (by decide) rfl (by decide +kernel) (am_Fl (List.forall_mem_cons.mpr ⟨fdX7 (am_lt rfl) wd_506, List.forall_mem_cons.mpr ⟨fdX7 (am_lt rfl) wd_507, fun _ h => absurd h List.not_mem_nil⟩⟩)) (am_Kl (fun _ h => absurd h List.not_mem_nil)) (am_Cl (fun _ h => absurd h List.not_mem_nil))
abbrev rmX7_hereNow : Room := { frames := 1, cells := 0, slots := 0, locals := 24 }
abbrev wsX7_hereNow : List Jvm.Cond := Jvm.Cond.code yX7_hereNow cX7_hereNow 1 (some .int) :: am_B
set_option maxRecDepth 100000 in
set_option maxHeartbeats 4000000 in
theorem snX7_hereNow : am_Snd vwCl yX7_hereNow wsX7_hereNow rmX7_hereNow sX7_hereNow := am_snd_of (cc := cX7_hereNow) (by decide) rfl (by decide +kernel) (am_Fl (fun _ h => absurd h List.not_mem_nil)) (am_Kl (fun _ h => absurd h List.not_mem_nil)) (am_Cl (List.forall_mem_cons.mpr ⟨am_cal_V (r := (RX7, TX7, 29)) snX7_whoOn rfl (by decide) (am_gV wd_513 wd_514 wd_515 wd_459 wd_516) rfl rfl rfl (by decide +kernel) ⟨am_le rfl, am_le rfl⟩, fun _ h => absurd h List.not_mem_nil⟩))
abbrev rmX7_seatsOn : Room := { frames := 0, cells := 0, slots := 0, locals := 0 }
abbrev wsX7_seatsOn : List Jvm.Cond := Jvm.Cond.code yX7_seatsOn cX7_seatsOn 2 (some .int) :: am_B
set_option maxRecDepth 100000 in
set_option maxHeartbeats 4000000 in
theorem snX7_seatsOn : am_Snd vwCl yX7_seatsOn wsX7_seatsOn rmX7_seatsOn sX7_seatsOn := am_snd_of (cc := cX7_seatsOn) (by decide) rfl (by decide +kernel) (am_Fl (List.forall_mem_cons.mpr ⟨fdX7 (am_lt rfl) wd_507, fun _ h => absurd h List.not_mem_nil⟩)) (am_Kl (fun _ h => absurd h List.not_mem_nil)) (am_Cl (fun _ h => absurd h List.not_mem_nil))
abbrev rmX7_rule : Room := { frames := 1, cells := 0, slots := 0, locals := 25 }
abbrev wsX7_rule : List Jvm.Cond := Jvm.Cond.code yX7_rule cX7_rule 2 (some .int) :: am_B
set_option maxRecDepth 100000 in
set_option maxHeartbeats 4000000 in
theorem snX7_rule : am_Snd vwCl yX7_rule wsX7_rule rmX7_rule sX7_rule := am_snd_of (cc := cX7_rule) (by decide) rfl (by decide +kernel) (am_Fl (List.forall_mem_cons.mpr ⟨fdX7 (am_lt rfl) wd_506, List.forall_mem_cons.mpr ⟨fdX7 (am_lt rfl) wd_507, fun _ h => absurd h List.not_mem_nil⟩⟩)) (am_Kl (List.forall_mem_cons.mpr ⟨List.mem_cons_of_mem _ wd_493, List.forall_mem_cons.mpr ⟨List.mem_cons_of_mem _ wd_517, fun _ h => absurd h List.not_mem_nil⟩⟩)) (am_Cl (List.forall_mem_cons.mpr ⟨am_cal_V (r := (RX7, TX7, 29)) snX7_seatsOn rfl (by decide) (am_gV wd_518 wd_519 wd_520 wd_459 wd_521) rfl rfl rfl (by decide +kernel) ⟨am_le rfl, am_le rfl⟩, List.forall_mem_cons.mpr ⟨am_cal_S snX7_in (am_gS wd_457 wd_458 wd_459 wd_460) rfl rfl rfl (by decide +kernel) ⟨am_le rfl, am_le rfl⟩, List.forall_mem_cons.mpr ⟨am_cal_V (r := (RX7, TX7, 29)) snX7_whoOn rfl (by decide) (am_gV wd_513 wd_514 wd_515 wd_459 wd_516) rfl rfl rfl (by decide +kernel) ⟨am_le rfl, am_le rfl⟩, fun _ h => absurd h List.not_mem_nil⟩⟩⟩))
abbrev rmX7_one : Room := { frames := 2, cells := 0, slots := 0, locals := 46 }
abbrev wsX7_one : List Jvm.Cond := Jvm.Cond.code yX7_one cX7_one 3 (some .int) :: am_B
set_option maxRecDepth 100000 in
set_option maxHeartbeats 4000000 in
theorem snX7_one : am_Snd vwCl yX7_one wsX7_one rmX7_one sX7_one := am_snd_of (cc := cX7_one) (by decide) rfl (by decide +kernel) (am_Fl (List.forall_mem_cons.mpr ⟨fdX7 (am_lt rfl) wd_507, fun _ h => absurd h List.not_mem_nil⟩)) (am_Kl (List.forall_mem_cons.mpr ⟨List.mem_cons_of_mem _ wd_493, fun _ h => absurd h List.not_mem_nil⟩)) (am_Cl (List.forall_mem_cons.mpr ⟨am_cal_V (r := (RX7, TX7, 29)) snX7_isOne rfl (by decide) (am_gV wd_522 wd_523 wd_524 wd_459 wd_525) rfl rfl rfl (by decide +kernel) ⟨am_le rfl, am_le rfl⟩, List.forall_mem_cons.mpr ⟨am_cal_S snX7_in (am_gS wd_457 wd_458 wd_459 wd_460) rfl rfl rfl (by decide +kernel) ⟨am_le rfl, am_le rfl⟩, fun _ h => absurd h List.not_mem_nil⟩⟩))
abbrev rmX7_counts : Room := { frames := 0, cells := 0, slots := 0, locals := 0 }
abbrev wsX7_counts : List Jvm.Cond := Jvm.Cond.code yX7_counts cX7_counts 2 (some .boolean) :: am_B
set_option maxRecDepth 100000 in
set_option maxHeartbeats 4000000 in
theorem snX7_counts : am_Snd vwCl yX7_counts wsX7_counts rmX7_counts sX7_counts := am_snd_of (cc := cX7_counts) (by decide) rfl (by decide +kernel) (am_Fl (fun _ h => absurd h List.not_mem_nil)) (am_Kl (fun _ h => absurd h List.not_mem_nil)) (am_Cl (fun _ h => absurd h List.not_mem_nil))
abbrev rmX7_areAlike : Room := { frames := 1, cells := 0, slots := 0, locals := 21 }
abbrev wsX7_areAlike : List Jvm.Cond := Jvm.Cond.code yX7_areAlike cX7_areAlike 6 (some .boolean) :: am_B
set_option maxRecDepth 100000 in
set_option maxHeartbeats 4000000 in
theorem snX7_areAlike : am_Snd vwCl yX7_areAlike wsX7_areAlike rmX7_areAlike sX7_areAlike := am_snd_of (cc := cX7_areAlike) (by decide) rfl (by decide +kernel) (am_Fl (List.forall_mem_cons.mpr ⟨fdX7 (am_lt rfl) wd_507, fun _ h => absurd h List.not_mem_nil⟩)) (am_Kl (fun _ h => absurd h List.not_mem_nil)) (am_Cl (List.forall_mem_cons.mpr ⟨am_cal_S snX7_counts (am_gS wd_526 wd_527 wd_459 wd_528) rfl rfl rfl (by decide +kernel) ⟨am_le rfl, am_le rfl⟩, fun _ h => absurd h List.not_mem_nil⟩))
abbrev rmX7_alikeWith : Room := { frames := 2, cells := 0, slots := 0, locals := 46 }
abbrev wsX7_alikeWith : List Jvm.Cond := Jvm.Cond.code yX7_alikeWith cX7_alikeWith 5 (some .int) :: am_B
set_option maxRecDepth 100000 in
set_option maxHeartbeats 4000000 in
theorem snX7_alikeWith : am_Snd vwCl yX7_alikeWith wsX7_alikeWith rmX7_alikeWith sX7_alikeWith := am_snd_of (cc := cX7_alikeWith) (by decide) rfl (by decide +kernel) (am_Fl (List.forall_mem_cons.mpr ⟨fdX7 (am_lt rfl) wd_506, fun _ h => absurd h List.not_mem_nil⟩)) (am_Kl (fun _ h => absurd h List.not_mem_nil)) (am_Cl (List.forall_mem_cons.mpr ⟨am_cal_V (r := (RX7, TX7, 29)) snX7_areAlike rfl (by decide) (am_gV wd_529 wd_530 wd_531 wd_459 wd_532) rfl rfl rfl (by decide +kernel) ⟨am_le rfl, am_le rfl⟩, fun _ h => absurd h List.not_mem_nil⟩))
abbrev rmX7_isUnlike : Room := { frames := 3, cells := 0, slots := 0, locals := 70 }
abbrev wsX7_isUnlike : List Jvm.Cond := Jvm.Cond.code yX7_isUnlike cX7_isUnlike 4 (some .boolean) :: am_B
set_option maxRecDepth 100000 in
set_option maxHeartbeats 4000000 in
theorem snX7_isUnlike : am_Snd vwCl yX7_isUnlike wsX7_isUnlike rmX7_isUnlike sX7_isUnlike := am_snd_of (cc := cX7_isUnlike) (by decide) rfl (by decide +kernel) (am_Fl (List.forall_mem_cons.mpr ⟨fdX7 (am_lt rfl) wd_506, fun _ h => absurd h List.not_mem_nil⟩)) (am_Kl (fun _ h => absurd h List.not_mem_nil)) (am_Cl (List.forall_mem_cons.mpr ⟨am_cal_V (r := (RX7, TX7, 29)) snX7_alikeWith rfl (by decide) (am_gV wd_533 wd_534 wd_535 wd_459 wd_536) rfl rfl rfl (by decide +kernel) ⟨am_le rfl, am_le rfl⟩, fun _ h => absurd h List.not_mem_nil⟩))
abbrev rmX7_bitsOf : Room := { frames := 0, cells := 0, slots := 0, locals := 0 }
abbrev wsX7_bitsOf : List Jvm.Cond := Jvm.Cond.code yX7_bitsOf cX7_bitsOf 3 (some .int) :: am_B
set_option maxRecDepth 100000 in
set_option maxHeartbeats 4000000 in
theorem snX7_bitsOf : am_Snd vwCl yX7_bitsOf wsX7_bitsOf rmX7_bitsOf sX7_bitsOf := am_snd_of (cc := cX7_bitsOf) (by decide) rfl (by decide +kernel) (am_Fl (fun _ h => absurd h List.not_mem_nil)) (am_Kl (fun _ h => absurd h List.not_mem_nil)) (am_Cl (fun _ h => absurd h List.not_mem_nil))
abbrev rmX7_alike : Room := { frames := 3, cells := 0, slots := 0, locals := 70 }
abbrev wsX7_alike : List Jvm.Cond := Jvm.Cond.code yX7_alike cX7_alike 2 (some .int) :: am_B
set_option maxRecDepth 100000 in
set_option maxHeartbeats 4000000 in
theorem snX7_alike : am_Snd vwCl yX7_alike wsX7_alike rmX7_alike sX7_alike := am_snd_of (cc := cX7_alike) (by decide) rfl (by decide +kernel) (am_Fl (List.forall_mem_cons.mpr ⟨fdX7 (am_lt rfl) wd_506, fun _ h => absurd h List.not_mem_nil⟩)) (am_Kl (fun _ h => absurd h List.not_mem_nil)) (am_Cl (List.forall_mem_cons.mpr ⟨am_cal_V (r := (RX7, TX7, 29)) snX7_isOne rfl (by decide) (am_gV wd_522 wd_523 wd_524 wd_459 wd_525) rfl rfl rfl (by decide +kernel) ⟨am_le rfl, am_le rfl⟩, List.forall_mem_cons.mpr ⟨am_cal_V (r := (RX7, TX7, 29)) snX7_alikeWith rfl (by decide) (am_gV wd_533 wd_534 wd_535 wd_459 wd_536) rfl rfl rfl (by decide +kernel) ⟨am_le rfl, am_le rfl⟩, fun _ h => absurd h List.not_mem_nil⟩⟩))
abbrev rmX7_lays : Room := { frames := 0, cells := 0, slots := 0, locals := 0 }
abbrev wsX7_lays : List Jvm.Cond := Jvm.Cond.code yX7_lays cX7_lays 5 (some .int) :: am_B
set_option maxRecDepth 100000 in
set_option maxHeartbeats 4000000 in
theorem snX7_lays : am_Snd vwCl yX7_lays wsX7_lays rmX7_lays sX7_lays := am_snd_of (cc := cX7_lays) (by decide) rfl (by decide +kernel) (am_Fl (List.forall_mem_cons.mpr ⟨fdX7 (am_lt rfl) wd_507, fun _ h => absurd h List.not_mem_nil⟩)) (am_Kl (fun _ h => absurd h List.not_mem_nil)) (am_Cl (fun _ h => absurd h List.not_mem_nil))
abbrev rmX7_is : Room := { frames := 0, cells := 0, slots := 0, locals := 0 }
abbrev wsX7_is : List Jvm.Cond := Jvm.Cond.code yX7_is cX7_is 4 (some .boolean) :: am_B
set_option maxRecDepth 100000 in
set_option maxHeartbeats 4000000 in
theorem snX7_is : am_Snd vwCl yX7_is wsX7_is rmX7_is sX7_is := am_snd_of (cc := cX7_is) (by decide) rfl (by decide +kernel) (am_Fl (List.forall_mem_cons.mpr ⟨fdX7 (am_lt rfl) wd_507, fun _ h => absurd h List.not_mem_nil⟩)) (am_Kl (fun _ h => absurd h List.not_mem_nil)) (am_Cl (fun _ h => absurd h List.not_mem_nil))
abbrev rmX7_turn : Room := { frames := 2, cells := 0, slots := 0, locals := 46 }
abbrev wsX7_turn : List Jvm.Cond := Jvm.Cond.code yX7_turn cX7_turn 4 (some .int) :: am_B
set_option maxRecDepth 100000 in
set_option maxHeartbeats 4000000 in
theorem snX7_turn : am_Snd vwCl yX7_turn wsX7_turn rmX7_turn sX7_turn := am_snd_of (cc := cX7_turn) (by decide) rfl (by decide +kernel) (am_Fl (fun _ h => absurd h List.not_mem_nil)) (am_Kl (List.forall_mem_cons.mpr ⟨List.mem_cons_of_mem _ wd_537, List.forall_mem_cons.mpr ⟨List.mem_cons_of_mem _ wd_494, fun _ h => absurd h List.not_mem_nil⟩⟩)) (am_Cl (List.forall_mem_cons.mpr ⟨am_cal_V (r := (RX7, TX7, 29)) snX7_isOne rfl (by decide) (am_gV wd_522 wd_523 wd_524 wd_459 wd_525) rfl rfl rfl (by decide +kernel) ⟨am_le rfl, am_le rfl⟩, List.forall_mem_cons.mpr ⟨am_cal_S snX7_in (am_gS wd_457 wd_458 wd_459 wd_460) rfl rfl rfl (by decide +kernel) ⟨am_le rfl, am_le rfl⟩, List.forall_mem_cons.mpr ⟨am_cal_V (r := (RX7, TX7, 29)) snX7_is rfl (by decide) (am_gV wd_542 wd_543 wd_544 wd_459 wd_545) rfl rfl rfl (by decide +kernel) ⟨am_le rfl, am_le rfl⟩, List.forall_mem_cons.mpr ⟨am_cal_V (r := (RX7, TX7, 29)) snX7_lays rfl (by decide) (am_gV wd_538 wd_539 wd_540 wd_459 wd_541) rfl rfl rfl (by decide +kernel) ⟨am_le rfl, am_le rfl⟩, fun _ h => absurd h List.not_mem_nil⟩⟩⟩⟩))
abbrev rmX7_teach : Room := { frames := 2, cells := 0, slots := 0, locals := 46 }
abbrev wsX7_teach : List Jvm.Cond := Jvm.Cond.code yX7_teach cX7_teach 3 (some .int) :: am_B
set_option maxRecDepth 100000 in
set_option maxHeartbeats 4000000 in
theorem snX7_teach : am_Snd vwCl yX7_teach wsX7_teach rmX7_teach sX7_teach := am_snd_of (cc := cX7_teach) (by decide) rfl (by decide +kernel) (am_Fl (fun _ h => absurd h List.not_mem_nil)) (am_Kl (List.forall_mem_cons.mpr ⟨List.mem_cons_of_mem _ wd_546, fun _ h => absurd h List.not_mem_nil⟩)) (am_Cl (List.forall_mem_cons.mpr ⟨am_cal_V (r := (RX7, TX7, 29)) snX7_isOne rfl (by decide) (am_gV wd_522 wd_523 wd_524 wd_459 wd_525) rfl rfl rfl (by decide +kernel) ⟨am_le rfl, am_le rfl⟩, List.forall_mem_cons.mpr ⟨am_cal_S snX7_in (am_gS wd_457 wd_458 wd_459 wd_460) rfl rfl rfl (by decide +kernel) ⟨am_le rfl, am_le rfl⟩, List.forall_mem_cons.mpr ⟨am_cal_V (r := (RX7, TX7, 29)) snX7_is rfl (by decide) (am_gV wd_542 wd_543 wd_544 wd_459 wd_545) rfl rfl rfl (by decide +kernel) ⟨am_le rfl, am_le rfl⟩, List.forall_mem_cons.mpr ⟨am_cal_V (r := (RX7, TX7, 29)) snX7_lays rfl (by decide) (am_gV wd_538 wd_539 wd_540 wd_459 wd_541) rfl rfl rfl (by decide +kernel) ⟨am_le rfl, am_le rfl⟩, fun _ h => absurd h List.not_mem_nil⟩⟩⟩⟩))
abbrev rmX7_calm : Room := { frames := 2, cells := 0, slots := 0, locals := 46 }
abbrev wsX7_calm : List Jvm.Cond := Jvm.Cond.code yX7_calm cX7_calm 3 (some .int) :: am_B
set_option maxRecDepth 100000 in
set_option maxHeartbeats 4000000 in
theorem snX7_calm : am_Snd vwCl yX7_calm wsX7_calm rmX7_calm sX7_calm := am_snd_of (cc := cX7_calm) (by decide) rfl (by decide +kernel) (am_Fl (fun _ h => absurd h List.not_mem_nil)) (am_Kl (List.forall_mem_cons.mpr ⟨List.mem_cons_of_mem _ wd_517, fun _ h => absurd h List.not_mem_nil⟩)) (am_Cl (List.forall_mem_cons.mpr ⟨am_cal_V (r := (RX7, TX7, 29)) snX7_isOne rfl (by decide) (am_gV wd_522 wd_523 wd_524 wd_459 wd_525) rfl rfl rfl (by decide +kernel) ⟨am_le rfl, am_le rfl⟩, List.forall_mem_cons.mpr ⟨am_cal_S snX7_in (am_gS wd_457 wd_458 wd_459 wd_460) rfl rfl rfl (by decide +kernel) ⟨am_le rfl, am_le rfl⟩, List.forall_mem_cons.mpr ⟨am_cal_V (r := (RX7, TX7, 29)) snX7_lays rfl (by decide) (am_gV wd_538 wd_539 wd_540 wd_459 wd_541) rfl rfl rfl (by decide +kernel) ⟨am_le rfl, am_le rfl⟩, fun _ h => absurd h List.not_mem_nil⟩⟩⟩))
abbrev rmX7_seats : Room := { frames := 1, cells := 0, slots := 0, locals := 25 }
abbrev wsX7_seats : List Jvm.Cond := Jvm.Cond.code yX7_seats cX7_seats 2 (some .int) :: am_B
set_option maxRecDepth 100000 in
set_option maxHeartbeats 4000000 in
theorem snX7_seats : am_Snd vwCl yX7_seats wsX7_seats rmX7_seats sX7_seats := am_snd_of (cc := cX7_seats) (by decide) rfl (by decide +kernel) (am_Fl (fun _ h => absurd h List.not_mem_nil)) (am_Kl (List.forall_mem_cons.mpr ⟨List.mem_cons_of_mem _ wd_537, List.forall_mem_cons.mpr ⟨List.mem_cons_of_mem _ wd_494, fun _ h => absurd h List.not_mem_nil⟩⟩)) (am_Cl (List.forall_mem_cons.mpr ⟨am_cal_S snX7_in (am_gS wd_457 wd_458 wd_459 wd_460) rfl rfl rfl (by decide +kernel) ⟨am_le rfl, am_le rfl⟩, List.forall_mem_cons.mpr ⟨am_cal_V (r := (RX7, TX7, 29)) snX7_whoOn rfl (by decide) (am_gV wd_513 wd_514 wd_515 wd_459 wd_516) rfl rfl rfl (by decide +kernel) ⟨am_le rfl, am_le rfl⟩, List.forall_mem_cons.mpr ⟨am_cal_S snX7_bitsOf (am_gS wd_547 wd_548 wd_459 wd_549) rfl rfl rfl (by decide +kernel) ⟨am_le rfl, am_le rfl⟩, List.forall_mem_cons.mpr ⟨am_cal_V (r := (RX7, TX7, 29)) snX7_lays rfl (by decide) (am_gV wd_538 wd_539 wd_540 wd_459 wd_541) rfl rfl rfl (by decide +kernel) ⟨am_le rfl, am_le rfl⟩, fun _ h => absurd h List.not_mem_nil⟩⟩⟩⟩))
abbrev rmX7_price : Room := { frames := 1, cells := 0, slots := 0, locals := 25 }
abbrev wsX7_price : List Jvm.Cond := Jvm.Cond.code yX7_price cX7_price 3 (some .int) :: am_B
set_option maxRecDepth 100000 in
set_option maxHeartbeats 4000000 in
theorem snX7_price : am_Snd vwCl yX7_price wsX7_price rmX7_price sX7_price := am_snd_of (cc := cX7_price) (by decide) rfl (by decide +kernel) (am_Fl (fun _ h => absurd h List.not_mem_nil)) (am_Kl (List.forall_mem_cons.mpr ⟨List.mem_cons_of_mem _ wd_517, fun _ h => absurd h List.not_mem_nil⟩)) (am_Cl (List.forall_mem_cons.mpr ⟨am_cal_S snX7_in (am_gS wd_457 wd_458 wd_459 wd_460) rfl rfl rfl (by decide +kernel) ⟨am_le rfl, am_le rfl⟩, List.forall_mem_cons.mpr ⟨am_cal_V (r := (RX7, TX7, 29)) snX7_lays rfl (by decide) (am_gV wd_538 wd_539 wd_540 wd_459 wd_541) rfl rfl rfl (by decide +kernel) ⟨am_le rfl, am_le rfl⟩, fun _ h => absurd h List.not_mem_nil⟩⟩))
abbrev rmX7_becomes : Room := { frames := 2, cells := 0, slots := 0, locals := 46 }
abbrev wsX7_becomes : List Jvm.Cond := Jvm.Cond.code yX7_becomes cX7_becomes 4 (some .int) :: am_B
set_option maxRecDepth 100000 in
set_option maxHeartbeats 4000000 in
theorem snX7_becomes : am_Snd vwCl yX7_becomes wsX7_becomes rmX7_becomes sX7_becomes := am_snd_of (cc := cX7_becomes) (by decide) rfl (by decide +kernel) (am_Fl (List.forall_mem_cons.mpr ⟨fdX7 (am_lt rfl) wd_507, fun _ h => absurd h List.not_mem_nil⟩)) (am_Kl (fun _ h => absurd h List.not_mem_nil)) (am_Cl (List.forall_mem_cons.mpr ⟨am_cal_V (r := (RX7, TX7, 29)) snX7_isOne rfl (by decide) (am_gV wd_522 wd_523 wd_524 wd_459 wd_525) rfl rfl rfl (by decide +kernel) ⟨am_le rfl, am_le rfl⟩, List.forall_mem_cons.mpr ⟨am_cal_V (r := (RX7, TX7, 29)) snX7_is rfl (by decide) (am_gV wd_542 wd_543 wd_544 wd_459 wd_545) rfl rfl rfl (by decide +kernel) ⟨am_le rfl, am_le rfl⟩, List.forall_mem_cons.mpr ⟨am_cal_V (r := (RX7, TX7, 29)) snX7_whoOn rfl (by decide) (am_gV wd_513 wd_514 wd_515 wd_459 wd_516) rfl rfl rfl (by decide +kernel) ⟨am_le rfl, am_le rfl⟩, List.forall_mem_cons.mpr ⟨am_cal_S snX7_bitsOf (am_gS wd_547 wd_548 wd_459 wd_549) rfl rfl rfl (by decide +kernel) ⟨am_le rfl, am_le rfl⟩, fun _ h => absurd h List.not_mem_nil⟩⟩⟩⟩))
abbrev rmX7_come : Room := { frames := 3, cells := 0, slots := 0, locals := 69 }
abbrev wsX7_come : List Jvm.Cond := Jvm.Cond.code yX7_come cX7_come 2 (some .int) :: am_B
set_option maxRecDepth 100000 in
set_option maxHeartbeats 4000000 in
theorem snX7_come : am_Snd vwCl yX7_come wsX7_come rmX7_come sX7_come := am_snd_of (cc := cX7_come) (by decide) rfl (by decide +kernel) (am_Fl (fun _ h => absurd h List.not_mem_nil)) (am_Kl (fun _ h => absurd h List.not_mem_nil)) (am_Cl (List.forall_mem_cons.mpr ⟨am_cal_V (r := (RX7, TX7, 29)) snX7_becomes rfl (by decide) (am_gV wd_550 wd_551 wd_552 wd_459 wd_553) rfl rfl rfl (by decide +kernel) ⟨am_le rfl, am_le rfl⟩, fun _ h => absurd h List.not_mem_nil⟩))
abbrev rmX7_leave : Room := { frames := 3, cells := 0, slots := 0, locals := 69 }
abbrev wsX7_leave : List Jvm.Cond := Jvm.Cond.code yX7_leave cX7_leave 2 (some .int) :: am_B
set_option maxRecDepth 100000 in
set_option maxHeartbeats 4000000 in
theorem snX7_leave : am_Snd vwCl yX7_leave wsX7_leave rmX7_leave sX7_leave := am_snd_of (cc := cX7_leave) (by decide) rfl (by decide +kernel) (am_Fl (fun _ h => absurd h List.not_mem_nil)) (am_Kl (fun _ h => absurd h List.not_mem_nil)) (am_Cl (List.forall_mem_cons.mpr ⟨am_cal_V (r := (RX7, TX7, 29)) snX7_becomes rfl (by decide) (am_gV wd_550 wd_551 wd_552 wd_459 wd_553) rfl rfl rfl (by decide +kernel) ⟨am_le rfl, am_le rfl⟩, fun _ h => absurd h List.not_mem_nil⟩))
abbrev rmX7_boards : Room := { frames := 3, cells := 0, slots := 0, locals := 70 }
abbrev wsX7_boards : List Jvm.Cond := Jvm.Cond.code yX7_boards cX7_boards 5 (some .boolean) :: am_B
set_option maxRecDepth 100000 in
set_option maxHeartbeats 4000000 in
theorem snX7_boards : am_Snd vwCl yX7_boards wsX7_boards rmX7_boards sX7_boards := am_snd_of (cc := cX7_boards) (by decide) rfl (by decide +kernel) (am_Fl (List.forall_mem_cons.mpr ⟨fdX7 (am_lt rfl) wd_507, List.forall_mem_cons.mpr ⟨fdX7 (am_lt rfl) wd_506, fun _ h => absurd h List.not_mem_nil⟩⟩)) (am_Kl (fun _ h => absurd h List.not_mem_nil)) (am_Cl (List.forall_mem_cons.mpr ⟨am_cal_V (r := (RX7, TX7, 29)) snX7_whoOn rfl (by decide) (am_gV wd_513 wd_514 wd_515 wd_459 wd_516) rfl rfl rfl (by decide +kernel) ⟨am_le rfl, am_le rfl⟩, List.forall_mem_cons.mpr ⟨am_cal_V (r := (RX7, TX7, 29)) snX7_is rfl (by decide) (am_gV wd_542 wd_543 wd_544 wd_459 wd_545) rfl rfl rfl (by decide +kernel) ⟨am_le rfl, am_le rfl⟩, List.forall_mem_cons.mpr ⟨am_cal_V (r := (RX7, TX7, 29)) snX7_alikeWith rfl (by decide) (am_gV wd_533 wd_534 wd_535 wd_459 wd_536) rfl rfl rfl (by decide +kernel) ⟨am_le rfl, am_le rfl⟩, List.forall_mem_cons.mpr ⟨am_cal_S snX7_bitsOf (am_gS wd_547 wd_548 wd_459 wd_549) rfl rfl rfl (by decide +kernel) ⟨am_le rfl, am_le rfl⟩, List.forall_mem_cons.mpr ⟨am_cal_V (r := (RX7, TX7, 29)) snX7_seatsOn rfl (by decide) (am_gV wd_518 wd_519 wd_520 wd_459 wd_521) rfl rfl rfl (by decide +kernel) ⟨am_le rfl, am_le rfl⟩, fun _ h => absurd h List.not_mem_nil⟩⟩⟩⟩⟩))
abbrev rmX7_boarded : Room := { frames := 4, cells := 0, slots := 0, locals := 94 }
abbrev wsX7_boarded : List Jvm.Cond := Jvm.Cond.code yX7_boarded cX7_boarded 2 (some .int) :: am_B
set_option maxRecDepth 100000 in
set_option maxHeartbeats 4000000 in
theorem snX7_boarded : am_Snd vwCl yX7_boarded wsX7_boarded rmX7_boarded sX7_boarded := am_snd_of (cc := cX7_boarded) (by decide) rfl (by decide +kernel) (am_Fl (fun _ h => absurd h List.not_mem_nil)) (am_Kl (fun _ h => absurd h List.not_mem_nil)) (am_Cl (List.forall_mem_cons.mpr ⟨am_cal_V (r := (RX7, TX7, 29)) snX7_isOne rfl (by decide) (am_gV wd_522 wd_523 wd_524 wd_459 wd_525) rfl rfl rfl (by decide +kernel) ⟨am_le rfl, am_le rfl⟩, List.forall_mem_cons.mpr ⟨am_cal_V (r := (RX7, TX7, 29)) snX7_is rfl (by decide) (am_gV wd_542 wd_543 wd_544 wd_459 wd_545) rfl rfl rfl (by decide +kernel) ⟨am_le rfl, am_le rfl⟩, List.forall_mem_cons.mpr ⟨am_cal_V (r := (RX7, TX7, 29)) snX7_boards rfl (by decide) (am_gV wd_554 wd_555 wd_556 wd_459 wd_557) rfl rfl rfl (by decide +kernel) ⟨am_le rfl, am_le rfl⟩, List.forall_mem_cons.mpr ⟨am_cal_V (r := (RX7, TX7, 29)) snX7_whoOn rfl (by decide) (am_gV wd_513 wd_514 wd_515 wd_459 wd_516) rfl rfl rfl (by decide +kernel) ⟨am_le rfl, am_le rfl⟩, List.forall_mem_cons.mpr ⟨am_cal_S snX7_bitsOf (am_gS wd_547 wd_548 wd_459 wd_549) rfl rfl rfl (by decide +kernel) ⟨am_le rfl, am_le rfl⟩, fun _ h => absurd h List.not_mem_nil⟩⟩⟩⟩⟩))
abbrev rmX7_board : Room := { frames := 5, cells := 0, slots := 0, locals := 115 }
abbrev wsX7_board : List Jvm.Cond := Jvm.Cond.code yX7_board cX7_board 2 (some .int) :: am_B
set_option maxRecDepth 100000 in
set_option maxHeartbeats 4000000 in
theorem snX7_board : am_Snd vwCl yX7_board wsX7_board rmX7_board sX7_board := am_snd_of (cc := cX7_board) (by decide) rfl (by decide +kernel) (am_Fl (fun _ h => absurd h List.not_mem_nil)) (am_Kl (fun _ h => absurd h List.not_mem_nil)) (am_Cl (List.forall_mem_cons.mpr ⟨am_cal_V (r := (RX7, TX7, 29)) snX7_boarded rfl (by decide) (am_gV wd_558 wd_559 wd_560 wd_459 wd_561) rfl rfl rfl (by decide +kernel) ⟨am_le rfl, am_le rfl⟩, fun _ h => absurd h List.not_mem_nil⟩))
abbrev rmX7_anHour : Room := { frames := 4, cells := 0, slots := 0, locals := 94 }
abbrev wsX7_anHour : List Jvm.Cond := Jvm.Cond.code yX7_anHour cX7_anHour 5 none :: am_B
set_option maxRecDepth 100000 in
set_option maxHeartbeats 4000000 in
theorem snX7_anHour : am_Snd vwCl yX7_anHour wsX7_anHour rmX7_anHour sX7_anHour := am_snd_of (cc := cX7_anHour) (by decide) rfl (by decide +kernel) (am_Fl (List.forall_mem_cons.mpr ⟨fdX7 (am_lt rfl) wd_506, List.forall_mem_cons.mpr ⟨fdX7 (am_lt rfl) wd_507, fun _ h => absurd h List.not_mem_nil⟩⟩)) (am_Kl (fun _ h => absurd h List.not_mem_nil)) (am_Cl (List.forall_mem_cons.mpr ⟨am_cal_V (r := (RX7, TX7, 29)) snX7_is rfl (by decide) (am_gV wd_542 wd_543 wd_544 wd_459 wd_545) rfl rfl rfl (by decide +kernel) ⟨am_le rfl, am_le rfl⟩, List.forall_mem_cons.mpr ⟨am_cal_V (r := (RX7, TX7, 29)) snX7_boards rfl (by decide) (am_gV wd_554 wd_555 wd_556 wd_459 wd_557) rfl rfl rfl (by decide +kernel) ⟨am_le rfl, am_le rfl⟩, fun _ h => absurd h List.not_mem_nil⟩⟩))
abbrev rmX7_goesOn : Room := { frames := 5, cells := 0, slots := 0, locals := 118 }
abbrev wsX7_goesOn : List Jvm.Cond := Jvm.Cond.code yX7_goesOn cX7_goesOn 5 (some .int) :: am_B
set_option maxRecDepth 100000 in
set_option maxHeartbeats 4000000 in
theorem snX7_goesOn : am_Snd vwCl yX7_goesOn wsX7_goesOn rmX7_goesOn sX7_goesOn := am_snd_of (cc := cX7_goesOn) (by decide) rfl (by decide +kernel) (am_Fl (List.forall_mem_cons.mpr ⟨fdX7 (am_lt rfl) wd_507, fun _ h => absurd h List.not_mem_nil⟩)) (am_Kl (fun _ h => absurd h List.not_mem_nil)) (am_Cl (List.forall_mem_cons.mpr ⟨am_cal_V (r := (RX7, TX7, 29)) snX7_anHour rfl (by decide) (am_gV wd_562 wd_563 wd_564 wd_459 wd_565) rfl rfl rfl (by decide +kernel) ⟨am_le rfl, am_le rfl⟩, fun _ h => absurd h List.not_mem_nil⟩))
abbrev rmX7_copies : Room := { frames := 0, cells := 0, slots := 0, locals := 0 }
abbrev wsX7_copies : List Jvm.Cond := Jvm.Cond.code yX7_copies cX7_copies 4 none :: am_B
set_option maxRecDepth 100000 in
set_option maxHeartbeats 4000000 in
theorem snX7_copies : am_Snd vwCl yX7_copies wsX7_copies rmX7_copies sX7_copies := am_snd_of (cc := cX7_copies) (by decide) rfl (by decide +kernel) (am_Fl (List.forall_mem_cons.mpr ⟨fdX7 (am_lt rfl) wd_507, fun _ h => absurd h List.not_mem_nil⟩)) (am_Kl (fun _ h => absurd h List.not_mem_nil)) (am_Cl (fun _ h => absurd h List.not_mem_nil))
abbrev rmX7_go : Room := { frames := 6, cells := 0, slots := 0, locals := 142 }
abbrev wsX7_go : List Jvm.Cond := Jvm.Cond.code yX7_go cX7_go 2 (some .int) :: am_B
set_option maxRecDepth 100000 in
set_option maxHeartbeats 4000000 in
theorem snX7_go : am_Snd vwCl yX7_go wsX7_go rmX7_go sX7_go := am_snd_of (cc := cX7_go) (by decide) rfl (by decide +kernel) (am_Fl (List.forall_mem_cons.mpr ⟨fdX7 (am_lt rfl) wd_507, fun _ h => absurd h List.not_mem_nil⟩)) (am_Kl (List.forall_mem_cons.mpr ⟨List.mem_cons_of_mem _ wd_566, fun _ h => absurd h List.not_mem_nil⟩)) (am_Cl (List.forall_mem_cons.mpr ⟨am_cal_S snX7_in (am_gS wd_457 wd_458 wd_459 wd_460) rfl rfl rfl (by decide +kernel) ⟨am_le rfl, am_le rfl⟩, List.forall_mem_cons.mpr ⟨am_cal_V (r := (RX7, TX7, 29)) snX7_goesOn rfl (by decide) (am_gV wd_567 wd_568 wd_569 wd_459 wd_570) rfl rfl rfl (by decide +kernel) ⟨am_le rfl, am_le rfl⟩, fun _ h => absurd h List.not_mem_nil⟩⟩))
abbrev rmX7_ahead : Room := { frames := 6, cells := 0, slots := 0, locals := 142 }
abbrev wsX7_ahead : List Jvm.Cond := Jvm.Cond.code yX7_ahead cX7_ahead 4 (some .int) :: am_B
set_option maxRecDepth 100000 in
set_option maxHeartbeats 4000000 in
theorem snX7_ahead : am_Snd vwCl yX7_ahead wsX7_ahead rmX7_ahead sX7_ahead := am_snd_of (cc := cX7_ahead) (by decide) rfl (by decide +kernel) (am_Fl (fun _ h => absurd h List.not_mem_nil)) (am_Kl (List.forall_mem_cons.mpr ⟨List.mem_cons_of_mem _ wd_566, List.forall_mem_cons.mpr ⟨List.mem_cons_of_mem _ wd_546, fun _ h => absurd h List.not_mem_nil⟩⟩)) (am_Cl (List.forall_mem_cons.mpr ⟨am_cal_S snX7_in (am_gS wd_457 wd_458 wd_459 wd_460) rfl rfl rfl (by decide +kernel) ⟨am_le rfl, am_le rfl⟩, List.forall_mem_cons.mpr ⟨am_cal_V (r := (RX7, TX7, 29)) snX7_copies rfl (by decide) (am_gV wd_571 wd_572 wd_573 wd_459 wd_574) rfl rfl rfl (by decide +kernel) ⟨am_le rfl, am_le rfl⟩, List.forall_mem_cons.mpr ⟨am_cal_V (r := (RX7, TX7, 29)) snX7_goesOn rfl (by decide) (am_gV wd_567 wd_568 wd_569 wd_459 wd_570) rfl rfl rfl (by decide +kernel) ⟨am_le rfl, am_le rfl⟩, List.forall_mem_cons.mpr ⟨am_cal_V (r := (RX7, TX7, 29)) snX7_whoOn rfl (by decide) (am_gV wd_513 wd_514 wd_515 wd_459 wd_516) rfl rfl rfl (by decide +kernel) ⟨am_le rfl, am_le rfl⟩, fun _ h => absurd h List.not_mem_nil⟩⟩⟩⟩))
abbrev rmX7_when : Room := { frames := 5, cells := 0, slots := 0, locals := 118 }
abbrev wsX7_when : List Jvm.Cond := Jvm.Cond.code yX7_when cX7_when 3 (some .int) :: am_B
set_option maxRecDepth 100000 in
set_option maxHeartbeats 4000000 in
theorem snX7_when : am_Snd vwCl yX7_when wsX7_when rmX7_when sX7_when := am_snd_of (cc := cX7_when) (by decide) rfl (by decide +kernel) (am_Fl (fun _ h => absurd h List.not_mem_nil)) (am_Kl (fun _ h => absurd h List.not_mem_nil)) (am_Cl (List.forall_mem_cons.mpr ⟨am_cal_V (r := (RX7, TX7, 29)) snX7_isOne rfl (by decide) (am_gV wd_522 wd_523 wd_524 wd_459 wd_525) rfl rfl rfl (by decide +kernel) ⟨am_le rfl, am_le rfl⟩, List.forall_mem_cons.mpr ⟨am_cal_V (r := (RX7, TX7, 29)) snX7_copies rfl (by decide) (am_gV wd_571 wd_572 wd_573 wd_459 wd_574) rfl rfl rfl (by decide +kernel) ⟨am_le rfl, am_le rfl⟩, List.forall_mem_cons.mpr ⟨am_cal_V (r := (RX7, TX7, 29)) snX7_is rfl (by decide) (am_gV wd_542 wd_543 wd_544 wd_459 wd_545) rfl rfl rfl (by decide +kernel) ⟨am_le rfl, am_le rfl⟩, List.forall_mem_cons.mpr ⟨am_cal_V (r := (RX7, TX7, 29)) snX7_anHour rfl (by decide) (am_gV wd_562 wd_563 wd_564 wd_459 wd_565) rfl rfl rfl (by decide +kernel) ⟨am_le rfl, am_le rfl⟩, fun _ h => absurd h List.not_mem_nil⟩⟩⟩⟩))
abbrev rmX7_blocks : Room := { frames := 3, cells := 0, slots := 0, locals := 70 }
abbrev wsX7_blocks : List Jvm.Cond := Jvm.Cond.code yX7_blocks cX7_blocks 2 (some .int) :: am_B
set_option maxRecDepth 100000 in
set_option maxHeartbeats 4000000 in
theorem snX7_blocks : am_Snd vwCl yX7_blocks wsX7_blocks rmX7_blocks sX7_blocks := am_snd_of (cc := cX7_blocks) (by decide) rfl (by decide +kernel) (am_Fl (fun _ h => absurd h List.not_mem_nil)) (am_Kl (fun _ h => absurd h List.not_mem_nil)) (am_Cl (List.forall_mem_cons.mpr ⟨am_cal_V (r := (RX7, TX7, 29)) snX7_isOne rfl (by decide) (am_gV wd_522 wd_523 wd_524 wd_459 wd_525) rfl rfl rfl (by decide +kernel) ⟨am_le rfl, am_le rfl⟩, List.forall_mem_cons.mpr ⟨am_cal_V (r := (RX7, TX7, 29)) snX7_whoOn rfl (by decide) (am_gV wd_513 wd_514 wd_515 wd_459 wd_516) rfl rfl rfl (by decide +kernel) ⟨am_le rfl, am_le rfl⟩, List.forall_mem_cons.mpr ⟨am_cal_V (r := (RX7, TX7, 29)) snX7_alikeWith rfl (by decide) (am_gV wd_533 wd_534 wd_535 wd_459 wd_536) rfl rfl rfl (by decide +kernel) ⟨am_le rfl, am_le rfl⟩, fun _ h => absurd h List.not_mem_nil⟩⟩⟩))
abbrev rmX7_layMost : Room := { frames := 4, cells := 0, slots := 0, locals := 93 }
abbrev wsX7_layMost : List Jvm.Cond := Jvm.Cond.code yX7_layMost cX7_layMost 5 none :: am_B
set_option maxRecDepth 100000 in
set_option maxHeartbeats 4000000 in
theorem snX7_layMost : am_Snd vwCl yX7_layMost wsX7_layMost rmX7_layMost sX7_layMost := am_snd_of (cc := cX7_layMost) (by decide) rfl (by decide +kernel) (am_Fl (List.forall_mem_cons.mpr ⟨fdX7 (am_lt rfl) wd_506, List.forall_mem_cons.mpr ⟨fdX7 (am_lt rfl) wd_575, fun _ h => absurd h List.not_mem_nil⟩⟩)) (am_Kl (fun _ h => absurd h List.not_mem_nil)) (am_Cl (List.forall_mem_cons.mpr ⟨am_cal_S snX7_bitsOf (am_gS wd_547 wd_548 wd_459 wd_549) rfl rfl rfl (by decide +kernel) ⟨am_le rfl, am_le rfl⟩, List.forall_mem_cons.mpr ⟨am_cal_V (r := (RX7, TX7, 29)) snX7_isUnlike rfl (by decide) (am_gV wd_576 wd_577 wd_578 wd_459 wd_579) rfl rfl rfl (by decide +kernel) ⟨am_le rfl, am_le rfl⟩, fun _ h => absurd h List.not_mem_nil⟩⟩))
abbrev rmX7_most : Room := { frames := 5, cells := 0, slots := 0, locals := 117 }
abbrev wsX7_most : List Jvm.Cond := Jvm.Cond.code yX7_most cX7_most 2 (some .int) :: am_B
set_option maxRecDepth 100000 in
set_option maxHeartbeats 4000000 in
theorem snX7_most : am_Snd vwCl yX7_most wsX7_most rmX7_most sX7_most := am_snd_of (cc := cX7_most) (by decide) rfl (by decide +kernel) (am_Fl (List.forall_mem_cons.mpr ⟨fdX7 (am_lt rfl) wd_575, fun _ h => absurd h List.not_mem_nil⟩)) (am_Kl (List.forall_mem_cons.mpr ⟨List.mem_cons_of_mem _ wd_537, List.forall_mem_cons.mpr ⟨List.mem_cons_of_mem _ wd_494, fun _ h => absurd h List.not_mem_nil⟩⟩)) (am_Cl (List.forall_mem_cons.mpr ⟨am_cal_S snX7_in (am_gS wd_457 wd_458 wd_459 wd_460) rfl rfl rfl (by decide +kernel) ⟨am_le rfl, am_le rfl⟩, List.forall_mem_cons.mpr ⟨am_cal_V (r := (RX7, TX7, 29)) snX7_layMost rfl (by decide) (am_gV wd_584 wd_585 wd_586 wd_459 wd_587) rfl rfl rfl (by decide +kernel) ⟨am_le rfl, am_le rfl⟩, List.forall_mem_cons.mpr ⟨am_cal_V (r := (RX7, TX7, 29)) snX7_hereNow rfl (by decide) (am_gV wd_580 wd_581 wd_582 wd_459 wd_583) rfl rfl rfl (by decide +kernel) ⟨am_le rfl, am_le rfl⟩, fun _ h => absurd h List.not_mem_nil⟩⟩⟩))
abbrev rmX7_isBoat : Room := { frames := 4, cells := 0, slots := 0, locals := 93 }
abbrev wsX7_isBoat : List Jvm.Cond := Jvm.Cond.code yX7_isBoat cX7_isBoat 2 (some .boolean) :: am_B
set_option maxRecDepth 100000 in
set_option maxHeartbeats 4000000 in
theorem snX7_isBoat : am_Snd vwCl yX7_isBoat wsX7_isBoat rmX7_isBoat sX7_isBoat := am_snd_of (cc := cX7_isBoat) (by decide) rfl (by decide +kernel) (am_Fl (fun _ h => absurd h List.not_mem_nil)) (am_Kl (fun _ h => absurd h List.not_mem_nil)) (am_Cl (List.forall_mem_cons.mpr ⟨am_cal_S snX7_bitsOf (am_gS wd_547 wd_548 wd_459 wd_549) rfl rfl rfl (by decide +kernel) ⟨am_le rfl, am_le rfl⟩, List.forall_mem_cons.mpr ⟨am_cal_V (r := (RX7, TX7, 29)) snX7_seatsOn rfl (by decide) (am_gV wd_518 wd_519 wd_520 wd_459 wd_521) rfl rfl rfl (by decide +kernel) ⟨am_le rfl, am_le rfl⟩, List.forall_mem_cons.mpr ⟨am_cal_V (r := (RX7, TX7, 29)) snX7_isUnlike rfl (by decide) (am_gV wd_576 wd_577 wd_578 wd_459 wd_579) rfl rfl rfl (by decide +kernel) ⟨am_le rfl, am_le rfl⟩, fun _ h => absurd h List.not_mem_nil⟩⟩⟩))
abbrev rmX7_begins : Room := { frames := 0, cells := 0, slots := 0, locals := 0 }
abbrev wsX7_begins : List Jvm.Cond := Jvm.Cond.code yX7_begins cX7_begins 1 none :: am_B
set_option maxRecDepth 100000 in
set_option maxHeartbeats 4000000 in
theorem snX7_begins : am_Snd vwCl yX7_begins wsX7_begins rmX7_begins sX7_begins := am_snd_of (cc := cX7_begins) (by decide) rfl (by decide +kernel) (am_Fl (List.forall_mem_cons.mpr ⟨fdX7 (am_lt rfl) wd_591, List.forall_mem_cons.mpr ⟨fdX7 (am_lt rfl) wd_590, List.forall_mem_cons.mpr ⟨fdX7 (am_lt rfl) wd_506, List.forall_mem_cons.mpr ⟨fdX7 (am_lt rfl) wd_589, List.forall_mem_cons.mpr ⟨fdX7 (am_lt rfl) wd_588, fun _ h => absurd h List.not_mem_nil⟩⟩⟩⟩⟩)) (am_Kl (fun _ h => absurd h List.not_mem_nil)) (am_Cl (fun _ h => absurd h List.not_mem_nil))
abbrev rmX7_comesSet : Room := { frames := 0, cells := 0, slots := 0, locals := 0 }
abbrev wsX7_comesSet : List Jvm.Cond := Jvm.Cond.code yX7_comesSet cX7_comesSet 2 none :: am_B
set_option maxRecDepth 100000 in
set_option maxHeartbeats 4000000 in
theorem snX7_comesSet : am_Snd vwCl yX7_comesSet wsX7_comesSet rmX7_comesSet sX7_comesSet := am_snd_of (cc := cX7_comesSet) (by decide) rfl (by decide +kernel) (am_Fl (List.forall_mem_cons.mpr ⟨fdX7 (am_lt rfl) wd_591, List.forall_mem_cons.mpr ⟨fdX7 (am_lt rfl) wd_590, List.forall_mem_cons.mpr ⟨fdX7 (am_lt rfl) wd_589, List.forall_mem_cons.mpr ⟨fdX7 (am_lt rfl) wd_588, fun _ h => absurd h List.not_mem_nil⟩⟩⟩⟩)) (am_Kl (fun _ h => absurd h List.not_mem_nil)) (am_Cl (fun _ h => absurd h List.not_mem_nil))
abbrev rmX7_answers : Room := { frames := 0, cells := 0, slots := 0, locals := 0 }
abbrev wsX7_answers : List Jvm.Cond := Jvm.Cond.code yX7_answers cX7_answers 3 (some .int) :: am_B
set_option maxRecDepth 100000 in
set_option maxHeartbeats 4000000 in
theorem snX7_answers : am_Snd vwCl yX7_answers wsX7_answers rmX7_answers sX7_answers := am_snd_of (cc := cX7_answers) (by decide) rfl (by decide +kernel) (am_Fl (List.forall_mem_cons.mpr ⟨fdX7 (am_lt rfl) wd_591, List.forall_mem_cons.mpr ⟨fdX7 (am_lt rfl) wd_590, List.forall_mem_cons.mpr ⟨fdX7 (am_lt rfl) wd_589, List.forall_mem_cons.mpr ⟨fdX7 (am_lt rfl) wd_588, fun _ h => absurd h List.not_mem_nil⟩⟩⟩⟩)) (am_Kl (fun _ h => absurd h List.not_mem_nil)) (am_Cl (fun _ h => absurd h List.not_mem_nil))
abbrev rmX7_sets : Room := { frames := 5, cells := 0, slots := 0, locals := 114 }
abbrev wsX7_sets : List Jvm.Cond := Jvm.Cond.code yX7_sets cX7_sets 4 (some .int) :: am_B
set_option maxRecDepth 100000 in
set_option maxHeartbeats 4000000 in
theorem snX7_sets : am_Snd vwCl yX7_sets wsX7_sets rmX7_sets sX7_sets := am_snd_of (cc := cX7_sets) (by decide) rfl (by decide +kernel) (am_Fl (fun _ h => absurd h List.not_mem_nil)) (am_Kl (List.forall_mem_cons.mpr ⟨List.mem_cons_of_mem _ wd_592, fun _ h => absurd h List.not_mem_nil⟩)) (am_Cl (List.forall_mem_cons.mpr ⟨am_cal_S snX7_in (am_gS wd_457 wd_458 wd_459 wd_460) rfl rfl rfl (by decide +kernel) ⟨am_le rfl, am_le rfl⟩, List.forall_mem_cons.mpr ⟨am_cal_V (r := (RX7, TX7, 29)) snX7_hereNow rfl (by decide) (am_gV wd_580 wd_581 wd_582 wd_459 wd_583) rfl rfl rfl (by decide +kernel) ⟨am_le rfl, am_le rfl⟩, List.forall_mem_cons.mpr ⟨am_cal_V (r := (RX7, TX7, 29)) snX7_begins rfl (by decide) (am_gV wd_605 wd_606 wd_607 wd_459 wd_608) rfl rfl rfl (by decide +kernel) ⟨am_le rfl, am_le rfl⟩, List.forall_mem_cons.mpr ⟨am_cal_V (r := (RX7, TX7, 29)) snX7_isBoat rfl (by decide) (am_gV wd_601 wd_602 wd_603 wd_459 wd_604) rfl rfl rfl (by decide +kernel) ⟨am_le rfl, am_le rfl⟩, List.forall_mem_cons.mpr ⟨am_cal_V (r := (RX7, TX7, 29)) snX7_comesSet rfl (by decide) (am_gV wd_597 wd_598 wd_599 wd_459 wd_600) rfl rfl rfl (by decide +kernel) ⟨am_le rfl, am_le rfl⟩, List.forall_mem_cons.mpr ⟨am_cal_V (r := (RX7, TX7, 29)) snX7_answers rfl (by decide) (am_gV wd_593 wd_594 wd_595 wd_459 wd_596) rfl rfl rfl (by decide +kernel) ⟨am_le rfl, am_le rfl⟩, fun _ h => absurd h List.not_mem_nil⟩⟩⟩⟩⟩⟩))
abbrev rmX7_isFilling : Room := { frames := 5, cells := 0, slots := 0, locals := 114 }
abbrev wsX7_isFilling : List Jvm.Cond := Jvm.Cond.code yX7_isFilling cX7_isFilling 3 (some .boolean) :: am_B
set_option maxRecDepth 100000 in
set_option maxHeartbeats 4000000 in
theorem snX7_isFilling : am_Snd vwCl yX7_isFilling wsX7_isFilling rmX7_isFilling sX7_isFilling := am_snd_of (cc := cX7_isFilling) (by decide) rfl (by decide +kernel) (am_Fl (fun _ h => absurd h List.not_mem_nil)) (am_Kl (fun _ h => absurd h List.not_mem_nil)) (am_Cl (List.forall_mem_cons.mpr ⟨am_cal_V (r := (RX7, TX7, 29)) snX7_whoOn rfl (by decide) (am_gV wd_513 wd_514 wd_515 wd_459 wd_516) rfl rfl rfl (by decide +kernel) ⟨am_le rfl, am_le rfl⟩, List.forall_mem_cons.mpr ⟨am_cal_V (r := (RX7, TX7, 29)) snX7_isBoat rfl (by decide) (am_gV wd_601 wd_602 wd_603 wd_459 wd_604) rfl rfl rfl (by decide +kernel) ⟨am_le rfl, am_le rfl⟩, fun _ h => absurd h List.not_mem_nil⟩⟩))
abbrev rmX7_fill : Room := { frames := 6, cells := 0, slots := 0, locals := 136 }
abbrev wsX7_fill : List Jvm.Cond := Jvm.Cond.code yX7_fill cX7_fill 4 (some .int) :: am_B
set_option maxRecDepth 100000 in
set_option maxHeartbeats 4000000 in
theorem snX7_fill : am_Snd vwCl yX7_fill wsX7_fill rmX7_fill sX7_fill := am_snd_of (cc := cX7_fill) (by decide) rfl (by decide +kernel) (am_Fl (fun _ h => absurd h List.not_mem_nil)) (am_Kl (fun _ h => absurd h List.not_mem_nil)) (am_Cl (List.forall_mem_cons.mpr ⟨am_cal_S snX7_in (am_gS wd_457 wd_458 wd_459 wd_460) rfl rfl rfl (by decide +kernel) ⟨am_le rfl, am_le rfl⟩, List.forall_mem_cons.mpr ⟨am_cal_V (r := (RX7, TX7, 29)) snX7_hereNow rfl (by decide) (am_gV wd_580 wd_581 wd_582 wd_459 wd_583) rfl rfl rfl (by decide +kernel) ⟨am_le rfl, am_le rfl⟩, List.forall_mem_cons.mpr ⟨am_cal_V (r := (RX7, TX7, 29)) snX7_begins rfl (by decide) (am_gV wd_605 wd_606 wd_607 wd_459 wd_608) rfl rfl rfl (by decide +kernel) ⟨am_le rfl, am_le rfl⟩, List.forall_mem_cons.mpr ⟨am_cal_V (r := (RX7, TX7, 29)) snX7_isFilling rfl (by decide) (am_gV wd_609 wd_610 wd_611 wd_459 wd_612) rfl rfl rfl (by decide +kernel) ⟨am_le rfl, am_le rfl⟩, List.forall_mem_cons.mpr ⟨am_cal_V (r := (RX7, TX7, 29)) snX7_comesSet rfl (by decide) (am_gV wd_597 wd_598 wd_599 wd_459 wd_600) rfl rfl rfl (by decide +kernel) ⟨am_le rfl, am_le rfl⟩, List.forall_mem_cons.mpr ⟨am_cal_V (r := (RX7, TX7, 29)) snX7_answers rfl (by decide) (am_gV wd_593 wd_594 wd_595 wd_459 wd_596) rfl rfl rfl (by decide +kernel) ⟨am_le rfl, am_le rfl⟩, fun _ h => absurd h List.not_mem_nil⟩⟩⟩⟩⟩⟩))
abbrev rmX7_let : Room := { frames := 6, cells := 0, slots := 0, locals := 136 }
abbrev wsX7_let : List Jvm.Cond := Jvm.Cond.code yX7_let cX7_let 8 (some .int) :: am_B
set_option maxRecDepth 100000 in
set_option maxHeartbeats 4000000 in
theorem snX7_let : am_Snd vwCl yX7_let wsX7_let rmX7_let sX7_let := am_snd_of (cc := cX7_let) (by decide) rfl (by decide +kernel) (am_Fl (List.forall_mem_cons.mpr ⟨fdX7 (am_lt rfl) wd_506, List.forall_mem_cons.mpr ⟨fdX7 (am_lt rfl) wd_575, fun _ h => absurd h List.not_mem_nil⟩⟩)) (am_Kl (fun _ h => absurd h List.not_mem_nil)) (am_Cl (List.forall_mem_cons.mpr ⟨am_cal_S snX7_in (am_gS wd_457 wd_458 wd_459 wd_460) rfl rfl rfl (by decide +kernel) ⟨am_le rfl, am_le rfl⟩, List.forall_mem_cons.mpr ⟨am_cal_V (r := (RX7, TX7, 29)) snX7_hereNow rfl (by decide) (am_gV wd_580 wd_581 wd_582 wd_459 wd_583) rfl rfl rfl (by decide +kernel) ⟨am_le rfl, am_le rfl⟩, List.forall_mem_cons.mpr ⟨am_cal_V (r := (RX7, TX7, 29)) snX7_whoOn rfl (by decide) (am_gV wd_513 wd_514 wd_515 wd_459 wd_516) rfl rfl rfl (by decide +kernel) ⟨am_le rfl, am_le rfl⟩, List.forall_mem_cons.mpr ⟨am_cal_V (r := (RX7, TX7, 29)) snX7_seatsOn rfl (by decide) (am_gV wd_518 wd_519 wd_520 wd_459 wd_521) rfl rfl rfl (by decide +kernel) ⟨am_le rfl, am_le rfl⟩, List.forall_mem_cons.mpr ⟨am_cal_V (r := (RX7, TX7, 29)) snX7_layMost rfl (by decide) (am_gV wd_584 wd_585 wd_586 wd_459 wd_587) rfl rfl rfl (by decide +kernel) ⟨am_le rfl, am_le rfl⟩, List.forall_mem_cons.mpr ⟨am_cal_V (r := (RX7, TX7, 29)) snX7_isFilling rfl (by decide) (am_gV wd_609 wd_610 wd_611 wd_459 wd_612) rfl rfl rfl (by decide +kernel) ⟨am_le rfl, am_le rfl⟩, fun _ h => absurd h List.not_mem_nil⟩⟩⟩⟩⟩⟩))
abbrev rmX7_changes : Room := { frames := 1, cells := 0, slots := 0, locals := 22 }
abbrev wsX7_changes : List Jvm.Cond := Jvm.Cond.code yX7_changes cX7_changes 6 (some .int) :: am_B
set_option maxRecDepth 100000 in
set_option maxHeartbeats 4000000 in
theorem snX7_changes : am_Snd vwCl yX7_changes wsX7_changes rmX7_changes sX7_changes := am_snd_of (cc := cX7_changes) (by decide) rfl (by decide +kernel) (am_Fl (List.forall_mem_cons.mpr ⟨fdX7 (am_lt rfl) wd_506, List.forall_mem_cons.mpr ⟨fdX7 (am_lt rfl) wd_507, fun _ h => absurd h List.not_mem_nil⟩⟩)) (am_Kl (fun _ h => absurd h List.not_mem_nil)) (am_Cl (List.forall_mem_cons.mpr ⟨am_cal_S snX7_counts (am_gS wd_526 wd_527 wd_459 wd_528) rfl rfl rfl (by decide +kernel) ⟨am_le rfl, am_le rfl⟩, List.forall_mem_cons.mpr ⟨am_cal_S snX7_bitsOf (am_gS wd_547 wd_548 wd_459 wd_549) rfl rfl rfl (by decide +kernel) ⟨am_le rfl, am_le rfl⟩, fun _ h => absurd h List.not_mem_nil⟩⟩))
abbrev rmX7_cheap : Room := { frames := 2, cells := 0, slots := 0, locals := 47 }
abbrev wsX7_cheap : List Jvm.Cond := Jvm.Cond.code yX7_cheap cX7_cheap 7 (some .int) :: am_B
set_option maxRecDepth 100000 in
set_option maxHeartbeats 4000000 in
theorem snX7_cheap : am_Snd vwCl yX7_cheap wsX7_cheap rmX7_cheap sX7_cheap := am_snd_of (cc := cX7_cheap) (by decide) rfl (by decide +kernel) (am_Fl (List.forall_mem_cons.mpr ⟨fdX7 (am_lt rfl) wd_507, fun _ h => absurd h List.not_mem_nil⟩)) (am_Kl (fun _ h => absurd h List.not_mem_nil)) (am_Cl (List.forall_mem_cons.mpr ⟨am_cal_S snX7_in (am_gS wd_457 wd_458 wd_459 wd_460) rfl rfl rfl (by decide +kernel) ⟨am_le rfl, am_le rfl⟩, List.forall_mem_cons.mpr ⟨am_cal_V (r := (RX7, TX7, 29)) snX7_hereNow rfl (by decide) (am_gV wd_580 wd_581 wd_582 wd_459 wd_583) rfl rfl rfl (by decide +kernel) ⟨am_le rfl, am_le rfl⟩, List.forall_mem_cons.mpr ⟨am_cal_S snX7_bitsOf (am_gS wd_547 wd_548 wd_459 wd_549) rfl rfl rfl (by decide +kernel) ⟨am_le rfl, am_le rfl⟩, List.forall_mem_cons.mpr ⟨am_cal_V (r := (RX7, TX7, 29)) snX7_seatsOn rfl (by decide) (am_gV wd_518 wd_519 wd_520 wd_459 wd_521) rfl rfl rfl (by decide +kernel) ⟨am_le rfl, am_le rfl⟩, List.forall_mem_cons.mpr ⟨am_cal_V (r := (RX7, TX7, 29)) snX7_changes rfl (by decide) (am_gV wd_613 wd_614 wd_615 wd_459 wd_616) rfl rfl rfl (by decide +kernel) ⟨am_le rfl, am_le rfl⟩, fun _ h => absurd h List.not_mem_nil⟩⟩⟩⟩⟩))
abbrev rmX7_isUnlikeAll : Room := { frames := 1, cells := 0, slots := 0, locals := 21 }
abbrev wsX7_isUnlikeAll : List Jvm.Cond := Jvm.Cond.code yX7_isUnlikeAll cX7_isUnlikeAll 9 (some .boolean) :: am_B
set_option maxRecDepth 100000 in
set_option maxHeartbeats 4000000 in
theorem snX7_isUnlikeAll : am_Snd vwCl yX7_isUnlikeAll wsX7_isUnlikeAll rmX7_isUnlikeAll sX7_isUnlikeAll := am_snd_of (cc := cX7_isUnlikeAll) (by decide) rfl (by decide +kernel) (am_Fl (List.forall_mem_cons.mpr ⟨fdX7 (am_lt rfl) wd_506, List.forall_mem_cons.mpr ⟨fdX7 (am_lt rfl) wd_507, fun _ h => absurd h List.not_mem_nil⟩⟩)) (am_Kl (fun _ h => absurd h List.not_mem_nil)) (am_Cl (List.forall_mem_cons.mpr ⟨am_cal_S snX7_counts (am_gS wd_526 wd_527 wd_459 wd_528) rfl rfl rfl (by decide +kernel) ⟨am_le rfl, am_le rfl⟩, fun _ h => absurd h List.not_mem_nil⟩))
abbrev rmX7_canSend : Room := { frames := 4, cells := 0, slots := 0, locals := 93 }
abbrev wsX7_canSend : List Jvm.Cond := Jvm.Cond.code yX7_canSend cX7_canSend 9 (some .boolean) :: am_B
set_option maxRecDepth 100000 in
set_option maxHeartbeats 4000000 in
theorem snX7_canSend : am_Snd vwCl yX7_canSend wsX7_canSend rmX7_canSend sX7_canSend := am_snd_of (cc := cX7_canSend) (by decide) rfl (by decide +kernel) (am_Fl (fun _ h => absurd h List.not_mem_nil)) (am_Kl (fun _ h => absurd h List.not_mem_nil)) (am_Cl (List.forall_mem_cons.mpr ⟨am_cal_V (r := (RX7, TX7, 29)) snX7_hereNow rfl (by decide) (am_gV wd_580 wd_581 wd_582 wd_459 wd_583) rfl rfl rfl (by decide +kernel) ⟨am_le rfl, am_le rfl⟩, List.forall_mem_cons.mpr ⟨am_cal_V (r := (RX7, TX7, 29)) snX7_whoOn rfl (by decide) (am_gV wd_513 wd_514 wd_515 wd_459 wd_516) rfl rfl rfl (by decide +kernel) ⟨am_le rfl, am_le rfl⟩, List.forall_mem_cons.mpr ⟨am_cal_S snX7_bitsOf (am_gS wd_547 wd_548 wd_459 wd_549) rfl rfl rfl (by decide +kernel) ⟨am_le rfl, am_le rfl⟩, List.forall_mem_cons.mpr ⟨am_cal_V (r := (RX7, TX7, 29)) snX7_seatsOn rfl (by decide) (am_gV wd_518 wd_519 wd_520 wd_459 wd_521) rfl rfl rfl (by decide +kernel) ⟨am_le rfl, am_le rfl⟩, List.forall_mem_cons.mpr ⟨am_cal_V (r := (RX7, TX7, 29)) snX7_isUnlike rfl (by decide) (am_gV wd_576 wd_577 wd_578 wd_459 wd_579) rfl rfl rfl (by decide +kernel) ⟨am_le rfl, am_le rfl⟩, List.forall_mem_cons.mpr ⟨am_cal_V (r := (RX7, TX7, 29)) snX7_isUnlikeAll rfl (by decide) (am_gV wd_617 wd_618 wd_619 wd_459 wd_620) rfl rfl rfl (by decide +kernel) ⟨am_le rfl, am_le rfl⟩, fun _ h => absurd h List.not_mem_nil⟩⟩⟩⟩⟩⟩))
abbrev rmX7_send : Room := { frames := 5, cells := 0, slots := 0, locals := 121 }
abbrev wsX7_send : List Jvm.Cond := Jvm.Cond.code yX7_send cX7_send 6 (some .int) :: am_B
set_option maxRecDepth 100000 in
set_option maxHeartbeats 4000000 in
theorem snX7_send : am_Snd vwCl yX7_send wsX7_send rmX7_send sX7_send := am_snd_of (cc := cX7_send) (by decide) rfl (by decide +kernel) (am_Fl (fun _ h => absurd h List.not_mem_nil)) (am_Kl (List.forall_mem_cons.mpr ⟨List.mem_cons_of_mem _ wd_494, fun _ h => absurd h List.not_mem_nil⟩)) (am_Cl (List.forall_mem_cons.mpr ⟨am_cal_S snX7_in (am_gS wd_457 wd_458 wd_459 wd_460) rfl rfl rfl (by decide +kernel) ⟨am_le rfl, am_le rfl⟩, List.forall_mem_cons.mpr ⟨am_cal_V (r := (RX7, TX7, 29)) snX7_canSend rfl (by decide) (am_gV wd_621 wd_622 wd_623 wd_459 wd_624) rfl rfl rfl (by decide +kernel) ⟨am_le rfl, am_le rfl⟩, fun _ h => absurd h List.not_mem_nil⟩⟩))
abbrev rmX7_last : Room := { frames := 4, cells := 0, slots := 0, locals := 93 }
abbrev wsX7_last : List Jvm.Cond := Jvm.Cond.code yX7_last cX7_last 6 (some .int) :: am_B
set_option maxRecDepth 100000 in
set_option maxHeartbeats 4000000 in
theorem snX7_last : am_Snd vwCl yX7_last wsX7_last rmX7_last sX7_last := am_snd_of (cc := cX7_last) (by decide) rfl (by decide +kernel) (am_Fl (List.forall_mem_cons.mpr ⟨fdX7 (am_lt rfl) wd_506, fun _ h => absurd h List.not_mem_nil⟩)) (am_Kl (fun _ h => absurd h List.not_mem_nil)) (am_Cl (List.forall_mem_cons.mpr ⟨am_cal_S snX7_in (am_gS wd_457 wd_458 wd_459 wd_460) rfl rfl rfl (by decide +kernel) ⟨am_le rfl, am_le rfl⟩, List.forall_mem_cons.mpr ⟨am_cal_V (r := (RX7, TX7, 29)) snX7_hereNow rfl (by decide) (am_gV wd_580 wd_581 wd_582 wd_459 wd_583) rfl rfl rfl (by decide +kernel) ⟨am_le rfl, am_le rfl⟩, List.forall_mem_cons.mpr ⟨am_cal_S snX7_bitsOf (am_gS wd_547 wd_548 wd_459 wd_549) rfl rfl rfl (by decide +kernel) ⟨am_le rfl, am_le rfl⟩, List.forall_mem_cons.mpr ⟨am_cal_V (r := (RX7, TX7, 29)) snX7_seatsOn rfl (by decide) (am_gV wd_518 wd_519 wd_520 wd_459 wd_521) rfl rfl rfl (by decide +kernel) ⟨am_le rfl, am_le rfl⟩, List.forall_mem_cons.mpr ⟨am_cal_V (r := (RX7, TX7, 29)) snX7_isUnlike rfl (by decide) (am_gV wd_576 wd_577 wd_578 wd_459 wd_579) rfl rfl rfl (by decide +kernel) ⟨am_le rfl, am_le rfl⟩, fun _ h => absurd h List.not_mem_nil⟩⟩⟩⟩⟩))
abbrev rmX7_lowest : Room := { frames := 0, cells := 0, slots := 0, locals := 0 }
abbrev wsX7_lowest : List Jvm.Cond := Jvm.Cond.code yX7_lowest cX7_lowest 11 (some .long) :: am_B
set_option maxRecDepth 100000 in
set_option maxHeartbeats 4000000 in
theorem snX7_lowest : am_Snd vwCl yX7_lowest wsX7_lowest rmX7_lowest sX7_lowest := am_snd_of (cc := cX7_lowest) (by decide) rfl (by decide +kernel) (am_Fl (fun _ h => absurd h List.not_mem_nil)) (am_Kl (fun _ h => absurd h List.not_mem_nil)) (am_Cl (fun _ h => absurd h List.not_mem_nil))
abbrev rmX7_hasFilling : Room := { frames := 6, cells := 0, slots := 0, locals := 136 }
abbrev wsX7_hasFilling : List Jvm.Cond := Jvm.Cond.code yX7_hasFilling cX7_hasFilling 4 (some .boolean) :: am_B
set_option maxRecDepth 100000 in
set_option maxHeartbeats 4000000 in
theorem snX7_hasFilling : am_Snd vwCl yX7_hasFilling wsX7_hasFilling rmX7_hasFilling sX7_hasFilling := am_snd_of (cc := cX7_hasFilling) (by decide) rfl (by decide +kernel) (am_Fl (fun _ h => absurd h List.not_mem_nil)) (am_Kl (fun _ h => absurd h List.not_mem_nil)) (am_Cl (List.forall_mem_cons.mpr ⟨am_cal_V (r := (RX7, TX7, 29)) snX7_isFilling rfl (by decide) (am_gV wd_609 wd_610 wd_611 wd_459 wd_612) rfl rfl rfl (by decide +kernel) ⟨am_le rfl, am_le rfl⟩, fun _ h => absurd h List.not_mem_nil⟩))
abbrev rmX7_meanOf : Room := { frames := 7, cells := 0, slots := 0, locals := 159 }
abbrev wsX7_meanOf : List Jvm.Cond := Jvm.Cond.code yX7_meanOf cX7_meanOf 14 (some .long) :: am_B
set_option maxRecDepth 100000 in
set_option maxHeartbeats 4000000 in
theorem snX7_meanOf : am_Snd vwCl yX7_meanOf wsX7_meanOf rmX7_meanOf sX7_meanOf := am_snd_of (cc := cX7_meanOf) (by decide) rfl (by decide +kernel) (am_Fl (List.forall_mem_cons.mpr ⟨fdX7 (am_lt rfl) wd_506, List.forall_mem_cons.mpr ⟨fdX7 (am_lt rfl) wd_575, fun _ h => absurd h List.not_mem_nil⟩⟩)) (am_Kl (List.forall_mem_cons.mpr ⟨List.mem_cons_of_mem _ wd_625, fun _ h => absurd h List.not_mem_nil⟩)) (am_Cl (List.forall_mem_cons.mpr ⟨am_cal_V (r := (RX7, TX7, 29)) snX7_whoOn rfl (by decide) (am_gV wd_513 wd_514 wd_515 wd_459 wd_516) rfl rfl rfl (by decide +kernel) ⟨am_le rfl, am_le rfl⟩, List.forall_mem_cons.mpr ⟨am_cal_V (r := (RX7, TX7, 29)) snX7_seatsOn rfl (by decide) (am_gV wd_518 wd_519 wd_520 wd_459 wd_521) rfl rfl rfl (by decide +kernel) ⟨am_le rfl, am_le rfl⟩, List.forall_mem_cons.mpr ⟨am_cal_V (r := (RX7, TX7, 29)) snX7_layMost rfl (by decide) (am_gV wd_584 wd_585 wd_586 wd_459 wd_587) rfl rfl rfl (by decide +kernel) ⟨am_le rfl, am_le rfl⟩, List.forall_mem_cons.mpr ⟨am_cal_V (r := (RX7, TX7, 29)) snX7_hasFilling rfl (by decide) (am_gV wd_629 wd_630 wd_631 wd_459 wd_632) rfl rfl rfl (by decide +kernel) ⟨am_le rfl, am_le rfl⟩, List.forall_mem_cons.mpr ⟨am_cal_S snX7_lowest (am_gS wd_626 wd_627 wd_459 wd_628) rfl rfl rfl (by decide +kernel) ⟨am_le rfl, am_le rfl⟩, fun _ h => absurd h List.not_mem_nil⟩⟩⟩⟩⟩))
abbrev rmX7_odds : Room := { frames := 8, cells := 0, slots := 0, locals := 192 }
abbrev wsX7_odds : List Jvm.Cond := Jvm.Cond.code yX7_odds cX7_odds 3 (some .long) :: am_B
set_option maxRecDepth 100000 in
set_option maxHeartbeats 4000000 in
theorem snX7_odds : am_Snd vwCl yX7_odds wsX7_odds rmX7_odds sX7_odds := am_snd_of (cc := cX7_odds) (by decide) rfl (by decide +kernel) (am_Fl (fun _ h => absurd h List.not_mem_nil)) (am_Kl (List.forall_mem_cons.mpr ⟨List.mem_cons_of_mem _ wd_625, List.forall_mem_cons.mpr ⟨List.mem_cons_of_mem _ wd_633, fun _ h => absurd h List.not_mem_nil⟩⟩)) (am_Cl (List.forall_mem_cons.mpr ⟨am_cal_S snX7_in (am_gS wd_457 wd_458 wd_459 wd_460) rfl rfl rfl (by decide +kernel) ⟨am_le rfl, am_le rfl⟩, List.forall_mem_cons.mpr ⟨am_cal_V (r := (RX7, TX7, 29)) snX7_meanOf rfl (by decide) (am_gV wd_634 wd_635 wd_636 wd_459 wd_637) rfl rfl rfl (by decide +kernel) ⟨am_le rfl, am_le rfl⟩, fun _ h => absurd h List.not_mem_nil⟩⟩))
abbrev rmX7_mean : Room := { frames := 8, cells := 0, slots := 0, locals := 192 }
abbrev wsX7_mean : List Jvm.Cond := Jvm.Cond.code yX7_mean cX7_mean 3 (some .long) :: am_B
set_option maxRecDepth 100000 in
set_option maxHeartbeats 4000000 in
theorem snX7_mean : am_Snd vwCl yX7_mean wsX7_mean rmX7_mean sX7_mean := am_snd_of (cc := cX7_mean) (by decide) rfl (by decide +kernel) (am_Fl (fun _ h => absurd h List.not_mem_nil)) (am_Kl (List.forall_mem_cons.mpr ⟨List.mem_cons_of_mem _ wd_625, List.forall_mem_cons.mpr ⟨List.mem_cons_of_mem _ wd_633, fun _ h => absurd h List.not_mem_nil⟩⟩)) (am_Cl (List.forall_mem_cons.mpr ⟨am_cal_S snX7_in (am_gS wd_457 wd_458 wd_459 wd_460) rfl rfl rfl (by decide +kernel) ⟨am_le rfl, am_le rfl⟩, List.forall_mem_cons.mpr ⟨am_cal_V (r := (RX7, TX7, 29)) snX7_meanOf rfl (by decide) (am_gV wd_634 wd_635 wd_636 wd_459 wd_637) rfl rfl rfl (by decide +kernel) ⟨am_le rfl, am_le rfl⟩, fun _ h => absurd h List.not_mem_nil⟩⟩))
abbrev rmX7_see : Room := { frames := 2, cells := 0, slots := 0, locals := 46 }
abbrev wsX7_see : List Jvm.Cond := Jvm.Cond.code yX7_see cX7_see 3 (some .int) :: am_B
set_option maxRecDepth 100000 in
set_option maxHeartbeats 4000000 in
theorem snX7_see : am_Snd vwCl yX7_see wsX7_see rmX7_see sX7_see := am_snd_of (cc := cX7_see) (by decide) rfl (by decide +kernel) (am_Fl (List.forall_mem_cons.mpr ⟨fdX7 (am_lt rfl) wd_505, List.forall_mem_cons.mpr ⟨fdX7 (am_lt rfl) wd_638, fun _ h => absurd h List.not_mem_nil⟩⟩)) (am_Kl (fun _ h => absurd h List.not_mem_nil)) (am_Cl (List.forall_mem_cons.mpr ⟨am_cal_V (r := (RX7, TX7, 29)) snX7_isOne rfl (by decide) (am_gV wd_522 wd_523 wd_524 wd_459 wd_525) rfl rfl rfl (by decide +kernel) ⟨am_le rfl, am_le rfl⟩, fun _ h => absurd h List.not_mem_nil⟩))
abbrev rmX7_forget : Room := { frames := 1, cells := 0, slots := 0, locals := 25 }
abbrev wsX7_forget : List Jvm.Cond := Jvm.Cond.code yX7_forget cX7_forget 3 (some .int) :: am_B
set_option maxRecDepth 100000 in
set_option maxHeartbeats 4000000 in
theorem snX7_forget : am_Snd vwCl yX7_forget wsX7_forget rmX7_forget sX7_forget := am_snd_of (cc := cX7_forget) (by decide) rfl (by decide +kernel) (am_Fl (List.forall_mem_cons.mpr ⟨fdX7 (am_lt rfl) wd_505, fun _ h => absurd h List.not_mem_nil⟩)) (am_Kl (fun _ h => absurd h List.not_mem_nil)) (am_Cl (List.forall_mem_cons.mpr ⟨am_cal_S snX7_in (am_gS wd_457 wd_458 wd_459 wd_460) rfl rfl rfl (by decide +kernel) ⟨am_le rfl, am_le rfl⟩, fun _ h => absurd h List.not_mem_nil⟩))
abbrev rmX7_fits : Room := { frames := 5, cells := 0, slots := 0, locals := 114 }
abbrev wsX7_fits : List Jvm.Cond := Jvm.Cond.code yX7_fits cX7_fits 6 (some .int) :: am_B
set_option maxRecDepth 100000 in
set_option maxHeartbeats 4000000 in
theorem snX7_fits : am_Snd vwCl yX7_fits wsX7_fits rmX7_fits sX7_fits := am_snd_of (cc := cX7_fits) (by decide) rfl (by decide +kernel) (am_Fl (List.forall_mem_cons.mpr ⟨fdX7 (am_lt rfl) wd_506, List.forall_mem_cons.mpr ⟨fdX7 (am_lt rfl) wd_505, List.forall_mem_cons.mpr ⟨fdX7 (am_lt rfl) wd_638, fun _ h => absurd h List.not_mem_nil⟩⟩⟩)) (am_Kl (List.forall_mem_cons.mpr ⟨List.mem_cons_of_mem _ wd_592, fun _ h => absurd h List.not_mem_nil⟩)) (am_Cl (List.forall_mem_cons.mpr ⟨am_cal_S snX7_in (am_gS wd_457 wd_458 wd_459 wd_460) rfl rfl rfl (by decide +kernel) ⟨am_le rfl, am_le rfl⟩, List.forall_mem_cons.mpr ⟨am_cal_V (r := (RX7, TX7, 29)) snX7_begins rfl (by decide) (am_gV wd_605 wd_606 wd_607 wd_459 wd_608) rfl rfl rfl (by decide +kernel) ⟨am_le rfl, am_le rfl⟩, List.forall_mem_cons.mpr ⟨am_cal_V (r := (RX7, TX7, 29)) snX7_isBoat rfl (by decide) (am_gV wd_601 wd_602 wd_603 wd_459 wd_604) rfl rfl rfl (by decide +kernel) ⟨am_le rfl, am_le rfl⟩, List.forall_mem_cons.mpr ⟨am_cal_V (r := (RX7, TX7, 29)) snX7_comesSet rfl (by decide) (am_gV wd_597 wd_598 wd_599 wd_459 wd_600) rfl rfl rfl (by decide +kernel) ⟨am_le rfl, am_le rfl⟩, List.forall_mem_cons.mpr ⟨am_cal_V (r := (RX7, TX7, 29)) snX7_answers rfl (by decide) (am_gV wd_593 wd_594 wd_595 wd_459 wd_596) rfl rfl rfl (by decide +kernel) ⟨am_le rfl, am_le rfl⟩, fun _ h => absurd h List.not_mem_nil⟩⟩⟩⟩⟩))
abbrev rmX7_drift : Room := { frames := 4, cells := 0, slots := 0, locals := 94 }
abbrev wsX7_drift : List Jvm.Cond := Jvm.Cond.code yX7_drift cX7_drift 6 (some .int) :: am_B
set_option maxRecDepth 100000 in
set_option maxHeartbeats 4000000 in
theorem snX7_drift : am_Snd vwCl yX7_drift wsX7_drift rmX7_drift sX7_drift := am_snd_of (cc := cX7_drift) (by decide) rfl (by decide +kernel) (am_Fl (List.forall_mem_cons.mpr ⟨fdX7 (am_lt rfl) wd_506, List.forall_mem_cons.mpr ⟨fdX7 (am_lt rfl) wd_507, fun _ h => absurd h List.not_mem_nil⟩⟩)) (am_Kl (List.forall_mem_cons.mpr ⟨List.mem_cons_of_mem _ wd_640, List.forall_mem_cons.mpr ⟨List.mem_cons_of_mem _ wd_639, fun _ h => absurd h List.not_mem_nil⟩⟩)) (am_Cl (List.forall_mem_cons.mpr ⟨am_cal_S snX7_in (am_gS wd_457 wd_458 wd_459 wd_460) rfl rfl rfl (by decide +kernel) ⟨am_le rfl, am_le rfl⟩, List.forall_mem_cons.mpr ⟨am_cal_V (r := (RX7, TX7, 29)) snX7_copies rfl (by decide) (am_gV wd_571 wd_572 wd_573 wd_459 wd_574) rfl rfl rfl (by decide +kernel) ⟨am_le rfl, am_le rfl⟩, List.forall_mem_cons.mpr ⟨am_cal_V (r := (RX7, TX7, 29)) snX7_boards rfl (by decide) (am_gV wd_554 wd_555 wd_556 wd_459 wd_557) rfl rfl rfl (by decide +kernel) ⟨am_le rfl, am_le rfl⟩, List.forall_mem_cons.mpr ⟨am_cal_V (r := (RX7, TX7, 29)) snX7_whoOn rfl (by decide) (am_gV wd_513 wd_514 wd_515 wd_459 wd_516) rfl rfl rfl (by decide +kernel) ⟨am_le rfl, am_le rfl⟩, fun _ h => absurd h List.not_mem_nil⟩⟩⟩⟩))
abbrev rmX7_keep : Room := { frames := 1, cells := 0, slots := 0, locals := 25 }
abbrev wsX7_keep : List Jvm.Cond := Jvm.Cond.code yX7_keep cX7_keep 3 (some .int) :: am_B
set_option maxRecDepth 100000 in
set_option maxHeartbeats 4000000 in
theorem snX7_keep : am_Snd vwCl yX7_keep wsX7_keep rmX7_keep sX7_keep := am_snd_of (cc := cX7_keep) (by decide) rfl (by decide +kernel) (am_Fl (List.forall_mem_cons.mpr ⟨fdX7 (am_lt rfl) wd_504, fun _ h => absurd h List.not_mem_nil⟩)) (am_Kl (fun _ h => absurd h List.not_mem_nil)) (am_Cl (List.forall_mem_cons.mpr ⟨am_cal_S snX7_in (am_gS wd_457 wd_458 wd_459 wd_460) rfl rfl rfl (by decide +kernel) ⟨am_le rfl, am_le rfl⟩, List.forall_mem_cons.mpr ⟨am_cal_V (r := (RX7, TX7, 29)) snX7_copies rfl (by decide) (am_gV wd_571 wd_572 wd_573 wd_459 wd_574) rfl rfl rfl (by decide +kernel) ⟨am_le rfl, am_le rfl⟩, fun _ h => absurd h List.not_mem_nil⟩⟩))
abbrev rmX7_back : Room := { frames := 1, cells := 0, slots := 0, locals := 25 }
abbrev wsX7_back : List Jvm.Cond := Jvm.Cond.code yX7_back cX7_back 2 (some .int) :: am_B
set_option maxRecDepth 100000 in
set_option maxHeartbeats 4000000 in
theorem snX7_back : am_Snd vwCl yX7_back wsX7_back rmX7_back sX7_back := am_snd_of (cc := cX7_back) (by decide) rfl (by decide +kernel) (am_Fl (List.forall_mem_cons.mpr ⟨fdX7 (am_lt rfl) wd_504, List.forall_mem_cons.mpr ⟨fdX7 (am_lt rfl) wd_507, fun _ h => absurd h List.not_mem_nil⟩⟩)) (am_Kl (fun _ h => absurd h List.not_mem_nil)) (am_Cl (List.forall_mem_cons.mpr ⟨am_cal_S snX7_in (am_gS wd_457 wd_458 wd_459 wd_460) rfl rfl rfl (by decide +kernel) ⟨am_le rfl, am_le rfl⟩, List.forall_mem_cons.mpr ⟨am_cal_V (r := (RX7, TX7, 29)) snX7_copies rfl (by decide) (am_gV wd_571 wd_572 wd_573 wd_459 wd_574) rfl rfl rfl (by decide +kernel) ⟨am_le rfl, am_le rfl⟩, fun _ h => absurd h List.not_mem_nil⟩⟩))
abbrev rmX7_sheet : Room := { frames := 1, cells := 0, slots := 0, locals := 25 }
abbrev wsX7_sheet : List Jvm.Cond := Jvm.Cond.code yX7_sheet cX7_sheet 5 (some .int) :: am_B
set_option maxRecDepth 100000 in
set_option maxHeartbeats 4000000 in
theorem snX7_sheet : am_Snd vwCl yX7_sheet wsX7_sheet rmX7_sheet sX7_sheet := am_snd_of (cc := cX7_sheet) (by decide) rfl (by decide +kernel) (am_Fl (List.forall_mem_cons.mpr ⟨fdX7 (am_lt rfl) wd_643, List.forall_mem_cons.mpr ⟨fdX7 (am_lt rfl) wd_642, List.forall_mem_cons.mpr ⟨fdX7 (am_lt rfl) wd_641, fun _ h => absurd h List.not_mem_nil⟩⟩⟩)) (am_Kl (List.forall_mem_cons.mpr ⟨List.mem_cons_of_mem _ wd_592, List.forall_mem_cons.mpr ⟨List.mem_cons_of_mem _ wd_537, fun _ h => absurd h List.not_mem_nil⟩⟩)) (am_Cl (List.forall_mem_cons.mpr ⟨am_cal_S snX7_in (am_gS wd_457 wd_458 wd_459 wd_460) rfl rfl rfl (by decide +kernel) ⟨am_le rfl, am_le rfl⟩, fun _ h => absurd h List.not_mem_nil⟩))
abbrev rmX7_lay : Room := { frames := 1, cells := 0, slots := 0, locals := 25 }
abbrev wsX7_lay : List Jvm.Cond := Jvm.Cond.code yX7_lay cX7_lay 4 (some .int) :: am_B
set_option maxRecDepth 100000 in
set_option maxHeartbeats 4000000 in
theorem snX7_lay : am_Snd vwCl yX7_lay wsX7_lay rmX7_lay sX7_lay := am_snd_of (cc := cX7_lay) (by decide) rfl (by decide +kernel) (am_Fl (List.forall_mem_cons.mpr ⟨fdX7 (am_lt rfl) wd_643, List.forall_mem_cons.mpr ⟨fdX7 (am_lt rfl) wd_642, List.forall_mem_cons.mpr ⟨fdX7 (am_lt rfl) wd_641, fun _ h => absurd h List.not_mem_nil⟩⟩⟩)) (am_Kl (List.forall_mem_cons.mpr ⟨List.mem_cons_of_mem _ wd_592, fun _ h => absurd h List.not_mem_nil⟩)) (am_Cl (List.forall_mem_cons.mpr ⟨am_cal_S snX7_in (am_gS wd_457 wd_458 wd_459 wd_460) rfl rfl rfl (by decide +kernel) ⟨am_le rfl, am_le rfl⟩, fun _ h => absurd h List.not_mem_nil⟩))
abbrev rmX7_read : Room := { frames := 5, cells := 0, slots := 0, locals := 115 }
abbrev wsX7_read : List Jvm.Cond := Jvm.Cond.code yX7_read cX7_read 7 (some .int) :: am_B
set_option maxRecDepth 100000 in
set_option maxHeartbeats 4000000 in
theorem snX7_read : am_Snd vwCl yX7_read wsX7_read rmX7_read sX7_read := am_snd_of (cc := cX7_read) (by decide) rfl (by decide +kernel) (am_Fl (List.forall_mem_cons.mpr ⟨fdX7 (am_lt rfl) wd_643, List.forall_mem_cons.mpr ⟨fdX7 (am_lt rfl) wd_642, List.forall_mem_cons.mpr ⟨fdX7 (am_lt rfl) wd_641, List.forall_mem_cons.mpr ⟨fdX7 (am_lt rfl) wd_644, fun _ h => absurd h List.not_mem_nil⟩⟩⟩⟩)) (am_Kl (List.forall_mem_cons.mpr ⟨List.mem_cons_of_mem _ wd_592, List.forall_mem_cons.mpr ⟨List.mem_cons_of_mem _ wd_537, List.forall_mem_cons.mpr ⟨List.mem_cons_of_mem _ wd_645, fun _ h => absurd h List.not_mem_nil⟩⟩⟩)) (am_Cl (List.forall_mem_cons.mpr ⟨am_cal_S snX7_in (am_gS wd_457 wd_458 wd_459 wd_460) rfl rfl rfl (by decide +kernel) ⟨am_le rfl, am_le rfl⟩, List.forall_mem_cons.mpr ⟨am_cal_V (r := (RX7, TX7, 29)) snX7_copies rfl (by decide) (am_gV wd_571 wd_572 wd_573 wd_459 wd_574) rfl rfl rfl (by decide +kernel) ⟨am_le rfl, am_le rfl⟩, List.forall_mem_cons.mpr ⟨am_cal_V (r := (RX7, TX7, 29)) snX7_boarded rfl (by decide) (am_gV wd_558 wd_559 wd_560 wd_459 wd_561) rfl rfl rfl (by decide +kernel) ⟨am_le rfl, am_le rfl⟩, fun _ h => absurd h List.not_mem_nil⟩⟩⟩))
abbrev rmX7_torn : Room := { frames := 0, cells := 0, slots := 0, locals := 0 }
abbrev wsX7_torn : List Jvm.Cond := Jvm.Cond.code yX7_torn cX7_torn 1 (some .int) :: am_B
set_option maxRecDepth 100000 in
set_option maxHeartbeats 4000000 in
theorem snX7_torn : am_Snd vwCl yX7_torn wsX7_torn rmX7_torn sX7_torn := am_snd_of (cc := cX7_torn) (by decide) rfl (by decide +kernel) (am_Fl (List.forall_mem_cons.mpr ⟨fdX7 (am_lt rfl) wd_644, fun _ h => absurd h List.not_mem_nil⟩)) (am_Kl (fun _ h => absurd h List.not_mem_nil)) (am_Cl (fun _ h => absurd h List.not_mem_nil))
abbrev rmX7_count : Room := { frames := 3, cells := 0, slots := 0, locals := 70 }
abbrev wsX7_count : List Jvm.Cond := Jvm.Cond.code yX7_count cX7_count 5 (some .int) :: am_B
set_option maxRecDepth 100000 in
set_option maxHeartbeats 4000000 in
theorem snX7_count : am_Snd vwCl yX7_count wsX7_count rmX7_count sX7_count := am_snd_of (cc := cX7_count) (by decide) rfl (by decide +kernel) (am_Fl (List.forall_mem_cons.mpr ⟨fdX7 (am_lt rfl) wd_506, List.forall_mem_cons.mpr ⟨fdX7 (am_lt rfl) wd_505, List.forall_mem_cons.mpr ⟨fdX7 (am_lt rfl) wd_504, List.forall_mem_cons.mpr ⟨fdX7 (am_lt rfl) wd_455, List.forall_mem_cons.mpr ⟨fdX7 (am_lt rfl) wd_643, List.forall_mem_cons.mpr ⟨fdX7 (am_lt rfl) wd_642, fun _ h => absurd h List.not_mem_nil⟩⟩⟩⟩⟩⟩)) (am_Kl (fun _ h => absurd h List.not_mem_nil)) (am_Cl (List.forall_mem_cons.mpr ⟨am_cal_V (r := (RX7, TX7, 29)) snX7_hereNow rfl (by decide) (am_gV wd_580 wd_581 wd_582 wd_459 wd_583) rfl rfl rfl (by decide +kernel) ⟨am_le rfl, am_le rfl⟩, List.forall_mem_cons.mpr ⟨am_cal_V (r := (RX7, TX7, 29)) snX7_alikeWith rfl (by decide) (am_gV wd_533 wd_534 wd_535 wd_459 wd_536) rfl rfl rfl (by decide +kernel) ⟨am_le rfl, am_le rfl⟩, List.forall_mem_cons.mpr ⟨am_cal_S snX7_bitsOf (am_gS wd_547 wd_548 wd_459 wd_549) rfl rfl rfl (by decide +kernel) ⟨am_le rfl, am_le rfl⟩, List.forall_mem_cons.mpr ⟨am_cal_V (r := (RX7, TX7, 29)) snX7_whoOn rfl (by decide) (am_gV wd_513 wd_514 wd_515 wd_459 wd_516) rfl rfl rfl (by decide +kernel) ⟨am_le rfl, am_le rfl⟩, fun _ h => absurd h List.not_mem_nil⟩⟩⟩⟩))
