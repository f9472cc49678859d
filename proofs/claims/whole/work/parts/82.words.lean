/-! the tables' words that the methods use -/
/-- the words that hold of the tables wherever a method is called -/
def am_B : List Jvm.Cond := lw_tbl.filter goodWord
theorem am_inB {w : Jvm.Cond} {i : Nat} (h : tables_1[i]? = some w) (hg : goodWord w = true) : w ∈ am_B := List.mem_filter.mpr ⟨List.mem_append_right _ (List.mem_of_getElem? h), hg⟩
theorem am_inP {w : Jvm.Cond} {i : Nat} (h : (k2_sels lw_privs)[i]? = some w) (hg : goodWord w = true) : w ∈ am_B := List.mem_filter.mpr ⟨List.mem_append_left _ (List.mem_of_getElem? h), hg⟩
theorem am_gW {w : Jvm.Cond} (h : w ∈ am_B) {a : Jvm.Cond} : w ∈ a :: am_B ∧ ((w.onTables && w.keeps) = true ∨ ∃ ty, w = .arrayClass ty) := ⟨List.mem_cons_of_mem _ h, good_of_word (List.mem_filter.mp h).2⟩
theorem am_gB {a c : Jvm.Cond} (hc : c ∈ am_B) : GoodIn (a :: am_B) (c :: am_B) := fun w hw => (List.mem_cons.mp hw).elim (fun e => e ▸ am_gW hc) (fun h => am_gW h)
theorem am_gV {a c : Jvm.Cond} {own C : String} {x : Nat} {y : MethodName} (h1 : Jvm.Cond.methodLink own x y ∈ am_B) (h2 : Jvm.Cond.instanceMethod y ∈ am_B) (h3 : Jvm.Cond.selects C y y ∈ am_B) (h4 : Jvm.Cond.initialized C ∈ am_B) (hc : c ∈ am_B) : GoodIn (a :: am_B) (wsV own x C y (c :: am_B)) := by
  intro w hw
  rcases List.mem_append.mp hw with h | h
  · simp only [List.mem_cons, List.not_mem_nil, or_false] at h
    rcases h with rfl | rfl | rfl | rfl
    · exact am_gW h1
    · exact am_gW h2
    · exact am_gW h3
    · exact am_gW h4
  · exact am_gB hc w h
theorem am_gS {a c : Jvm.Cond} {own : String} {x : Nat} {y : MethodName} (h1 : Jvm.Cond.methodLink own x y ∈ am_B) (h2 : Jvm.Cond.static y ∈ am_B) (h4 : Jvm.Cond.initialized y.cls ∈ am_B) (hc : c ∈ am_B) : GoodIn (a :: am_B) (va_wsS own x y (c :: am_B)) := by
  intro w hw
  rcases List.mem_append.mp hw with h | h
  · simp only [List.mem_cons, List.not_mem_nil, or_false] at h
    rcases h with rfl | rfl | rfl
    · exact am_gW h1
    · exact am_gW h2
    · exact am_gW h4
  · exact am_gB hc w h
theorem wd_0 : Jvm.Cond.fieldLink RJ0 38 "java/lang/String" "COMPACT_STRINGS" "Z" ∈ am_B := am_inB (i := 308) (by decide +kernel) rfl
theorem wd_1 : Jvm.Cond.fieldLink RJ0 15 "java/lang/String" "coder" "B" ∈ am_B := am_inB (i := 1133) (by decide +kernel) rfl
theorem wd_2 : Jvm.Cond.fieldLink RJ0 9 "java/lang/String" "value" "[B" ∈ am_B := am_inB (i := 1132) (by decide +kernel) rfl
theorem wd_3 : Jvm.Cond.fieldLink RJ0 1053 "jdk/internal/util/Preconditions" "SIOOBE_FORMATTER" "Ljava/util/function/BiFunction;" ∈ am_B := am_inB (i := 325) (by decide +kernel) rfl
theorem wd_4 : Jvm.Cond.methodLink RJ0 1059 yJ3_checkIndex_8e157 ∈ am_B := am_inB (i := 327) (by decide +kernel) rfl
theorem wd_5 : Jvm.Cond.static yJ3_checkIndex_8e157 ∈ am_B := am_inB (i := 328) (by decide +kernel) rfl
theorem wd_6 : Jvm.Cond.initialized RJ3 ∈ am_B := am_inB (i := 11) (by decide +kernel) rfl
theorem wd_7 : Jvm.Cond.code yJ3_checkIndex_8e157 cJ3_checkIndex_8e157 3 (some .int) ∈ am_B := am_inB (i := 329) (by decide +kernel) rfl
theorem wd_8 : Jvm.Cond.methodLink RJ1 9 yJ0_checkIndex_df160 ∈ am_B := am_inB (i := 322) (by decide +kernel) rfl
theorem wd_9 : Jvm.Cond.static yJ0_checkIndex_df160 ∈ am_B := am_inB (i := 323) (by decide +kernel) rfl
theorem wd_10 : Jvm.Cond.initialized RJ0 ∈ am_B := am_inB (i := 9) (by decide +kernel) rfl
theorem wd_11 : Jvm.Cond.code yJ0_checkIndex_df160 cJ0_checkIndex_df160 2 none ∈ am_B := am_inB (i := 324) (by decide +kernel) rfl
theorem wd_12 : Jvm.Cond.methodLink RJ0 492 yJ0_isLatin1_aae02 ∈ am_B := am_inB (i := 315) (by decide +kernel) rfl
theorem wd_13 : Jvm.Cond.instanceMethod yJ0_isLatin1_aae02 ∈ am_B := am_inB (i := 316) (by decide +kernel) rfl
theorem wd_14 : Jvm.Cond.selects RJ0 yJ0_isLatin1_aae02 yJ0_isLatin1_aae02 ∈ am_B := am_inB (i := 317) (by decide +kernel) rfl
theorem wd_15 : Jvm.Cond.code yJ0_isLatin1_aae02 cJ0_isLatin1_aae02 1 (some .boolean) ∈ am_B := am_inB (i := 318) (by decide +kernel) rfl
theorem wd_16 : Jvm.Cond.methodLink RJ0 495 yJ1_charAt_3b067 ∈ am_B := am_inB (i := 319) (by decide +kernel) rfl
theorem wd_17 : Jvm.Cond.static yJ1_charAt_3b067 ∈ am_B := am_inB (i := 320) (by decide +kernel) rfl
theorem wd_18 : Jvm.Cond.initialized RJ1 ∈ am_B := am_inB (i := 10) (by decide +kernel) rfl
theorem wd_19 : Jvm.Cond.code yJ1_charAt_3b067 cJ1_charAt_3b067 2 (some .char) ∈ am_B := am_inB (i := 321) (by decide +kernel) rfl
theorem wd_20 : Jvm.Cond.methodLink RJ0 335 yJ0_coder_7d493 ∈ am_B := am_inB (i := 304) (by decide +kernel) rfl
theorem wd_21 : Jvm.Cond.instanceMethod yJ0_coder_7d493 ∈ am_B := am_inB (i := 305) (by decide +kernel) rfl
theorem wd_22 : Jvm.Cond.selects RJ0 yJ0_coder_7d493 yJ0_coder_7d493 ∈ am_B := am_inB (i := 306) (by decide +kernel) rfl
theorem wd_23 : Jvm.Cond.code yJ0_coder_7d493 cJ0_coder_7d493 1 (some .byte) ∈ am_B := am_inB (i := 307) (by decide +kernel) rfl
theorem wd_24 : Jvm.Cond.methodLink RX5 19 yJ0_length_8abf5 ∈ am_B := am_inB (i := 300) (by decide +kernel) rfl
theorem wd_25 : Jvm.Cond.instanceMethod yJ0_length_8abf5 ∈ am_B := am_inB (i := 301) (by decide +kernel) rfl
theorem wd_26 : Jvm.Cond.selects RJ0 yJ0_length_8abf5 yJ0_length_8abf5 ∈ am_B := am_inB (i := 302) (by decide +kernel) rfl
theorem wd_27 : Jvm.Cond.code yJ0_length_8abf5 cJ0_length_8abf5 1 (some .int) ∈ am_B := am_inB (i := 303) (by decide +kernel) rfl
theorem wd_28 : Jvm.Cond.methodLink RX5 28 yJ0_charAt_5068e ∈ am_B := am_inB (i := 311) (by decide +kernel) rfl
theorem wd_29 : Jvm.Cond.instanceMethod yJ0_charAt_5068e ∈ am_B := am_inB (i := 312) (by decide +kernel) rfl
theorem wd_30 : Jvm.Cond.selects RJ0 yJ0_charAt_5068e yJ0_charAt_5068e ∈ am_B := am_inB (i := 313) (by decide +kernel) rfl
theorem wd_31 : Jvm.Cond.code yJ0_charAt_5068e cJ0_charAt_5068e 2 (some .char) ∈ am_B := am_inB (i := 314) (by decide +kernel) rfl
theorem wd_32 : Jvm.Cond.laysFinal RX0 "UnlikeFerry$Crew" "ones" "[[I" ∈ am_B := am_inB (i := 75) (by decide +kernel) rfl
theorem wd_33 : Jvm.Cond.lays RX0 "UnlikeFerry$Crew" "many" "I" ∈ am_B := am_inB (i := 77) (by decide +kernel) rfl
theorem wd_34 : Jvm.Cond.lays RX0 "UnlikeFerry$Crew" "places" "I" ∈ am_B := am_inB (i := 79) (by decide +kernel) rfl
theorem wd_35 : Jvm.Cond.lays RX0 "UnlikeFerry$Crew" "tradeCost" "I" ∈ am_B := am_inB (i := 81) (by decide +kernel) rfl
theorem wd_36 : Jvm.Cond.lays RX0 "UnlikeFerry$Crew" "taleCost" "I" ∈ am_B := am_inB (i := 83) (by decide +kernel) rfl
theorem wd_37 : Jvm.Cond.lays RX0 "UnlikeFerry$Crew" "hour" "I" ∈ am_B := am_inB (i := 85) (by decide +kernel) rfl
theorem wd_38 : Jvm.Cond.lays RX0 "UnlikeFerry$Crew" "boats" "I" ∈ am_B := am_inB (i := 87) (by decide +kernel) rfl
theorem wd_39 : Jvm.Cond.laysFinal RX1 "UnlikeFerry$Reader" "tape" "LUnlikeFerry$Tape;" ∈ am_B := am_inB (i := 107) (by decide +kernel) rfl
theorem wd_40 : Jvm.Cond.laysFinal RX1 "UnlikeFerry$Reader" "crew" "LUnlikeFerry$Crew;" ∈ am_B := am_inB (i := 109) (by decide +kernel) rfl
theorem wd_41 : Jvm.Cond.lays RX1 "UnlikeFerry$Reader" "lines" "I" ∈ am_B := am_inB (i := 111) (by decide +kernel) rfl
theorem wd_42 : Jvm.Cond.lays RX1 "UnlikeFerry$Reader" "fault" "I" ∈ am_B := am_inB (i := 113) (by decide +kernel) rfl
theorem wd_43 : Jvm.Cond.lays RX1 "UnlikeFerry$Reader" "place" "I" ∈ am_B := am_inB (i := 115) (by decide +kernel) rfl
theorem wd_44 : Jvm.Cond.lays RX1 "UnlikeFerry$Reader" "token" "I" ∈ am_B := am_inB (i := 117) (by decide +kernel) rfl
theorem wd_45 : Jvm.Cond.lays RX1 "UnlikeFerry$Reader" "start" "I" ∈ am_B := am_inB (i := 119) (by decide +kernel) rfl
theorem wd_46 : Jvm.Cond.lays RX1 "UnlikeFerry$Reader" "stop" "I" ∈ am_B := am_inB (i := 121) (by decide +kernel) rfl
theorem wd_47 : Jvm.Cond.lays RX1 "UnlikeFerry$Reader" "waiting" "I" ∈ am_B := am_inB (i := 123) (by decide +kernel) rfl
theorem wd_48 : Jvm.Cond.lays RX1 "UnlikeFerry$Reader" "seatsTold" "Z" ∈ am_B := am_inB (i := 125) (by decide +kernel) rfl
theorem wd_49 : Jvm.Cond.lays RX1 "UnlikeFerry$Reader" "costTold" "Z" ∈ am_B := am_inB (i := 127) (by decide +kernel) rfl
theorem wd_50 : Jvm.Cond.laysFinal RX2 "UnlikeFerry$Seen" "who" "[I" ∈ am_B := am_inB (i := 167) (by decide +kernel) rfl
theorem wd_51 : Jvm.Cond.laysFinal RX2 "UnlikeFerry$Seen" "was" "[Z" ∈ am_B := am_inB (i := 169) (by decide +kernel) rfl
theorem wd_52 : Jvm.Cond.lays RX2 "UnlikeFerry$Seen" "many" "I" ∈ am_B := am_inB (i := 171) (by decide +kernel) rfl
theorem wd_53 : Jvm.Cond.laysFinal RX3 "UnlikeFerry$Sets" "rivals" "[I" ∈ am_B := am_inB (i := 146) (by decide +kernel) rfl
theorem wd_54 : Jvm.Cond.laysFinal RX3 "UnlikeFerry$Sets" "found" "[I" ∈ am_B := am_inB (i := 148) (by decide +kernel) rfl
theorem wd_55 : Jvm.Cond.laysFinal RX3 "UnlikeFerry$Sets" "packed" "[I" ∈ am_B := am_inB (i := 150) (by decide +kernel) rfl
theorem wd_56 : Jvm.Cond.lays RX3 "UnlikeFerry$Sets" "many" "I" ∈ am_B := am_inB (i := 152) (by decide +kernel) rfl
theorem wd_57 : Jvm.Cond.lays RX3 "UnlikeFerry$Sets" "pools" "I" ∈ am_B := am_inB (i := 154) (by decide +kernel) rfl
theorem wd_58 : Jvm.Cond.laysFinal RX4 "UnlikeFerry$Sheet" "cells" "[I" ∈ am_B := am_inB (i := 190) (by decide +kernel) rfl
theorem wd_59 : Jvm.Cond.lays RX4 "UnlikeFerry$Sheet" "isRow" "Z" ∈ am_B := am_inB (i := 192) (by decide +kernel) rfl
theorem wd_60 : Jvm.Cond.lays RX4 "UnlikeFerry$Sheet" "lane" "I" ∈ am_B := am_inB (i := 194) (by decide +kernel) rfl
theorem wd_61 : Jvm.Cond.lays RX4 "UnlikeFerry$Sheet" "size" "I" ∈ am_B := am_inB (i := 196) (by decide +kernel) rfl
theorem wd_62 : Jvm.Cond.laysFinal RX5 "UnlikeFerry$Tape" "bytes" "[B" ∈ am_B := am_inB (i := 40) (by decide +kernel) rfl
theorem wd_63 : Jvm.Cond.lays RX5 "UnlikeFerry$Tape" "length" "I" ∈ am_B := am_inB (i := 42) (by decide +kernel) rfl
theorem wd_64 : Jvm.Cond.laysFinal RX6 "UnlikeFerry" "reader" "LUnlikeFerry$Reader;" ∈ am_B := am_inB (i := 211) (by decide +kernel) rfl
theorem wd_65 : Jvm.Cond.laysFinal RX6 "UnlikeFerry" "tape" "LUnlikeFerry$Tape;" ∈ am_B := am_inB (i := 213) (by decide +kernel) rfl
theorem wd_66 : Jvm.Cond.laysFinal RX6 "UnlikeFerry" "now" "LUnlikeFerry$Crew;" ∈ am_B := am_inB (i := 215) (by decide +kernel) rfl
theorem wd_67 : Jvm.Cond.laysFinal RX6 "UnlikeFerry" "trial" "LUnlikeFerry$Crew;" ∈ am_B := am_inB (i := 217) (by decide +kernel) rfl
theorem wd_68 : Jvm.Cond.laysFinal RX6 "UnlikeFerry" "unlike" "LUnlikeFerry$Sets;" ∈ am_B := am_inB (i := 219) (by decide +kernel) rfl
theorem wd_69 : Jvm.Cond.laysFinal RX6 "UnlikeFerry" "seen" "LUnlikeFerry$Seen;" ∈ am_B := am_inB (i := 221) (by decide +kernel) rfl
theorem wd_70 : Jvm.Cond.laysFinal RX6 "UnlikeFerry" "images" "[LUnlikeFerry$Crew;" ∈ am_B := am_inB (i := 223) (by decide +kernel) rfl
theorem wd_71 : Jvm.Cond.laysFinal RX6 "UnlikeFerry" "imageStands" "[Z" ∈ am_B := am_inB (i := 225) (by decide +kernel) rfl
theorem wd_72 : Jvm.Cond.laysFinal RX6 "UnlikeFerry" "sheets" "[LUnlikeFerry$Sheet;" ∈ am_B := am_inB (i := 227) (by decide +kernel) rfl
theorem wd_73 : Jvm.Cond.laysFinal RX6 "UnlikeFerry" "guest" "[I" ∈ am_B := am_inB (i := 229) (by decide +kernel) rfl
theorem wd_74 : Jvm.Cond.lays RX6 "UnlikeFerry" "textFault" "I" ∈ am_B := am_inB (i := 231) (by decide +kernel) rfl
theorem wd_75 : Jvm.Cond.lays RX6 "UnlikeFerry" "readFault" "I" ∈ am_B := am_inB (i := 233) (by decide +kernel) rfl
theorem wd_76 : Jvm.Cond.laysFinal RX7 "UnlikeFerryModel" "state" "[I" ∈ am_B := am_inB (i := 755) (by decide +kernel) rfl
theorem wd_77 : Jvm.Cond.lays RX7 "UnlikeFerryModel" "oneMany" "I" ∈ am_B := am_inB (i := 757) (by decide +kernel) rfl
theorem wd_78 : Jvm.Cond.laysFinal RX7 "UnlikeFerryModel" "readPage" "[I" ∈ am_B := am_inB (i := 759) (by decide +kernel) rfl
theorem wd_79 : Jvm.Cond.lays RX7 "UnlikeFerryModel" "readOnes" "I" ∈ am_B := am_inB (i := 761) (by decide +kernel) rfl
theorem wd_80 : Jvm.Cond.lays RX7 "UnlikeFerryModel" "toldOnce" "I" ∈ am_B := am_inB (i := 763) (by decide +kernel) rfl
theorem wd_81 : Jvm.Cond.lays RX7 "UnlikeFerryModel" "hereTold" "I" ∈ am_B := am_inB (i := 765) (by decide +kernel) rfl
theorem wd_82 : Jvm.Cond.laysFinal RX7 "UnlikeFerryModel" "tape" "[I" ∈ am_B := am_inB (i := 767) (by decide +kernel) rfl
theorem wd_83 : Jvm.Cond.lays RX7 "UnlikeFerryModel" "taped" "I" ∈ am_B := am_inB (i := 769) (by decide +kernel) rfl
theorem wd_84 : Jvm.Cond.lays RX7 "UnlikeFerryModel" "fault" "I" ∈ am_B := am_inB (i := 771) (by decide +kernel) rfl
theorem wd_85 : Jvm.Cond.lays RX7 "UnlikeFerryModel" "broken" "I" ∈ am_B := am_inB (i := 773) (by decide +kernel) rfl
theorem wd_86 : Jvm.Cond.lays RX7 "UnlikeFerryModel" "brokenAt" "I" ∈ am_B := am_inB (i := 775) (by decide +kernel) rfl
theorem wd_87 : Jvm.Cond.lays RX7 "UnlikeFerryModel" "spot" "I" ∈ am_B := am_inB (i := 777) (by decide +kernel) rfl
theorem wd_88 : Jvm.Cond.lays RX7 "UnlikeFerryModel" "here" "I" ∈ am_B := am_inB (i := 779) (by decide +kernel) rfl
theorem wd_89 : Jvm.Cond.lays RX7 "UnlikeFerryModel" "token" "I" ∈ am_B := am_inB (i := 781) (by decide +kernel) rfl
theorem wd_90 : Jvm.Cond.lays RX7 "UnlikeFerryModel" "value" "I" ∈ am_B := am_inB (i := 783) (by decide +kernel) rfl
theorem wd_91 : Jvm.Cond.laysFinal RX7 "UnlikeFerryModel" "cuts" "[I" ∈ am_B := am_inB (i := 785) (by decide +kernel) rfl
theorem wd_92 : Jvm.Cond.laysFinal RX7 "UnlikeFerryModel" "letters" "[I" ∈ am_B := am_inB (i := 787) (by decide +kernel) rfl
theorem wd_93 : Jvm.Cond.laysFinal RX7 "UnlikeFerryModel" "mostOf" "[I" ∈ am_B := am_inB (i := 789) (by decide +kernel) rfl
theorem wd_94 : Jvm.Cond.lays RX7 "UnlikeFerryModel" "setMany" "I" ∈ am_B := am_inB (i := 791) (by decide +kernel) rfl
theorem wd_95 : Jvm.Cond.lays RX7 "UnlikeFerryModel" "setLeast" "I" ∈ am_B := am_inB (i := 793) (by decide +kernel) rfl
theorem wd_96 : Jvm.Cond.lays RX7 "UnlikeFerryModel" "setAll" "I" ∈ am_B := am_inB (i := 795) (by decide +kernel) rfl
theorem wd_97 : Jvm.Cond.lays RX7 "UnlikeFerryModel" "setAny" "I" ∈ am_B := am_inB (i := 797) (by decide +kernel) rfl
theorem wd_98 : Jvm.Cond.laysFinal RX7 "UnlikeFerryModel" "seen" "[I" ∈ am_B := am_inB (i := 799) (by decide +kernel) rfl
theorem wd_99 : Jvm.Cond.lays RX7 "UnlikeFerryModel" "seenMany" "I" ∈ am_B := am_inB (i := 801) (by decide +kernel) rfl
theorem wd_100 : Jvm.Cond.laysFinal RX7 "UnlikeFerryModel" "isKept" "[Z" ∈ am_B := am_inB (i := 803) (by decide +kernel) rfl
theorem wd_101 : Jvm.Cond.laysFinal RX7 "UnlikeFerryModel" "lanes" "[I" ∈ am_B := am_inB (i := 805) (by decide +kernel) rfl
theorem wd_102 : Jvm.Cond.laysFinal RX7 "UnlikeFerryModel" "lengths" "[I" ∈ am_B := am_inB (i := 807) (by decide +kernel) rfl
theorem wd_103 : Jvm.Cond.laysFinal RX7 "UnlikeFerryModel" "cells" "[I" ∈ am_B := am_inB (i := 809) (by decide +kernel) rfl
theorem wd_104 : Jvm.Cond.lays RX7 "UnlikeFerryModel" "torn" "I" ∈ am_B := am_inB (i := 811) (by decide +kernel) rfl
theorem wd_105 : Jvm.Cond.fieldLink RX0 32 (TX0 6).1 (TX0 6).2.1 (TX0 6).2.2.1 ∈ am_B := am_inB (i := 73) (by decide +kernel) rfl
theorem wd_106 : Jvm.Cond.fieldLink RX0 29 (TX0 5).1 (TX0 5).2.1 (TX0 5).2.2.1 ∈ am_B := am_inB (i := 71) (by decide +kernel) rfl
theorem wd_107 : Jvm.Cond.fieldLink RX0 26 (TX0 4).1 (TX0 4).2.1 (TX0 4).2.2.1 ∈ am_B := am_inB (i := 68) (by decide +kernel) rfl
theorem wd_108 : Jvm.Cond.fieldLink RX0 23 (TX0 3).1 (TX0 3).2.1 (TX0 3).2.2.1 ∈ am_B := am_inB (i := 65) (by decide +kernel) rfl
theorem wd_109 : Jvm.Cond.fieldLink RX0 20 (TX0 2).1 (TX0 2).2.1 (TX0 2).2.2.1 ∈ am_B := am_inB (i := 62) (by decide +kernel) rfl
theorem wd_110 : Jvm.Cond.fieldLink RX0 16 (TX0 1).1 (TX0 1).2.1 (TX0 1).2.2.1 ∈ am_B := am_inB (i := 58) (by decide +kernel) rfl
theorem wd_111 : Jvm.Cond.fieldLink RX0 11 (TX0 0).1 (TX0 0).2.1 (TX0 0).2.2.1 ∈ am_B := am_inB (i := 54) (by decide +kernel) rfl
theorem wd_112 : Jvm.Cond.methodLink RX0 35 arraycopyName ∈ am_B := am_inB (i := 404) (by decide +kernel) rfl
theorem wd_113 : Jvm.Cond.native arraycopyName ∈ am_B := am_inB (i := 406) (by decide +kernel) rfl
theorem wd_114 : Jvm.Cond.static arraycopyName ∈ am_B := am_inB (i := 405) (by decide +kernel) rfl
theorem wd_115 : Jvm.Cond.initialized "java/lang/System" ∈ am_B := am_inB (i := 13) (by decide +kernel) rfl
theorem wd_116 : Jvm.Cond.constant RJ6 267 (252645135) ∈ am_B := am_inB (i := 471) (by decide +kernel) rfl
theorem wd_117 : Jvm.Cond.constant RJ6 266 (858993459) ∈ am_B := am_inB (i := 470) (by decide +kernel) rfl
theorem wd_118 : Jvm.Cond.constant RJ6 265 (1431655765) ∈ am_B := am_inB (i := 469) (by decide +kernel) rfl
theorem wd_119 : Jvm.Cond.methodLink RX0 45 yJ6_bitCount_0f7a4 ∈ am_B := am_inB (i := 466) (by decide +kernel) rfl
theorem wd_120 : Jvm.Cond.static yJ6_bitCount_0f7a4 ∈ am_B := am_inB (i := 467) (by decide +kernel) rfl
theorem wd_121 : Jvm.Cond.initialized RJ6 ∈ am_B := am_inB (i := 14) (by decide +kernel) rfl
theorem wd_122 : Jvm.Cond.code yJ6_bitCount_0f7a4 cJ6_bitCount_0f7a4 1 (some .int) ∈ am_B := am_inB (i := 468) (by decide +kernel) rfl
theorem wd_123 : Jvm.Cond.methodLink RX0 41 yX0_those ∈ am_B := am_inB (i := 465) (by decide +kernel) rfl
theorem wd_124 : Jvm.Cond.instanceMethod yX0_those ∈ am_B := am_inB (i := 416) (by decide +kernel) rfl
theorem wd_125 : Jvm.Cond.selects RX0 yX0_those yX0_those ∈ am_B := am_inB (i := 417) (by decide +kernel) rfl
theorem wd_126 : Jvm.Cond.initialized RX0 ∈ am_B := am_inB (i := 4) (by decide +kernel) rfl
theorem wd_127 : Jvm.Cond.code yX0_those cX0_those 4 (some .int) ∈ am_B := am_inB (i := 418) (by decide +kernel) rfl
theorem wd_128 : Jvm.Cond.methodLink RX0 54 yX0_counts ∈ am_B := am_inB (i := 438) (by decide +kernel) rfl
theorem wd_129 : Jvm.Cond.static yX0_counts ∈ am_B := am_inB (i := 439) (by decide +kernel) rfl
theorem wd_130 : Jvm.Cond.code yX0_counts cX0_counts 2 (some .boolean) ∈ am_B := am_inB (i := 440) (by decide +kernel) rfl
theorem wd_131 : Jvm.Cond.methodLink RX0 50 yX0_areAlike ∈ am_B := am_inB (i := 435) (by decide +kernel) rfl
theorem wd_132 : Jvm.Cond.static yX0_areAlike ∈ am_B := am_inB (i := 436) (by decide +kernel) rfl
theorem wd_133 : Jvm.Cond.code yX0_areAlike cX0_areAlike 3 (some .boolean) ∈ am_B := am_inB (i := 437) (by decide +kernel) rfl
theorem wd_134 : Jvm.Cond.methodLink RX0 66 yX0_moveAll ∈ am_B := am_inB (i := 498) (by decide +kernel) rfl
theorem wd_135 : Jvm.Cond.instanceMethod yX0_moveAll ∈ am_B := am_inB (i := 500) (by decide +kernel) rfl
theorem wd_136 : Jvm.Cond.selects RX0 yX0_moveAll yX0_moveAll ∈ am_B := am_inP (i := 15) (by decide +kernel) rfl
theorem wd_137 : Jvm.Cond.code yX0_moveAll cX0_moveAll 4 none ∈ am_B := am_inB (i := 501) (by decide +kernel) rfl
theorem wd_138 : Jvm.Cond.methodLink RX0 62 yX0_rivalsOf ∈ am_B := am_inB (i := 497) (by decide +kernel) rfl
theorem wd_139 : Jvm.Cond.instanceMethod yX0_rivalsOf ∈ am_B := am_inB (i := 432) (by decide +kernel) rfl
theorem wd_140 : Jvm.Cond.selects RX0 yX0_rivalsOf yX0_rivalsOf ∈ am_B := am_inB (i := 433) (by decide +kernel) rfl
theorem wd_141 : Jvm.Cond.code yX0_rivalsOf cX0_rivalsOf 5 (some .int) ∈ am_B := am_inB (i := 434) (by decide +kernel) rfl
theorem wd_142 : Jvm.Cond.methodLink RX0 58 yX0_has ∈ am_B := am_inB (i := 496) (by decide +kernel) rfl
theorem wd_143 : Jvm.Cond.instanceMethod yX0_has ∈ am_B := am_inB (i := 424) (by decide +kernel) rfl
theorem wd_144 : Jvm.Cond.selects RX0 yX0_has yX0_has ∈ am_B := am_inB (i := 425) (by decide +kernel) rfl
theorem wd_145 : Jvm.Cond.code yX0_has cX0_has 2 (some .boolean) ∈ am_B := am_inB (i := 426) (by decide +kernel) rfl
theorem wd_146 : Jvm.Cond.methodLink RX0 76 yX0_losePatience ∈ am_B := am_inB (i := 515) (by decide +kernel) rfl
theorem wd_147 : Jvm.Cond.static yX0_losePatience ∈ am_B := am_inB (i := 516) (by decide +kernel) rfl
theorem wd_148 : Jvm.Cond.code yX0_losePatience cX0_losePatience 1 none ∈ am_B := am_inB (i := 517) (by decide +kernel) rfl
theorem wd_149 : Jvm.Cond.methodLink RX0 73 yX0_takeAboard ∈ am_B := am_inB (i := 514) (by decide +kernel) rfl
theorem wd_150 : Jvm.Cond.instanceMethod yX0_takeAboard ∈ am_B := am_inB (i := 493) (by decide +kernel) rfl
theorem wd_151 : Jvm.Cond.selects RX0 yX0_takeAboard yX0_takeAboard ∈ am_B := am_inB (i := 494) (by decide +kernel) rfl
theorem wd_152 : Jvm.Cond.code yX0_takeAboard cX0_takeAboard 4 (some .int) ∈ am_B := am_inB (i := 495) (by decide +kernel) rfl
theorem wd_153 : Jvm.Cond.methodLink RX0 70 yX0_passHour ∈ am_B := am_inB (i := 510) (by decide +kernel) rfl
theorem wd_154 : Jvm.Cond.instanceMethod yX0_passHour ∈ am_B := am_inB (i := 511) (by decide +kernel) rfl
theorem wd_155 : Jvm.Cond.selects RX0 yX0_passHour yX0_passHour ∈ am_B := am_inB (i := 512) (by decide +kernel) rfl
theorem wd_156 : Jvm.Cond.code yX0_passHour cX0_passHour 2 none ∈ am_B := am_inB (i := 513) (by decide +kernel) rfl
theorem wd_157 : Jvm.Cond.methodLink RX0 83 yX0_bitOf ∈ am_B := am_inB (i := 604) (by decide +kernel) rfl
theorem wd_158 : Jvm.Cond.static yX0_bitOf ∈ am_B := am_inB (i := 605) (by decide +kernel) rfl
theorem wd_159 : Jvm.Cond.code yX0_bitOf cX0_bitOf 2 (some .int) ∈ am_B := am_inB (i := 606) (by decide +kernel) rfl
theorem wd_160 : Jvm.Cond.code yX6_isIn cX6_isIn 2 (some .boolean) ∈ am_B := am_inB (i := 378) (by decide +kernel) rfl
theorem wd_161 : Jvm.Cond.static yX6_isIn ∈ am_B := am_inB (i := 377) (by decide +kernel) rfl
theorem wd_162 : Jvm.Cond.initialized RX6 ∈ am_B := am_inB (i := 1) (by decide +kernel) rfl
theorem wd_163 : Jvm.Cond.fieldLink RX1 51 (TX1 10).1 (TX1 10).2.1 (TX1 10).2.2.1 ∈ am_B := am_inB (i := 106) (by decide +kernel) rfl
theorem wd_164 : Jvm.Cond.fieldLink RX1 47 (TX1 9).1 (TX1 9).2.1 (TX1 9).2.2.1 ∈ am_B := am_inB (i := 105) (by decide +kernel) rfl
theorem wd_165 : Jvm.Cond.fieldLink RX1 44 (TX1 8).1 (TX1 8).2.1 (TX1 8).2.2.1 ∈ am_B := am_inB (i := 104) (by decide +kernel) rfl
theorem wd_166 : Jvm.Cond.fieldLink RX1 41 (TX1 7).1 (TX1 7).2.1 (TX1 7).2.2.1 ∈ am_B := am_inB (i := 103) (by decide +kernel) rfl
theorem wd_167 : Jvm.Cond.fieldLink RX1 32 (TX1 4).1 (TX1 4).2.1 (TX1 4).2.2.1 ∈ am_B := am_inB (i := 99) (by decide +kernel) rfl
theorem wd_168 : Jvm.Cond.fieldLink RX1 29 (TX1 3).1 (TX1 3).2.1 (TX1 3).2.2.1 ∈ am_B := am_inB (i := 97) (by decide +kernel) rfl
theorem wd_169 : Jvm.Cond.fieldLink RX1 25 (TX1 2).1 (TX1 2).2.1 (TX1 2).2.2.1 ∈ am_B := am_inB (i := 95) (by decide +kernel) rfl
theorem wd_170 : Jvm.Cond.fieldLink RX1 21 (TX1 1).1 (TX1 1).2.1 (TX1 1).2.2.1 ∈ am_B := am_inB (i := 93) (by decide +kernel) rfl
theorem wd_171 : Jvm.Cond.methodLink RX1 67 yX0_clear ∈ am_B := am_inB (i := 263) (by decide +kernel) rfl
theorem wd_172 : Jvm.Cond.instanceMethod yX0_clear ∈ am_B := am_inB (i := 264) (by decide +kernel) rfl
theorem wd_173 : Jvm.Cond.selects RX0 yX0_clear yX0_clear ∈ am_B := am_inB (i := 265) (by decide +kernel) rfl
theorem wd_174 : Jvm.Cond.code yX0_clear cX0_clear 1 none ∈ am_B := am_inB (i := 266) (by decide +kernel) rfl
theorem wd_175 : Jvm.Cond.fieldLink RX5 9 (TX5 0).1 (TX5 0).2.1 (TX5 0).2.2.1 ∈ am_B := am_inB (i := 36) (by decide +kernel) rfl
theorem wd_176 : Jvm.Cond.fieldLink RX5 15 (TX5 1).1 (TX5 1).2.1 (TX5 1).2.2.1 ∈ am_B := am_inB (i := 37) (by decide +kernel) rfl
theorem wd_177 : Jvm.Cond.fieldLink RX1 35 (TX1 5).1 (TX1 5).2.1 (TX1 5).2.2.1 ∈ am_B := am_inB (i := 101) (by decide +kernel) rfl
theorem wd_178 : Jvm.Cond.fieldLink RX1 74 (TX5 1).1 (TX5 1).2.1 (TX5 1).2.2.1 ∈ am_B := am_inB (i := 39) (by decide +kernel) rfl
theorem wd_179 : Jvm.Cond.fieldLink RX1 12 (TX1 0).1 (TX1 0).2.1 (TX1 0).2.2.1 ∈ am_B := am_inB (i := 91) (by decide +kernel) rfl
theorem wd_180 : Jvm.Cond.fieldLink RX1 38 (TX1 6).1 (TX1 6).2.1 (TX1 6).2.2.1 ∈ am_B := am_inB (i := 102) (by decide +kernel) rfl
theorem wd_181 : Jvm.Cond.methodLink RX1 77 yX1_fail ∈ am_B := am_inB (i := 283) (by decide +kernel) rfl
theorem wd_182 : Jvm.Cond.instanceMethod yX1_fail ∈ am_B := am_inB (i := 285) (by decide +kernel) rfl
theorem wd_183 : Jvm.Cond.selects RX1 yX1_fail yX1_fail ∈ am_B := am_inP (i := 2) (by decide +kernel) rfl
theorem wd_184 : Jvm.Cond.initialized RX1 ∈ am_B := am_inB (i := 2) (by decide +kernel) rfl
theorem wd_185 : Jvm.Cond.code yX1_fail cX1_fail 3 (some .boolean) ∈ am_B := am_inB (i := 286) (by decide +kernel) rfl
theorem wd_186 : Jvm.Cond.methodLink RX1 99 yX5_isFigureAt ∈ am_B := am_inB (i := 279) (by decide +kernel) rfl
theorem wd_187 : Jvm.Cond.instanceMethod yX5_isFigureAt ∈ am_B := am_inB (i := 280) (by decide +kernel) rfl
theorem wd_188 : Jvm.Cond.selects RX5 yX5_isFigureAt yX5_isFigureAt ∈ am_B := am_inB (i := 281) (by decide +kernel) rfl
theorem wd_189 : Jvm.Cond.initialized RX5 ∈ am_B := am_inB (i := 3) (by decide +kernel) rfl
theorem wd_190 : Jvm.Cond.code yX5_isFigureAt cX5_isFigureAt 2 (some .boolean) ∈ am_B := am_inB (i := 282) (by decide +kernel) rfl
theorem wd_191 : Jvm.Cond.methodLink RX1 95 yX5_isLetterAt ∈ am_B := am_inB (i := 275) (by decide +kernel) rfl
theorem wd_192 : Jvm.Cond.instanceMethod yX5_isLetterAt ∈ am_B := am_inB (i := 276) (by decide +kernel) rfl
theorem wd_193 : Jvm.Cond.selects RX5 yX5_isLetterAt yX5_isLetterAt ∈ am_B := am_inB (i := 277) (by decide +kernel) rfl
theorem wd_194 : Jvm.Cond.code yX5_isLetterAt cX5_isLetterAt 2 (some .boolean) ∈ am_B := am_inB (i := 278) (by decide +kernel) rfl
theorem wd_195 : Jvm.Cond.methodLink RX1 91 yX5_signAt ∈ am_B := am_inB (i := 271) (by decide +kernel) rfl
theorem wd_196 : Jvm.Cond.instanceMethod yX5_signAt ∈ am_B := am_inB (i := 272) (by decide +kernel) rfl
theorem wd_197 : Jvm.Cond.selects RX5 yX5_signAt yX5_signAt ∈ am_B := am_inB (i := 273) (by decide +kernel) rfl
theorem wd_198 : Jvm.Cond.code yX5_signAt cX5_signAt 2 (some .int) ∈ am_B := am_inB (i := 274) (by decide +kernel) rfl
theorem wd_199 : Jvm.Cond.methodLink RX5 24 yX5_signAt ∈ am_B := am_inB (i := 310) (by decide +kernel) rfl
theorem wd_200 : Jvm.Cond.methodLink RX1 127 yX5_hasWord ∈ am_B := am_inB (i := 296) (by decide +kernel) rfl
theorem wd_201 : Jvm.Cond.instanceMethod yX5_hasWord ∈ am_B := am_inB (i := 297) (by decide +kernel) rfl
theorem wd_202 : Jvm.Cond.selects RX5 yX5_hasWord yX5_hasWord ∈ am_B := am_inB (i := 298) (by decide +kernel) rfl
theorem wd_203 : Jvm.Cond.code yX5_hasWord cX5_hasWord 5 (some .boolean) ∈ am_B := am_inB (i := 299) (by decide +kernel) rfl
theorem wd_204 : Jvm.Cond.code yX6_isWithin cX6_isWithin 3 (some .boolean) ∈ am_B := am_inB (i := 242) (by decide +kernel) rfl
theorem wd_205 : Jvm.Cond.static yX6_isWithin ∈ am_B := am_inB (i := 241) (by decide +kernel) rfl
theorem wd_206 : Jvm.Cond.methodLink RX1 144 yX1_number ∈ am_B := am_inB (i := 357) (by decide +kernel) rfl
theorem wd_207 : Jvm.Cond.instanceMethod yX1_number ∈ am_B := am_inB (i := 359) (by decide +kernel) rfl
theorem wd_208 : Jvm.Cond.selects RX1 yX1_number yX1_number ∈ am_B := am_inP (i := 7) (by decide +kernel) rfl
theorem wd_209 : Jvm.Cond.code yX1_number cX1_number 3 (some .int) ∈ am_B := am_inB (i := 360) (by decide +kernel) rfl
theorem wd_210 : Jvm.Cond.methodLink RX1 57 yX1_takeToken ∈ am_B := am_inB (i := 267) (by decide +kernel) rfl
theorem wd_211 : Jvm.Cond.instanceMethod yX1_takeToken ∈ am_B := am_inB (i := 269) (by decide +kernel) rfl
theorem wd_212 : Jvm.Cond.selects RX1 yX1_takeToken yX1_takeToken ∈ am_B := am_inP (i := 1) (by decide +kernel) rfl
theorem wd_213 : Jvm.Cond.code yX1_takeToken cX1_takeToken 1 (some .boolean) ∈ am_B := am_inB (i := 270) (by decide +kernel) rfl
theorem wd_214 : Jvm.Cond.fieldLink RX1 147 (TX0 2).1 (TX0 2).2.1 (TX0 2).2.2.1 ∈ am_B := am_inB (i := 64) (by decide +kernel) rfl
theorem wd_215 : Jvm.Cond.methodLink RX1 150 yX1_takeStop ∈ am_B := am_inB (i := 362) (by decide +kernel) rfl
theorem wd_216 : Jvm.Cond.instanceMethod yX1_takeStop ∈ am_B := am_inB (i := 364) (by decide +kernel) rfl
theorem wd_217 : Jvm.Cond.selects RX1 yX1_takeStop yX1_takeStop ∈ am_B := am_inP (i := 8) (by decide +kernel) rfl
theorem wd_218 : Jvm.Cond.code yX1_takeStop cX1_takeStop 1 (some .boolean) ∈ am_B := am_inB (i := 365) (by decide +kernel) rfl
theorem wd_219 : Jvm.Cond.methodLink RX1 141 yX1_takeNumber ∈ am_B := am_inB (i := 353) (by decide +kernel) rfl
theorem wd_220 : Jvm.Cond.instanceMethod yX1_takeNumber ∈ am_B := am_inB (i := 355) (by decide +kernel) rfl
theorem wd_221 : Jvm.Cond.selects RX1 yX1_takeNumber yX1_takeNumber ∈ am_B := am_inP (i := 6) (by decide +kernel) rfl
theorem wd_222 : Jvm.Cond.code yX1_takeNumber cX1_takeNumber 3 (some .boolean) ∈ am_B := am_inB (i := 356) (by decide +kernel) rfl
theorem wd_223 : Jvm.Cond.fieldLink RX1 156 (TX0 4).1 (TX0 4).2.1 (TX0 4).2.2.1 ∈ am_B := am_inB (i := 70) (by decide +kernel) rfl
theorem wd_224 : Jvm.Cond.fieldLink RX1 153 (TX0 3).1 (TX0 3).2.1 (TX0 3).2.2.1 ∈ am_B := am_inB (i := 67) (by decide +kernel) rfl
theorem wd_225 : Jvm.Cond.methodLink RX1 104 yX1_isWord ∈ am_B := am_inB (i := 292) (by decide +kernel) rfl
theorem wd_226 : Jvm.Cond.instanceMethod yX1_isWord ∈ am_B := am_inB (i := 294) (by decide +kernel) rfl
theorem wd_227 : Jvm.Cond.selects RX1 yX1_isWord yX1_isWord ∈ am_B := am_inP (i := 4) (by decide +kernel) rfl
theorem wd_228 : Jvm.Cond.code yX1_isWord cX1_isWord 2 (some .boolean) ∈ am_B := am_inB (i := 295) (by decide +kernel) rfl
theorem wd_229 : Jvm.Cond.fieldLink RX1 84 (TX0 0).1 (TX0 0).2.1 (TX0 0).2.2.1 ∈ am_B := am_inB (i := 56) (by decide +kernel) rfl
theorem wd_230 : Jvm.Cond.fieldLink RX1 81 (TX0 1).1 (TX0 1).2.1 (TX0 1).2.2.1 ∈ am_B := am_inB (i := 60) (by decide +kernel) rfl
theorem wd_231 : Jvm.Cond.methodLink RX1 124 yX1_takeOne ∈ am_B := am_inB (i := 388) (by decide +kernel) rfl
theorem wd_232 : Jvm.Cond.instanceMethod yX1_takeOne ∈ am_B := am_inB (i := 390) (by decide +kernel) rfl
theorem wd_233 : Jvm.Cond.selects RX1 yX1_takeOne yX1_takeOne ∈ am_B := am_inP (i := 12) (by decide +kernel) rfl
theorem wd_234 : Jvm.Cond.code yX1_takeOne cX1_takeOne 4 (some .boolean) ∈ am_B := am_inB (i := 391) (by decide +kernel) rfl
theorem wd_235 : Jvm.Cond.methodLink RX1 121 yX1_kindNamed ∈ am_B := am_inB (i := 379) (by decide +kernel) rfl
theorem wd_236 : Jvm.Cond.instanceMethod yX1_kindNamed ∈ am_B := am_inB (i := 381) (by decide +kernel) rfl
theorem wd_237 : Jvm.Cond.selects RX1 yX1_kindNamed yX1_kindNamed ∈ am_B := am_inP (i := 11) (by decide +kernel) rfl
theorem wd_238 : Jvm.Cond.code yX1_kindNamed cX1_kindNamed 1 (some .int) ∈ am_B := am_inB (i := 382) (by decide +kernel) rfl
theorem wd_239 : Jvm.Cond.methodLink RX1 118 yX1_takeHere ∈ am_B := am_inB (i := 372) (by decide +kernel) rfl
theorem wd_240 : Jvm.Cond.instanceMethod yX1_takeHere ∈ am_B := am_inB (i := 374) (by decide +kernel) rfl
theorem wd_241 : Jvm.Cond.selects RX1 yX1_takeHere yX1_takeHere ∈ am_B := am_inP (i := 10) (by decide +kernel) rfl
theorem wd_242 : Jvm.Cond.code yX1_takeHere cX1_takeHere 2 (some .boolean) ∈ am_B := am_inB (i := 375) (by decide +kernel) rfl
theorem wd_243 : Jvm.Cond.methodLink RX1 113 yX1_takeCosts ∈ am_B := am_inB (i := 367) (by decide +kernel) rfl
theorem wd_244 : Jvm.Cond.instanceMethod yX1_takeCosts ∈ am_B := am_inB (i := 369) (by decide +kernel) rfl
theorem wd_245 : Jvm.Cond.selects RX1 yX1_takeCosts yX1_takeCosts ∈ am_B := am_inP (i := 9) (by decide +kernel) rfl
theorem wd_246 : Jvm.Cond.code yX1_takeCosts cX1_takeCosts 1 (some .boolean) ∈ am_B := am_inB (i := 370) (by decide +kernel) rfl
theorem wd_247 : Jvm.Cond.methodLink RX1 108 yX1_takeSeats ∈ am_B := am_inB (i := 349) (by decide +kernel) rfl
theorem wd_248 : Jvm.Cond.instanceMethod yX1_takeSeats ∈ am_B := am_inB (i := 351) (by decide +kernel) rfl
theorem wd_249 : Jvm.Cond.selects RX1 yX1_takeSeats yX1_takeSeats ∈ am_B := am_inP (i := 5) (by decide +kernel) rfl
theorem wd_250 : Jvm.Cond.code yX1_takeSeats cX1_takeSeats 1 (some .boolean) ∈ am_B := am_inB (i := 352) (by decide +kernel) rfl
theorem wd_251 : Jvm.Cond.methodLink RX1 70 yX0_pools ∈ am_B := am_inB (i := 396) (by decide +kernel) rfl
theorem wd_252 : Jvm.Cond.instanceMethod yX0_pools ∈ am_B := am_inB (i := 397) (by decide +kernel) rfl
theorem wd_253 : Jvm.Cond.selects RX0 yX0_pools yX0_pools ∈ am_B := am_inB (i := 398) (by decide +kernel) rfl
theorem wd_254 : Jvm.Cond.code yX0_pools cX0_pools 1 (some .int) ∈ am_B := am_inB (i := 399) (by decide +kernel) rfl
theorem wd_255 : Jvm.Cond.methodLink RX1 64 yX1_letWait ∈ am_B := am_inB (i := 392) (by decide +kernel) rfl
theorem wd_256 : Jvm.Cond.instanceMethod yX1_letWait ∈ am_B := am_inB (i := 394) (by decide +kernel) rfl
theorem wd_257 : Jvm.Cond.selects RX1 yX1_letWait yX1_letWait ∈ am_B := am_inP (i := 13) (by decide +kernel) rfl
theorem wd_258 : Jvm.Cond.code yX1_letWait cX1_letWait 2 none ∈ am_B := am_inB (i := 395) (by decide +kernel) rfl
theorem wd_259 : Jvm.Cond.methodLink RX1 61 yX1_takeLine ∈ am_B := am_inB (i := 287) (by decide +kernel) rfl
theorem wd_260 : Jvm.Cond.instanceMethod yX1_takeLine ∈ am_B := am_inB (i := 289) (by decide +kernel) rfl
theorem wd_261 : Jvm.Cond.selects RX1 yX1_takeLine yX1_takeLine ∈ am_B := am_inP (i := 3) (by decide +kernel) rfl
theorem wd_262 : Jvm.Cond.code yX1_takeLine cX1_takeLine 1 (some .boolean) ∈ am_B := am_inB (i := 290) (by decide +kernel) rfl
theorem wd_263 : Jvm.Cond.methodLink RX1 54 yX1_restart ∈ am_B := am_inB (i := 259) (by decide +kernel) rfl
theorem wd_264 : Jvm.Cond.instanceMethod yX1_restart ∈ am_B := am_inB (i := 261) (by decide +kernel) rfl
theorem wd_265 : Jvm.Cond.selects RX1 yX1_restart yX1_restart ∈ am_B := am_inP (i := 0) (by decide +kernel) rfl
theorem wd_266 : Jvm.Cond.code yX1_restart cX1_restart 1 none ∈ am_B := am_inB (i := 262) (by decide +kernel) rfl
theorem wd_267 : Jvm.Cond.fieldLink RX2 15 (TX2 1).1 (TX2 1).2.1 (TX2 1).2.2.1 ∈ am_B := am_inB (i := 164) (by decide +kernel) rfl
theorem wd_268 : Jvm.Cond.fieldLink RX2 9 (TX2 0).1 (TX2 0).2.1 (TX2 0).2.2.1 ∈ am_B := am_inB (i := 163) (by decide +kernel) rfl
theorem wd_269 : Jvm.Cond.fieldLink RX2 19 (TX2 2).1 (TX2 2).2.1 (TX2 2).2.2.1 ∈ am_B := am_inB (i := 165) (by decide +kernel) rfl
theorem wd_270 : Jvm.Cond.fieldLink RX3 9 (TX3 0).1 (TX3 0).2.1 (TX3 0).2.2.1 ∈ am_B := am_inB (i := 138) (by decide +kernel) rfl
theorem wd_271 : Jvm.Cond.fieldLink RX3 15 (TX3 1).1 (TX3 1).2.1 (TX3 1).2.2.1 ∈ am_B := am_inB (i := 139) (by decide +kernel) rfl
theorem wd_272 : Jvm.Cond.fieldLink RX3 21 (TX3 3).1 (TX3 3).2.1 (TX3 3).2.2.1 ∈ am_B := am_inB (i := 143) (by decide +kernel) rfl
theorem wd_273 : Jvm.Cond.fieldLink RX3 25 (TX3 4).1 (TX3 4).2.1 (TX3 4).2.2.1 ∈ am_B := am_inB (i := 145) (by decide +kernel) rfl
theorem wd_274 : Jvm.Cond.fieldLink RX3 31 (TX0 0).1 (TX0 0).2.1 (TX0 0).2.2.1 ∈ am_B := am_inB (i := 55) (by decide +kernel) rfl
theorem wd_275 : Jvm.Cond.fieldLink RX3 28 (TX0 1).1 (TX0 1).2.1 (TX0 1).2.2.1 ∈ am_B := am_inB (i := 59) (by decide +kernel) rfl
theorem wd_276 : Jvm.Cond.methodLink RX3 48 yX3_isUnlike ∈ am_B := am_inB (i := 546) (by decide +kernel) rfl
theorem wd_277 : Jvm.Cond.instanceMethod yX3_isUnlike ∈ am_B := am_inB (i := 548) (by decide +kernel) rfl
theorem wd_278 : Jvm.Cond.selects RX3 yX3_isUnlike yX3_isUnlike ∈ am_B := am_inP (i := 16) (by decide +kernel) rfl
theorem wd_279 : Jvm.Cond.initialized RX3 ∈ am_B := am_inB (i := 5) (by decide +kernel) rfl
theorem wd_280 : Jvm.Cond.code yX3_isUnlike cX3_isUnlike 3 (some .boolean) ∈ am_B := am_inB (i := 549) (by decide +kernel) rfl
theorem wd_281 : Jvm.Cond.methodLink RX3 42 yJ6_bitCount_0f7a4 ∈ am_B := am_inB (i := 545) (by decide +kernel) rfl
theorem wd_282 : Jvm.Cond.methodLink RX3 39 yX0_pools ∈ am_B := am_inB (i := 544) (by decide +kernel) rfl
theorem wd_283 : Jvm.Cond.methodLink RX3 35 yX0_rivalsOf ∈ am_B := am_inB (i := 543) (by decide +kernel) rfl
theorem wd_284 : Jvm.Cond.constant RJ6 264 (65536) ∈ am_B := am_inB (i := 562) (by decide +kernel) rfl
theorem wd_285 : Jvm.Cond.constant RJ6 127 (-2147483648) ∈ am_B := am_inB (i := 558) (by decide +kernel) rfl
theorem wd_286 : Jvm.Cond.methodLink RJ6 51 yJ6_numberOfLeadingZeros_0f7a4 ∈ am_B := am_inB (i := 559) (by decide +kernel) rfl
theorem wd_287 : Jvm.Cond.static yJ6_numberOfLeadingZeros_0f7a4 ∈ am_B := am_inB (i := 560) (by decide +kernel) rfl
theorem wd_288 : Jvm.Cond.code yJ6_numberOfLeadingZeros_0f7a4 cJ6_numberOfLeadingZeros_0f7a4 2 (some .int) ∈ am_B := am_inB (i := 561) (by decide +kernel) rfl
theorem wd_289 : Jvm.Cond.fieldLink RX3 18 (TX3 2).1 (TX3 2).2.1 (TX3 2).2.2.1 ∈ am_B := am_inB (i := 141) (by decide +kernel) rfl
theorem wd_290 : Jvm.Cond.code Lib.Math.max.name Lib.Math.max.code 2 (some .int) ∈ am_B := am_inB (i := 565) (by decide +kernel) rfl
theorem wd_291 : Jvm.Cond.methodLink RX3 59 Lib.Math.max.name ∈ am_B := am_inB (i := 563) (by decide +kernel) rfl
theorem wd_292 : Jvm.Cond.static Lib.Math.max.name ∈ am_B := am_inB (i := 564) (by decide +kernel) rfl
theorem wd_293 : Jvm.Cond.initialized "java/lang/Math" ∈ am_B := am_inB (i := 15) (by decide +kernel) rfl
theorem wd_294 : Jvm.Cond.methodLink RX3 56 yJ6_highestOneBit_0f7a4 ∈ am_B := am_inB (i := 555) (by decide +kernel) rfl
theorem wd_295 : Jvm.Cond.static yJ6_highestOneBit_0f7a4 ∈ am_B := am_inB (i := 556) (by decide +kernel) rfl
theorem wd_296 : Jvm.Cond.code yJ6_highestOneBit_0f7a4 cJ6_highestOneBit_0f7a4 1 (some .int) ∈ am_B := am_inB (i := 557) (by decide +kernel) rfl
theorem wd_297 : Jvm.Cond.fieldLink RX4 23 (TX4 3).1 (TX4 3).2.1 (TX4 3).2.2.1 ∈ am_B := am_inB (i := 188) (by decide +kernel) rfl
theorem wd_298 : Jvm.Cond.fieldLink RX4 19 (TX4 2).1 (TX4 2).2.1 (TX4 2).2.2.1 ∈ am_B := am_inB (i := 187) (by decide +kernel) rfl
theorem wd_299 : Jvm.Cond.fieldLink RX4 15 (TX4 1).1 (TX4 1).2.1 (TX4 1).2.2.1 ∈ am_B := am_inB (i := 185) (by decide +kernel) rfl
theorem wd_300 : Jvm.Cond.fieldLink RX4 9 (TX4 0).1 (TX4 0).2.1 (TX4 0).2.2.1 ∈ am_B := am_inB (i := 183) (by decide +kernel) rfl
theorem wd_301 : Jvm.Cond.methodLink RX4 26 yX4_faultAt ∈ am_B := am_inB (i := 707) (by decide +kernel) rfl
theorem wd_302 : Jvm.Cond.instanceMethod yX4_faultAt ∈ am_B := am_inB (i := 692) (by decide +kernel) rfl
theorem wd_303 : Jvm.Cond.selects RX4 yX4_faultAt yX4_faultAt ∈ am_B := am_inB (i := 693) (by decide +kernel) rfl
theorem wd_304 : Jvm.Cond.initialized RX4 ∈ am_B := am_inB (i := 7) (by decide +kernel) rfl
theorem wd_305 : Jvm.Cond.code yX4_faultAt cX4_faultAt 2 (some .int) ∈ am_B := am_inB (i := 694) (by decide +kernel) rfl
theorem wd_306 : Jvm.Cond.fieldLink RX6 81 (TX5 1).1 (TX5 1).2.1 (TX5 1).2.2.1 ∈ am_B := am_inB (i := 38) (by decide +kernel) rfl
theorem wd_307 : Jvm.Cond.fieldLink RX6 20 (TX6 1).1 (TX6 1).2.1 (TX6 1).2.2.1 ∈ am_B := am_inB (i := 200) (by decide +kernel) rfl
theorem wd_308 : Jvm.Cond.methodLink RX6 75 yX5_append ∈ am_B := am_inB (i := 243) (by decide +kernel) rfl
theorem wd_309 : Jvm.Cond.instanceMethod yX5_append ∈ am_B := am_inB (i := 244) (by decide +kernel) rfl
theorem wd_310 : Jvm.Cond.selects RX5 yX5_append yX5_append ∈ am_B := am_inB (i := 245) (by decide +kernel) rfl
theorem wd_311 : Jvm.Cond.code yX5_append cX5_append 2 (some .boolean) ∈ am_B := am_inB (i := 246) (by decide +kernel) rfl
theorem wd_312 : Jvm.Cond.methodLink RX6 71 yX6_isWithin ∈ am_B := am_inB (i := 240) (by decide +kernel) rfl
theorem wd_313 : Jvm.Cond.fieldLink RX6 103 (TX1 2).1 (TX1 2).2.1 (TX1 2).2.2.1 ∈ am_B := am_inB (i := 96) (by decide +kernel) rfl
theorem wd_314 : Jvm.Cond.fieldLink RX6 49 (TX6 7).1 (TX6 7).2.1 (TX6 7).2.2.1 ∈ am_B := am_inB (i := 206) (by decide +kernel) rfl
theorem wd_315 : Jvm.Cond.fieldLink RX6 100 (TX2 2).1 (TX2 2).2.1 (TX2 2).2.2.1 ∈ am_B := am_inB (i := 166) (by decide +kernel) rfl
theorem wd_316 : Jvm.Cond.fieldLink RX6 41 (TX6 5).1 (TX6 5).2.1 (TX6 5).2.2.1 ∈ am_B := am_inB (i := 204) (by decide +kernel) rfl
theorem wd_317 : Jvm.Cond.fieldLink RX6 93 (TX1 1).1 (TX1 1).2.1 (TX1 1).2.2.1 ∈ am_B := am_inB (i := 94) (by decide +kernel) rfl
theorem wd_318 : Jvm.Cond.fieldLink RX6 24 (TX6 2).1 (TX6 2).2.1 (TX6 2).2.2.1 ∈ am_B := am_inB (i := 201) (by decide +kernel) rfl
theorem wd_319 : Jvm.Cond.fieldLink RX6 90 (TX1 4).1 (TX1 4).2.1 (TX1 4).2.2.1 ∈ am_B := am_inB (i := 100) (by decide +kernel) rfl
theorem wd_320 : Jvm.Cond.fieldLink RX6 63 (TX6 10).1 (TX6 10).2.1 (TX6 10).2.2.1 ∈ am_B := am_inB (i := 209) (by decide +kernel) rfl
theorem wd_321 : Jvm.Cond.fieldLink RX6 87 (TX1 3).1 (TX1 3).2.1 (TX1 3).2.2.1 ∈ am_B := am_inB (i := 98) (by decide +kernel) rfl
theorem wd_322 : Jvm.Cond.fieldLink RX6 12 (TX6 0).1 (TX6 0).2.1 (TX6 0).2.2.1 ∈ am_B := am_inB (i := 199) (by decide +kernel) rfl
theorem wd_323 : Jvm.Cond.methodLink RX6 96 yX0_copyFrom ∈ am_B := am_inB (i := 400) (by decide +kernel) rfl
theorem wd_324 : Jvm.Cond.instanceMethod yX0_copyFrom ∈ am_B := am_inB (i := 401) (by decide +kernel) rfl
theorem wd_325 : Jvm.Cond.selects RX0 yX0_copyFrom yX0_copyFrom ∈ am_B := am_inB (i := 402) (by decide +kernel) rfl
theorem wd_326 : Jvm.Cond.code yX0_copyFrom cX0_copyFrom 3 none ∈ am_B := am_inB (i := 403) (by decide +kernel) rfl
theorem wd_327 : Jvm.Cond.methodLink RX6 84 yX1_tellAll ∈ am_B := am_inB (i := 255) (by decide +kernel) rfl
theorem wd_328 : Jvm.Cond.instanceMethod yX1_tellAll ∈ am_B := am_inB (i := 256) (by decide +kernel) rfl
theorem wd_329 : Jvm.Cond.selects RX1 yX1_tellAll yX1_tellAll ∈ am_B := am_inB (i := 257) (by decide +kernel) rfl
theorem wd_330 : Jvm.Cond.code yX1_tellAll cX1_tellAll 2 none ∈ am_B := am_inB (i := 258) (by decide +kernel) rfl
theorem wd_331 : Jvm.Cond.fieldLink RX6 119 (TX0 6).1 (TX0 6).2.1 (TX0 6).2.2.1 ∈ am_B := am_inB (i := 74) (by decide +kernel) rfl
theorem wd_332 : Jvm.Cond.fieldLink RX6 116 (TX0 5).1 (TX0 5).2.1 (TX0 5).2.2.1 ∈ am_B := am_inB (i := 72) (by decide +kernel) rfl
theorem wd_333 : Jvm.Cond.fieldLink RX6 113 (TX0 4).1 (TX0 4).2.1 (TX0 4).2.2.1 ∈ am_B := am_inB (i := 69) (by decide +kernel) rfl
theorem wd_334 : Jvm.Cond.fieldLink RX6 110 (TX0 3).1 (TX0 3).2.1 (TX0 3).2.2.1 ∈ am_B := am_inB (i := 66) (by decide +kernel) rfl
theorem wd_335 : Jvm.Cond.fieldLink RX6 107 (TX0 2).1 (TX0 2).2.1 (TX0 2).2.2.1 ∈ am_B := am_inB (i := 63) (by decide +kernel) rfl
theorem wd_336 : Jvm.Cond.fieldLink RX6 106 (TX0 1).1 (TX0 1).2.1 (TX0 1).2.2.1 ∈ am_B := am_inB (i := 61) (by decide +kernel) rfl
theorem wd_337 : Jvm.Cond.methodLink RX6 122 yX0_those ∈ am_B := am_inB (i := 415) (by decide +kernel) rfl
theorem wd_338 : Jvm.Cond.fieldLink RX6 129 (TX0 0).1 (TX0 0).2.1 (TX0 0).2.2.1 ∈ am_B := am_inB (i := 57) (by decide +kernel) rfl
theorem wd_339 : Jvm.Cond.methodLink RX6 126 yX0_has ∈ am_B := am_inB (i := 423) (by decide +kernel) rfl
theorem wd_340 : Jvm.Cond.methodLink RX6 133 yX0_rivalsOf ∈ am_B := am_inB (i := 431) (by decide +kernel) rfl
theorem wd_341 : Jvm.Cond.methodLink RX6 137 yX0_changeAshore ∈ am_B := am_inB (i := 445) (by decide +kernel) rfl
theorem wd_342 : Jvm.Cond.instanceMethod yX0_changeAshore ∈ am_B := am_inB (i := 446) (by decide +kernel) rfl
theorem wd_343 : Jvm.Cond.selects RX0 yX0_changeAshore yX0_changeAshore ∈ am_B := am_inB (i := 447) (by decide +kernel) rfl
theorem wd_344 : Jvm.Cond.code yX0_changeAshore cX0_changeAshore 5 (some .int) ∈ am_B := am_inB (i := 448) (by decide +kernel) rfl
theorem wd_345 : Jvm.Cond.methodLink RX6 141 yX0_howMany ∈ am_B := am_inB (i := 461) (by decide +kernel) rfl
theorem wd_346 : Jvm.Cond.instanceMethod yX0_howMany ∈ am_B := am_inB (i := 462) (by decide +kernel) rfl
theorem wd_347 : Jvm.Cond.selects RX0 yX0_howMany yX0_howMany ∈ am_B := am_inB (i := 463) (by decide +kernel) rfl
theorem wd_348 : Jvm.Cond.code yX0_howMany cX0_howMany 2 (some .int) ∈ am_B := am_inB (i := 464) (by decide +kernel) rfl
theorem wd_349 : Jvm.Cond.methodLink RX6 144 yX6_moveOne ∈ am_B := am_inB (i := 480) (by decide +kernel) rfl
theorem wd_350 : Jvm.Cond.instanceMethod yX6_moveOne ∈ am_B := am_inB (i := 482) (by decide +kernel) rfl
theorem wd_351 : Jvm.Cond.selects RX6 yX6_moveOne yX6_moveOne ∈ am_B := am_inP (i := 14) (by decide +kernel) rfl
theorem wd_352 : Jvm.Cond.code yX6_moveOne cX6_moveOne 4 (some .int) ∈ am_B := am_inB (i := 483) (by decide +kernel) rfl
theorem wd_353 : Jvm.Cond.methodLink RX6 147 yX0_takeAboard ∈ am_B := am_inB (i := 492) (by decide +kernel) rfl
theorem wd_354 : Jvm.Cond.methodLink RX6 150 yX0_passHours ∈ am_B := am_inB (i := 506) (by decide +kernel) rfl
theorem wd_355 : Jvm.Cond.instanceMethod yX0_passHours ∈ am_B := am_inB (i := 507) (by decide +kernel) rfl
theorem wd_356 : Jvm.Cond.selects RX0 yX0_passHours yX0_passHours ∈ am_B := am_inB (i := 508) (by decide +kernel) rfl
theorem wd_357 : Jvm.Cond.code yX0_passHours cX0_passHours 4 (some .int) ∈ am_B := am_inB (i := 509) (by decide +kernel) rfl
theorem wd_358 : Jvm.Cond.fieldLink RX6 28 (TX6 3).1 (TX6 3).2.1 (TX6 3).2.2.1 ∈ am_B := am_inB (i := 202) (by decide +kernel) rfl
theorem wd_359 : Jvm.Cond.methodLink RX6 153 yX0_passHour ∈ am_B := am_inB (i := 526) (by decide +kernel) rfl
theorem wd_360 : Jvm.Cond.fieldLink RX6 167 (TX3 2).1 (TX3 2).2.1 (TX3 2).2.2.1 ∈ am_B := am_inB (i := 142) (by decide +kernel) rfl
theorem wd_361 : Jvm.Cond.fieldLink RX6 34 (TX6 4).1 (TX6 4).2.1 (TX6 4).2.2.1 ∈ am_B := am_inB (i := 203) (by decide +kernel) rfl
theorem wd_362 : Jvm.Cond.methodLink RX6 164 yX3_pack ∈ am_B := am_inB (i := 551) (by decide +kernel) rfl
theorem wd_363 : Jvm.Cond.instanceMethod yX3_pack ∈ am_B := am_inB (i := 552) (by decide +kernel) rfl
theorem wd_364 : Jvm.Cond.selects RX3 yX3_pack yX3_pack ∈ am_B := am_inB (i := 553) (by decide +kernel) rfl
theorem wd_365 : Jvm.Cond.code yX3_pack cX3_pack 6 none ∈ am_B := am_inB (i := 554) (by decide +kernel) rfl
theorem wd_366 : Jvm.Cond.methodLink RX6 160 yX3_gather ∈ am_B := am_inB (i := 539) (by decide +kernel) rfl
theorem wd_367 : Jvm.Cond.instanceMethod yX3_gather ∈ am_B := am_inB (i := 540) (by decide +kernel) rfl
theorem wd_368 : Jvm.Cond.selects RX3 yX3_gather yX3_gather ∈ am_B := am_inB (i := 541) (by decide +kernel) rfl
theorem wd_369 : Jvm.Cond.code yX3_gather cX3_gather 7 none ∈ am_B := am_inB (i := 542) (by decide +kernel) rfl
theorem wd_370 : Jvm.Cond.methodLink RX6 156 yX0_here ∈ am_B := am_inB (i := 535) (by decide +kernel) rfl
theorem wd_371 : Jvm.Cond.instanceMethod yX0_here ∈ am_B := am_inB (i := 536) (by decide +kernel) rfl
theorem wd_372 : Jvm.Cond.selects RX0 yX0_here yX0_here ∈ am_B := am_inB (i := 537) (by decide +kernel) rfl
theorem wd_373 : Jvm.Cond.code yX0_here cX0_here 1 (some .int) ∈ am_B := am_inB (i := 538) (by decide +kernel) rfl
theorem wd_374 : Jvm.Cond.fieldLink RX6 175 (TX3 1).1 (TX3 1).2.1 (TX3 1).2.2.1 ∈ am_B := am_inB (i := 140) (by decide +kernel) rfl
theorem wd_375 : Jvm.Cond.fieldLink RX6 174 (TX3 3).1 (TX3 3).2.1 (TX3 3).2.2.1 ∈ am_B := am_inB (i := 144) (by decide +kernel) rfl
theorem wd_376 : Jvm.Cond.methodLink RX6 181 yX3_inAny ∈ am_B := am_inB (i := 578) (by decide +kernel) rfl
theorem wd_377 : Jvm.Cond.instanceMethod yX3_inAny ∈ am_B := am_inB (i := 579) (by decide +kernel) rfl
theorem wd_378 : Jvm.Cond.selects RX3 yX3_inAny yX3_inAny ∈ am_B := am_inB (i := 580) (by decide +kernel) rfl
theorem wd_379 : Jvm.Cond.code yX3_inAny cX3_inAny 3 (some .int) ∈ am_B := am_inB (i := 581) (by decide +kernel) rfl
theorem wd_380 : Jvm.Cond.methodLink RX6 178 yX3_inAll ∈ am_B := am_inB (i := 574) (by decide +kernel) rfl
theorem wd_381 : Jvm.Cond.instanceMethod yX3_inAll ∈ am_B := am_inB (i := 575) (by decide +kernel) rfl
theorem wd_382 : Jvm.Cond.selects RX3 yX3_inAll yX3_inAll ∈ am_B := am_inB (i := 576) (by decide +kernel) rfl
theorem wd_383 : Jvm.Cond.code yX3_inAll cX3_inAll 3 (some .int) ∈ am_B := am_inB (i := 577) (by decide +kernel) rfl
theorem wd_384 : Jvm.Cond.methodLink RX6 170 yX6_tellSets ∈ am_B := am_inB (i := 570) (by decide +kernel) rfl
theorem wd_385 : Jvm.Cond.instanceMethod yX6_tellSets ∈ am_B := am_inB (i := 572) (by decide +kernel) rfl
theorem wd_386 : Jvm.Cond.selects RX6 yX6_tellSets yX6_tellSets ∈ am_B := am_inP (i := 17) (by decide +kernel) rfl
theorem wd_387 : Jvm.Cond.code yX6_tellSets cX6_tellSets 3 (some .int) ∈ am_B := am_inB (i := 573) (by decide +kernel) rfl
theorem wd_388 : Jvm.Cond.methodLink RX6 184 yJ6_numberOfTrailingZeros_0f7a4 ∈ am_B := am_inB (i := 590) (by decide +kernel) rfl
theorem wd_389 : Jvm.Cond.static yJ6_numberOfTrailingZeros_0f7a4 ∈ am_B := am_inB (i := 591) (by decide +kernel) rfl
theorem wd_390 : Jvm.Cond.code yJ6_numberOfTrailingZeros_0f7a4 cJ6_numberOfTrailingZeros_0f7a4 2 (some .int) ∈ am_B := am_inB (i := 592) (by decide +kernel) rfl
theorem wd_391 : Jvm.Cond.methodLink RX6 195 yX0_costToPart ∈ am_B := am_inB (i := 599) (by decide +kernel) rfl
theorem wd_392 : Jvm.Cond.instanceMethod yX0_costToPart ∈ am_B := am_inB (i := 600) (by decide +kernel) rfl
theorem wd_393 : Jvm.Cond.selects RX0 yX0_costToPart yX0_costToPart ∈ am_B := am_inB (i := 601) (by decide +kernel) rfl
theorem wd_394 : Jvm.Cond.code yX0_costToPart cX0_costToPart 11 (some .int) ∈ am_B := am_inB (i := 602) (by decide +kernel) rfl
theorem wd_395 : Jvm.Cond.methodLink RX6 192 yJ6_bitCount_0f7a4 ∈ am_B := am_inB (i := 598) (by decide +kernel) rfl
theorem wd_396 : Jvm.Cond.methodLink RX6 189 yX0_pools ∈ am_B := am_inB (i := 597) (by decide +kernel) rfl
theorem wd_397 : Jvm.Cond.fieldLink RX6 59 (TX6 9).1 (TX6 9).2.1 (TX6 9).2.2.1 ∈ am_B := am_inB (i := 208) (by decide +kernel) rfl
theorem wd_398 : Jvm.Cond.methodLink RX6 198 yX3_hasOneWithin ∈ am_B := am_inB (i := 611) (by decide +kernel) rfl
theorem wd_399 : Jvm.Cond.instanceMethod yX3_hasOneWithin ∈ am_B := am_inB (i := 612) (by decide +kernel) rfl
theorem wd_400 : Jvm.Cond.selects RX3 yX3_hasOneWithin yX3_hasOneWithin ∈ am_B := am_inB (i := 613) (by decide +kernel) rfl
theorem wd_401 : Jvm.Cond.code yX3_hasOneWithin cX3_hasOneWithin 3 (some .boolean) ∈ am_B := am_inB (i := 614) (by decide +kernel) rfl
theorem wd_402 : Jvm.Cond.methodLink RX6 207 yX6_power ∈ am_B := am_inB (i := 627) (by decide +kernel) rfl
theorem wd_403 : Jvm.Cond.static yX6_power ∈ am_B := am_inB (i := 628) (by decide +kernel) rfl
theorem wd_404 : Jvm.Cond.code yX6_power cX6_power 5 (some .long) ∈ am_B := am_inB (i := 629) (by decide +kernel) rfl
theorem wd_405 : Jvm.Cond.constantLong RX6 201 (-1) ∈ am_B := am_inB (i := 623) (by decide +kernel) rfl
theorem wd_406 : Jvm.Cond.methodLink RX6 215 yX6_commonDivisor ∈ am_B := am_inB (i := 633) (by decide +kernel) rfl
theorem wd_407 : Jvm.Cond.static yX6_commonDivisor ∈ am_B := am_inB (i := 634) (by decide +kernel) rfl
theorem wd_408 : Jvm.Cond.code yX6_commonDivisor cX6_commonDivisor 11 (some .long) ∈ am_B := am_inB (i := 635) (by decide +kernel) rfl
theorem wd_409 : Jvm.Cond.methodLink RX6 211 yX6_inLowestTerms ∈ am_B := am_inB (i := 630) (by decide +kernel) rfl
theorem wd_410 : Jvm.Cond.static yX6_inLowestTerms ∈ am_B := am_inB (i := 631) (by decide +kernel) rfl
theorem wd_411 : Jvm.Cond.code yX6_inLowestTerms cX6_inLowestTerms 7 (some .long) ∈ am_B := am_inB (i := 632) (by decide +kernel) rfl
theorem wd_412 : Jvm.Cond.methodLink RX6 203 yX6_weight ∈ am_B := am_inB (i := 624) (by decide +kernel) rfl
theorem wd_413 : Jvm.Cond.static yX6_weight ∈ am_B := am_inB (i := 625) (by decide +kernel) rfl
theorem wd_414 : Jvm.Cond.code yX6_weight cX6_weight 3 (some .long) ∈ am_B := am_inB (i := 626) (by decide +kernel) rfl
theorem wd_415 : Jvm.Cond.methodLink RX6 219 yX2_note ∈ am_B := am_inB (i := 644) (by decide +kernel) rfl
theorem wd_416 : Jvm.Cond.instanceMethod yX2_note ∈ am_B := am_inB (i := 645) (by decide +kernel) rfl
theorem wd_417 : Jvm.Cond.selects RX2 yX2_note yX2_note ∈ am_B := am_inB (i := 646) (by decide +kernel) rfl
theorem wd_418 : Jvm.Cond.initialized RX2 ∈ am_B := am_inB (i := 6) (by decide +kernel) rfl
theorem wd_419 : Jvm.Cond.code yX2_note cX2_note 3 (some .boolean) ∈ am_B := am_inB (i := 647) (by decide +kernel) rfl
theorem wd_420 : Jvm.Cond.methodLink RX6 223 yX2_those ∈ am_B := am_inB (i := 656) (by decide +kernel) rfl
theorem wd_421 : Jvm.Cond.instanceMethod yX2_those ∈ am_B := am_inB (i := 657) (by decide +kernel) rfl
theorem wd_422 : Jvm.Cond.selects RX2 yX2_those yX2_those ∈ am_B := am_inB (i := 658) (by decide +kernel) rfl
theorem wd_423 : Jvm.Cond.code yX2_those cX2_those 4 (some .int) ∈ am_B := am_inB (i := 659) (by decide +kernel) rfl
theorem wd_424 : Jvm.Cond.constant RX6 226 (1103515245) ∈ am_B := am_inB (i := 664) (by decide +kernel) rfl
theorem wd_425 : Jvm.Cond.fieldLink RX6 45 (TX6 6).1 (TX6 6).2.1 (TX6 6).2.2.1 ∈ am_B := am_inB (i := 205) (by decide +kernel) rfl
theorem wd_426 : Jvm.Cond.fieldLink RX6 55 (TX6 8).1 (TX6 8).2.1 (TX6 8).2.2.1 ∈ am_B := am_inB (i := 207) (by decide +kernel) rfl
theorem wd_427 : Jvm.Cond.methodLink RX6 233 yX4_renew ∈ am_B := am_inB (i := 683) (by decide +kernel) rfl
theorem wd_428 : Jvm.Cond.instanceMethod yX4_renew ∈ am_B := am_inB (i := 684) (by decide +kernel) rfl
theorem wd_429 : Jvm.Cond.selects RX4 yX4_renew yX4_renew ∈ am_B := am_inB (i := 685) (by decide +kernel) rfl
theorem wd_430 : Jvm.Cond.code yX4_renew cX4_renew 4 none ∈ am_B := am_inB (i := 686) (by decide +kernel) rfl
theorem wd_431 : Jvm.Cond.methodLink RX6 230 yX6_isLane ∈ am_B := am_inB (i := 680) (by decide +kernel) rfl
theorem wd_432 : Jvm.Cond.static yX6_isLane ∈ am_B := am_inB (i := 681) (by decide +kernel) rfl
theorem wd_433 : Jvm.Cond.code yX6_isLane cX6_isLane 1 (some .boolean) ∈ am_B := am_inB (i := 682) (by decide +kernel) rfl
theorem wd_434 : Jvm.Cond.methodLink RX6 227 yX6_isSheet ∈ am_B := am_inB (i := 677) (by decide +kernel) rfl
theorem wd_435 : Jvm.Cond.static yX6_isSheet ∈ am_B := am_inB (i := 678) (by decide +kernel) rfl
theorem wd_436 : Jvm.Cond.code yX6_isSheet cX6_isSheet 1 (some .boolean) ∈ am_B := am_inB (i := 679) (by decide +kernel) rfl
theorem wd_437 : Jvm.Cond.methodLink RX6 240 yX4_put ∈ am_B := am_inB (i := 695) (by decide +kernel) rfl
theorem wd_438 : Jvm.Cond.instanceMethod yX4_put ∈ am_B := am_inB (i := 696) (by decide +kernel) rfl
theorem wd_439 : Jvm.Cond.selects RX4 yX4_put yX4_put ∈ am_B := am_inB (i := 697) (by decide +kernel) rfl
theorem wd_440 : Jvm.Cond.code yX4_put cX4_put 3 none ∈ am_B := am_inB (i := 698) (by decide +kernel) rfl
theorem wd_441 : Jvm.Cond.methodLink RX6 237 yX4_faultAt ∈ am_B := am_inB (i := 691) (by decide +kernel) rfl
theorem wd_442 : Jvm.Cond.fieldLink RX6 67 (TX6 11).1 (TX6 11).2.1 (TX6 11).2.2.1 ∈ am_B := am_inB (i := 210) (by decide +kernel) rfl
theorem wd_443 : Jvm.Cond.fieldLink RX6 246 (TX4 0).1 (TX4 0).2.1 (TX4 0).2.2.1 ∈ am_B := am_inB (i := 184) (by decide +kernel) rfl
theorem wd_444 : Jvm.Cond.methodLink RX6 243 yX4_faultAs ∈ am_B := am_inB (i := 703) (by decide +kernel) rfl
theorem wd_445 : Jvm.Cond.instanceMethod yX4_faultAs ∈ am_B := am_inB (i := 704) (by decide +kernel) rfl
theorem wd_446 : Jvm.Cond.selects RX4 yX4_faultAs yX4_faultAs ∈ am_B := am_inB (i := 705) (by decide +kernel) rfl
theorem wd_447 : Jvm.Cond.code yX4_faultAs cX4_faultAs 3 (some .int) ∈ am_B := am_inB (i := 706) (by decide +kernel) rfl
theorem wd_448 : Jvm.Cond.fieldLink RX6 253 (TX4 3).1 (TX4 3).2.1 (TX4 3).2.2.1 ∈ am_B := am_inB (i := 189) (by decide +kernel) rfl
theorem wd_449 : Jvm.Cond.fieldLink RX6 249 (TX4 1).1 (TX4 1).2.1 (TX4 1).2.2.1 ∈ am_B := am_inB (i := 186) (by decide +kernel) rfl
theorem wd_450 : Jvm.Cond.methodLink RX6 256 yX6_alikePairs ∈ am_B := am_inB (i := 716) (by decide +kernel) rfl
theorem wd_451 : Jvm.Cond.instanceMethod yX6_alikePairs ∈ am_B := am_inB (i := 718) (by decide +kernel) rfl
theorem wd_452 : Jvm.Cond.selects RX6 yX6_alikePairs yX6_alikePairs ∈ am_B := am_inP (i := 18) (by decide +kernel) rfl
theorem wd_453 : Jvm.Cond.code yX6_alikePairs cX6_alikePairs 2 (some .int) ∈ am_B := am_inB (i := 719) (by decide +kernel) rfl
theorem wd_454 : Jvm.Cond.fieldLink RX7 16 (TX7 6).1 (TX7 6).2.1 (TX7 6).2.2.1 ∈ am_B := am_inB (i := 732) (by decide +kernel) rfl
theorem wd_455 : Jvm.Cond.fieldLink RX7 50 (TX7 7).1 (TX7 7).2.1 (TX7 7).2.2.1 ∈ am_B := am_inB (i := 733) (by decide +kernel) rfl
theorem wd_456 : Jvm.Cond.constantLong RX7 44 (127) ∈ am_B := am_inB (i := 818) (by decide +kernel) rfl
theorem wd_457 : Jvm.Cond.methodLink RX7 46 yX7_in ∈ am_B := am_inB (i := 819) (by decide +kernel) rfl
theorem wd_458 : Jvm.Cond.static yX7_in ∈ am_B := am_inB (i := 820) (by decide +kernel) rfl
theorem wd_459 : Jvm.Cond.initialized RX7 ∈ am_B := am_inB (i := 8) (by decide +kernel) rfl
theorem wd_460 : Jvm.Cond.code yX7_in cX7_in 6 (some .boolean) ∈ am_B := am_inB (i := 821) (by decide +kernel) rfl
theorem wd_461 : Jvm.Cond.fieldLink RX7 60 (TX7 10).1 (TX7 10).2.1 (TX7 10).2.2.1 ∈ am_B := am_inB (i := 736) (by decide +kernel) rfl
theorem wd_462 : Jvm.Cond.fieldLink RX7 57 (TX7 12).1 (TX7 12).2.1 (TX7 12).2.2.1 ∈ am_B := am_inB (i := 738) (by decide +kernel) rfl
theorem wd_463 : Jvm.Cond.fieldLink RX7 54 (TX7 9).1 (TX7 9).2.1 (TX7 9).2.2.1 ∈ am_B := am_inB (i := 735) (by decide +kernel) rfl
theorem wd_464 : Jvm.Cond.fieldLink RX7 22 (TX7 16).1 (TX7 16).2.1 (TX7 16).2.2.1 ∈ am_B := am_inB (i := 742) (by decide +kernel) rfl
theorem wd_465 : Jvm.Cond.fieldLink RX7 19 (TX7 15).1 (TX7 15).2.1 (TX7 15).2.2.1 ∈ am_B := am_inB (i := 741) (by decide +kernel) rfl
theorem wd_466 : Jvm.Cond.fieldLink RX7 66 (TX7 11).1 (TX7 11).2.1 (TX7 11).2.2.1 ∈ am_B := am_inB (i := 737) (by decide +kernel) rfl
theorem wd_467 : Jvm.Cond.fieldLink RX7 63 (TX7 13).1 (TX7 13).2.1 (TX7 13).2.2.1 ∈ am_B := am_inB (i := 739) (by decide +kernel) rfl
theorem wd_468 : Jvm.Cond.methodLink RX7 69 yX7_byteAt ∈ am_B := am_inB (i := 834) (by decide +kernel) rfl
theorem wd_469 : Jvm.Cond.instanceMethod yX7_byteAt ∈ am_B := am_inB (i := 836) (by decide +kernel) rfl
theorem wd_470 : Jvm.Cond.selects RX7 yX7_byteAt yX7_byteAt ∈ am_B := am_inP (i := 20) (by decide +kernel) rfl
theorem wd_471 : Jvm.Cond.code yX7_byteAt cX7_byteAt 2 (some .int) ∈ am_B := am_inB (i := 837) (by decide +kernel) rfl
theorem wd_472 : Jvm.Cond.fieldLink RX7 73 (TX7 14).1 (TX7 14).2.1 (TX7 14).2.2.1 ∈ am_B := am_inB (i := 740) (by decide +kernel) rfl
theorem wd_473 : Jvm.Cond.constantLong RX7 82 (57) ∈ am_B := am_inB (i := 841) (by decide +kernel) rfl
theorem wd_474 : Jvm.Cond.constantLong RX7 80 (48) ∈ am_B := am_inB (i := 840) (by decide +kernel) rfl
theorem wd_475 : Jvm.Cond.constantLong RX7 78 (122) ∈ am_B := am_inB (i := 839) (by decide +kernel) rfl
theorem wd_476 : Jvm.Cond.constantLong RX7 76 (97) ∈ am_B := am_inB (i := 838) (by decide +kernel) rfl
theorem wd_477 : Jvm.Cond.methodLink RX7 84 yX7_fails ∈ am_B := am_inB (i := 842) (by decide +kernel) rfl
theorem wd_478 : Jvm.Cond.instanceMethod yX7_fails ∈ am_B := am_inB (i := 844) (by decide +kernel) rfl
theorem wd_479 : Jvm.Cond.selects RX7 yX7_fails yX7_fails ∈ am_B := am_inP (i := 21) (by decide +kernel) rfl
theorem wd_480 : Jvm.Cond.code yX7_fails cX7_fails 2 none ∈ am_B := am_inB (i := 845) (by decide +kernel) rfl
theorem wd_481 : Jvm.Cond.methodLink RX7 88 yX7_step ∈ am_B := am_inB (i := 830) (by decide +kernel) rfl
theorem wd_482 : Jvm.Cond.instanceMethod yX7_step ∈ am_B := am_inB (i := 832) (by decide +kernel) rfl
theorem wd_483 : Jvm.Cond.selects RX7 yX7_step yX7_step ∈ am_B := am_inP (i := 19) (by decide +kernel) rfl
theorem wd_484 : Jvm.Cond.code yX7_step cX7_step 2 none ∈ am_B := am_inB (i := 833) (by decide +kernel) rfl
theorem wd_485 : Jvm.Cond.fieldLink RX7 98 (TX7 5).1 (TX7 5).2.1 (TX7 5).2.2.1 ∈ am_B := am_inB (i := 731) (by decide +kernel) rfl
theorem wd_486 : Jvm.Cond.fieldLink RX7 13 (TX7 2).1 (TX7 2).2.1 (TX7 2).2.2.1 ∈ am_B := am_inB (i := 728) (by decide +kernel) rfl
theorem wd_487 : Jvm.Cond.fieldLink RX7 91 (TX7 3).1 (TX7 3).2.1 (TX7 3).2.2.1 ∈ am_B := am_inB (i := 729) (by decide +kernel) rfl
theorem wd_488 : Jvm.Cond.methodLink RX7 94 yX7_other ∈ am_B := am_inB (i := 861) (by decide +kernel) rfl
theorem wd_489 : Jvm.Cond.instanceMethod yX7_other ∈ am_B := am_inB (i := 863) (by decide +kernel) rfl
theorem wd_490 : Jvm.Cond.selects RX7 yX7_other yX7_other ∈ am_B := am_inP (i := 25) (by decide +kernel) rfl
theorem wd_491 : Jvm.Cond.code yX7_other cX7_other 5 (some .int) ∈ am_B := am_inB (i := 864) (by decide +kernel) rfl
theorem wd_492 : Jvm.Cond.fieldLink RX7 111 (TX7 4).1 (TX7 4).2.1 (TX7 4).2.2.1 ∈ am_B := am_inB (i := 730) (by decide +kernel) rfl
theorem wd_493 : Jvm.Cond.constantLong RX7 109 (6) ∈ am_B := am_inB (i := 856) (by decide +kernel) rfl
theorem wd_494 : Jvm.Cond.constantLong RX7 107 (5) ∈ am_B := am_inB (i := 855) (by decide +kernel) rfl
theorem wd_495 : Jvm.Cond.constantLong RX7 105 (7) ∈ am_B := am_inB (i := 854) (by decide +kernel) rfl
theorem wd_496 : Jvm.Cond.methodLink RX7 114 yX7_readMore ∈ am_B := am_inB (i := 857) (by decide +kernel) rfl
theorem wd_497 : Jvm.Cond.instanceMethod yX7_readMore ∈ am_B := am_inB (i := 859) (by decide +kernel) rfl
theorem wd_498 : Jvm.Cond.selects RX7 yX7_readMore yX7_readMore ∈ am_B := am_inP (i := 24) (by decide +kernel) rfl
theorem wd_499 : Jvm.Cond.code yX7_readMore cX7_readMore 4 none ∈ am_B := am_inB (i := 860) (by decide +kernel) rfl
theorem wd_500 : Jvm.Cond.methodLink RX7 101 yX7_nameHere ∈ am_B := am_inB (i := 850) (by decide +kernel) rfl
theorem wd_501 : Jvm.Cond.instanceMethod yX7_nameHere ∈ am_B := am_inB (i := 852) (by decide +kernel) rfl
theorem wd_502 : Jvm.Cond.selects RX7 yX7_nameHere yX7_nameHere ∈ am_B := am_inP (i := 23) (by decide +kernel) rfl
theorem wd_503 : Jvm.Cond.code yX7_nameHere cX7_nameHere 4 (some .int) ∈ am_B := am_inB (i := 853) (by decide +kernel) rfl
theorem wd_504 : Jvm.Cond.fieldLink RX7 31 (TX7 24).1 (TX7 24).2.1 (TX7 24).2.2.1 ∈ am_B := am_inB (i := 750) (by decide +kernel) rfl
theorem wd_505 : Jvm.Cond.fieldLink RX7 126 (TX7 23).1 (TX7 23).2.1 (TX7 23).2.2.1 ∈ am_B := am_inB (i := 749) (by decide +kernel) rfl
theorem wd_506 : Jvm.Cond.fieldLink RX7 123 (TX7 1).1 (TX7 1).2.1 (TX7 1).2.2.1 ∈ am_B := am_inB (i := 727) (by decide +kernel) rfl
theorem wd_507 : Jvm.Cond.fieldLink RX7 7 (TX7 0).1 (TX7 0).2.1 (TX7 0).2.2.1 ∈ am_B := am_inB (i := 726) (by decide +kernel) rfl
theorem wd_508 : Jvm.Cond.fieldLink RX7 120 (TX7 8).1 (TX7 8).2.1 (TX7 8).2.2.1 ∈ am_B := am_inB (i := 734) (by decide +kernel) rfl
theorem wd_509 : Jvm.Cond.methodLink RX7 117 yX7_readLine ∈ am_B := am_inB (i := 846) (by decide +kernel) rfl
theorem wd_510 : Jvm.Cond.instanceMethod yX7_readLine ∈ am_B := am_inB (i := 848) (by decide +kernel) rfl
theorem wd_511 : Jvm.Cond.selects RX7 yX7_readLine yX7_readLine ∈ am_B := am_inP (i := 22) (by decide +kernel) rfl
theorem wd_512 : Jvm.Cond.code yX7_readLine cX7_readLine 2 none ∈ am_B := am_inB (i := 849) (by decide +kernel) rfl
theorem wd_513 : Jvm.Cond.methodLink RX7 129 yX7_whoOn ∈ am_B := am_inB (i := 878) (by decide +kernel) rfl
theorem wd_514 : Jvm.Cond.instanceMethod yX7_whoOn ∈ am_B := am_inB (i := 880) (by decide +kernel) rfl
theorem wd_515 : Jvm.Cond.selects RX7 yX7_whoOn yX7_whoOn ∈ am_B := am_inP (i := 27) (by decide +kernel) rfl
theorem wd_516 : Jvm.Cond.code yX7_whoOn cX7_whoOn 5 (some .int) ∈ am_B := am_inB (i := 881) (by decide +kernel) rfl
theorem wd_517 : Jvm.Cond.constantLong RX7 136 (9) ∈ am_B := am_inB (i := 877) (by decide +kernel) rfl
theorem wd_518 : Jvm.Cond.methodLink RX7 133 yX7_seatsOn ∈ am_B := am_inB (i := 873) (by decide +kernel) rfl
theorem wd_519 : Jvm.Cond.instanceMethod yX7_seatsOn ∈ am_B := am_inB (i := 875) (by decide +kernel) rfl
theorem wd_520 : Jvm.Cond.selects RX7 yX7_seatsOn yX7_seatsOn ∈ am_B := am_inP (i := 26) (by decide +kernel) rfl
theorem wd_521 : Jvm.Cond.code yX7_seatsOn cX7_seatsOn 2 (some .int) ∈ am_B := am_inB (i := 876) (by decide +kernel) rfl
theorem wd_522 : Jvm.Cond.methodLink RX7 138 yX7_isOne ∈ am_B := am_inB (i := 886) (by decide +kernel) rfl
theorem wd_523 : Jvm.Cond.instanceMethod yX7_isOne ∈ am_B := am_inB (i := 888) (by decide +kernel) rfl
theorem wd_524 : Jvm.Cond.selects RX7 yX7_isOne yX7_isOne ∈ am_B := am_inP (i := 28) (by decide +kernel) rfl
theorem wd_525 : Jvm.Cond.code yX7_isOne cX7_isOne 2 (some .boolean) ∈ am_B := am_inB (i := 889) (by decide +kernel) rfl
theorem wd_526 : Jvm.Cond.methodLink RX7 142 yX7_counts ∈ am_B := am_inB (i := 902) (by decide +kernel) rfl
theorem wd_527 : Jvm.Cond.static yX7_counts ∈ am_B := am_inB (i := 903) (by decide +kernel) rfl
theorem wd_528 : Jvm.Cond.code yX7_counts cX7_counts 2 (some .boolean) ∈ am_B := am_inB (i := 904) (by decide +kernel) rfl
theorem wd_529 : Jvm.Cond.methodLink RX7 146 yX7_areAlike ∈ am_B := am_inB (i := 898) (by decide +kernel) rfl
theorem wd_530 : Jvm.Cond.instanceMethod yX7_areAlike ∈ am_B := am_inB (i := 900) (by decide +kernel) rfl
theorem wd_531 : Jvm.Cond.selects RX7 yX7_areAlike yX7_areAlike ∈ am_B := am_inP (i := 30) (by decide +kernel) rfl
theorem wd_532 : Jvm.Cond.code yX7_areAlike cX7_areAlike 6 (some .boolean) ∈ am_B := am_inB (i := 901) (by decide +kernel) rfl
theorem wd_533 : Jvm.Cond.methodLink RX7 149 yX7_alikeWith ∈ am_B := am_inB (i := 894) (by decide +kernel) rfl
theorem wd_534 : Jvm.Cond.instanceMethod yX7_alikeWith ∈ am_B := am_inB (i := 896) (by decide +kernel) rfl
theorem wd_535 : Jvm.Cond.selects RX7 yX7_alikeWith yX7_alikeWith ∈ am_B := am_inP (i := 29) (by decide +kernel) rfl
theorem wd_536 : Jvm.Cond.code yX7_alikeWith cX7_alikeWith 5 (some .int) ∈ am_B := am_inB (i := 897) (by decide +kernel) rfl
theorem wd_537 : Jvm.Cond.constantLong RX7 152 (2) ∈ am_B := am_inB (i := 909) (by decide +kernel) rfl
theorem wd_538 : Jvm.Cond.methodLink RX7 158 yX7_lays ∈ am_B := am_inB (i := 914) (by decide +kernel) rfl
theorem wd_539 : Jvm.Cond.instanceMethod yX7_lays ∈ am_B := am_inB (i := 916) (by decide +kernel) rfl
theorem wd_540 : Jvm.Cond.selects RX7 yX7_lays yX7_lays ∈ am_B := am_inP (i := 32) (by decide +kernel) rfl
theorem wd_541 : Jvm.Cond.code yX7_lays cX7_lays 5 (some .int) ∈ am_B := am_inB (i := 917) (by decide +kernel) rfl
theorem wd_542 : Jvm.Cond.methodLink RX7 154 yX7_is ∈ am_B := am_inB (i := 910) (by decide +kernel) rfl
theorem wd_543 : Jvm.Cond.instanceMethod yX7_is ∈ am_B := am_inB (i := 912) (by decide +kernel) rfl
theorem wd_544 : Jvm.Cond.selects RX7 yX7_is yX7_is ∈ am_B := am_inP (i := 31) (by decide +kernel) rfl
theorem wd_545 : Jvm.Cond.code yX7_is cX7_is 4 (some .boolean) ∈ am_B := am_inB (i := 913) (by decide +kernel) rfl
theorem wd_546 : Jvm.Cond.constantLong RX7 162 (4) ∈ am_B := am_inB (i := 922) (by decide +kernel) rfl
theorem wd_547 : Jvm.Cond.methodLink RX7 164 yX7_bitsOf ∈ am_B := am_inB (i := 931) (by decide +kernel) rfl
theorem wd_548 : Jvm.Cond.static yX7_bitsOf ∈ am_B := am_inB (i := 932) (by decide +kernel) rfl
theorem wd_549 : Jvm.Cond.code yX7_bitsOf cX7_bitsOf 3 (some .int) ∈ am_B := am_inB (i := 933) (by decide +kernel) rfl
theorem wd_550 : Jvm.Cond.methodLink RX7 167 yX7_becomes ∈ am_B := am_inB (i := 942) (by decide +kernel) rfl
theorem wd_551 : Jvm.Cond.instanceMethod yX7_becomes ∈ am_B := am_inB (i := 944) (by decide +kernel) rfl
theorem wd_552 : Jvm.Cond.selects RX7 yX7_becomes yX7_becomes ∈ am_B := am_inP (i := 33) (by decide +kernel) rfl
theorem wd_553 : Jvm.Cond.code yX7_becomes cX7_becomes 4 (some .int) ∈ am_B := am_inB (i := 945) (by decide +kernel) rfl
theorem wd_554 : Jvm.Cond.methodLink RX7 170 yX7_boards ∈ am_B := am_inB (i := 958) (by decide +kernel) rfl
theorem wd_555 : Jvm.Cond.instanceMethod yX7_boards ∈ am_B := am_inB (i := 960) (by decide +kernel) rfl
theorem wd_556 : Jvm.Cond.selects RX7 yX7_boards yX7_boards ∈ am_B := am_inP (i := 35) (by decide +kernel) rfl
theorem wd_557 : Jvm.Cond.code yX7_boards cX7_boards 5 (some .boolean) ∈ am_B := am_inB (i := 961) (by decide +kernel) rfl
theorem wd_558 : Jvm.Cond.methodLink RX7 173 yX7_boarded ∈ am_B := am_inB (i := 954) (by decide +kernel) rfl
theorem wd_559 : Jvm.Cond.instanceMethod yX7_boarded ∈ am_B := am_inB (i := 956) (by decide +kernel) rfl
theorem wd_560 : Jvm.Cond.selects RX7 yX7_boarded yX7_boarded ∈ am_B := am_inP (i := 34) (by decide +kernel) rfl
theorem wd_561 : Jvm.Cond.code yX7_boarded cX7_boarded 2 (some .int) ∈ am_B := am_inB (i := 957) (by decide +kernel) rfl
theorem wd_562 : Jvm.Cond.methodLink RX7 176 yX7_anHour ∈ am_B := am_inB (i := 971) (by decide +kernel) rfl
theorem wd_563 : Jvm.Cond.instanceMethod yX7_anHour ∈ am_B := am_inB (i := 973) (by decide +kernel) rfl
theorem wd_564 : Jvm.Cond.selects RX7 yX7_anHour yX7_anHour ∈ am_B := am_inP (i := 37) (by decide +kernel) rfl
theorem wd_565 : Jvm.Cond.code yX7_anHour cX7_anHour 5 none ∈ am_B := am_inB (i := 974) (by decide +kernel) rfl
theorem wd_566 : Jvm.Cond.constantLong RX7 179 (30) ∈ am_B := am_inB (i := 966) (by decide +kernel) rfl
theorem wd_567 : Jvm.Cond.methodLink RX7 181 yX7_goesOn ∈ am_B := am_inB (i := 967) (by decide +kernel) rfl
theorem wd_568 : Jvm.Cond.instanceMethod yX7_goesOn ∈ am_B := am_inB (i := 969) (by decide +kernel) rfl
theorem wd_569 : Jvm.Cond.selects RX7 yX7_goesOn yX7_goesOn ∈ am_B := am_inP (i := 36) (by decide +kernel) rfl
theorem wd_570 : Jvm.Cond.code yX7_goesOn cX7_goesOn 5 (some .int) ∈ am_B := am_inB (i := 970) (by decide +kernel) rfl
theorem wd_571 : Jvm.Cond.methodLink RX7 184 yX7_copies ∈ am_B := am_inB (i := 979) (by decide +kernel) rfl
theorem wd_572 : Jvm.Cond.instanceMethod yX7_copies ∈ am_B := am_inB (i := 981) (by decide +kernel) rfl
theorem wd_573 : Jvm.Cond.selects RX7 yX7_copies yX7_copies ∈ am_B := am_inP (i := 38) (by decide +kernel) rfl
theorem wd_574 : Jvm.Cond.code yX7_copies cX7_copies 4 none ∈ am_B := am_inB (i := 982) (by decide +kernel) rfl
theorem wd_575 : Jvm.Cond.fieldLink RX7 25 (TX7 17).1 (TX7 17).2.1 (TX7 17).2.2.1 ∈ am_B := am_inB (i := 743) (by decide +kernel) rfl
theorem wd_576 : Jvm.Cond.methodLink RX7 188 yX7_isUnlike ∈ am_B := am_inB (i := 999) (by decide +kernel) rfl
theorem wd_577 : Jvm.Cond.instanceMethod yX7_isUnlike ∈ am_B := am_inB (i := 1001) (by decide +kernel) rfl
theorem wd_578 : Jvm.Cond.selects RX7 yX7_isUnlike yX7_isUnlike ∈ am_B := am_inP (i := 40) (by decide +kernel) rfl
theorem wd_579 : Jvm.Cond.code yX7_isUnlike cX7_isUnlike 4 (some .boolean) ∈ am_B := am_inB (i := 1002) (by decide +kernel) rfl
theorem wd_580 : Jvm.Cond.methodLink RX7 194 yX7_hereNow ∈ am_B := am_inB (i := 1003) (by decide +kernel) rfl
theorem wd_581 : Jvm.Cond.instanceMethod yX7_hereNow ∈ am_B := am_inB (i := 1005) (by decide +kernel) rfl
theorem wd_582 : Jvm.Cond.selects RX7 yX7_hereNow yX7_hereNow ∈ am_B := am_inP (i := 41) (by decide +kernel) rfl
theorem wd_583 : Jvm.Cond.code yX7_hereNow cX7_hereNow 1 (some .int) ∈ am_B := am_inB (i := 1006) (by decide +kernel) rfl
theorem wd_584 : Jvm.Cond.methodLink RX7 191 yX7_layMost ∈ am_B := am_inB (i := 995) (by decide +kernel) rfl
theorem wd_585 : Jvm.Cond.instanceMethod yX7_layMost ∈ am_B := am_inB (i := 997) (by decide +kernel) rfl
theorem wd_586 : Jvm.Cond.selects RX7 yX7_layMost yX7_layMost ∈ am_B := am_inP (i := 39) (by decide +kernel) rfl
theorem wd_587 : Jvm.Cond.code yX7_layMost cX7_layMost 5 none ∈ am_B := am_inB (i := 998) (by decide +kernel) rfl
theorem wd_588 : Jvm.Cond.fieldLink RX7 206 (TX7 21).1 (TX7 21).2.1 (TX7 21).2.2.1 ∈ am_B := am_inB (i := 747) (by decide +kernel) rfl
theorem wd_589 : Jvm.Cond.fieldLink RX7 203 (TX7 20).1 (TX7 20).2.1 (TX7 20).2.2.1 ∈ am_B := am_inB (i := 746) (by decide +kernel) rfl
theorem wd_590 : Jvm.Cond.fieldLink RX7 200 (TX7 19).1 (TX7 19).2.1 (TX7 19).2.2.1 ∈ am_B := am_inB (i := 745) (by decide +kernel) rfl
theorem wd_591 : Jvm.Cond.fieldLink RX7 197 (TX7 18).1 (TX7 18).2.1 (TX7 18).2.2.1 ∈ am_B := am_inB (i := 744) (by decide +kernel) rfl
theorem wd_592 : Jvm.Cond.constantLong RX7 209 (3) ∈ am_B := am_inB (i := 1011) (by decide +kernel) rfl
theorem wd_593 : Jvm.Cond.methodLink RX7 220 yX7_answers ∈ am_B := am_inB (i := 1024) (by decide +kernel) rfl
theorem wd_594 : Jvm.Cond.instanceMethod yX7_answers ∈ am_B := am_inB (i := 1026) (by decide +kernel) rfl
theorem wd_595 : Jvm.Cond.selects RX7 yX7_answers yX7_answers ∈ am_B := am_inP (i := 45) (by decide +kernel) rfl
theorem wd_596 : Jvm.Cond.code yX7_answers cX7_answers 3 (some .int) ∈ am_B := am_inB (i := 1027) (by decide +kernel) rfl
theorem wd_597 : Jvm.Cond.methodLink RX7 217 yX7_comesSet ∈ am_B := am_inB (i := 1020) (by decide +kernel) rfl
theorem wd_598 : Jvm.Cond.instanceMethod yX7_comesSet ∈ am_B := am_inB (i := 1022) (by decide +kernel) rfl
theorem wd_599 : Jvm.Cond.selects RX7 yX7_comesSet yX7_comesSet ∈ am_B := am_inP (i := 44) (by decide +kernel) rfl
theorem wd_600 : Jvm.Cond.code yX7_comesSet cX7_comesSet 2 none ∈ am_B := am_inB (i := 1023) (by decide +kernel) rfl
theorem wd_601 : Jvm.Cond.methodLink RX7 214 yX7_isBoat ∈ am_B := am_inB (i := 1016) (by decide +kernel) rfl
theorem wd_602 : Jvm.Cond.instanceMethod yX7_isBoat ∈ am_B := am_inB (i := 1018) (by decide +kernel) rfl
theorem wd_603 : Jvm.Cond.selects RX7 yX7_isBoat yX7_isBoat ∈ am_B := am_inP (i := 43) (by decide +kernel) rfl
theorem wd_604 : Jvm.Cond.code yX7_isBoat cX7_isBoat 2 (some .boolean) ∈ am_B := am_inB (i := 1019) (by decide +kernel) rfl
theorem wd_605 : Jvm.Cond.methodLink RX7 211 yX7_begins ∈ am_B := am_inB (i := 1012) (by decide +kernel) rfl
theorem wd_606 : Jvm.Cond.instanceMethod yX7_begins ∈ am_B := am_inB (i := 1014) (by decide +kernel) rfl
theorem wd_607 : Jvm.Cond.selects RX7 yX7_begins yX7_begins ∈ am_B := am_inP (i := 42) (by decide +kernel) rfl
theorem wd_608 : Jvm.Cond.code yX7_begins cX7_begins 1 none ∈ am_B := am_inB (i := 1015) (by decide +kernel) rfl
theorem wd_609 : Jvm.Cond.methodLink RX7 223 yX7_isFilling ∈ am_B := am_inB (i := 1032) (by decide +kernel) rfl
theorem wd_610 : Jvm.Cond.instanceMethod yX7_isFilling ∈ am_B := am_inB (i := 1034) (by decide +kernel) rfl
theorem wd_611 : Jvm.Cond.selects RX7 yX7_isFilling yX7_isFilling ∈ am_B := am_inP (i := 46) (by decide +kernel) rfl
theorem wd_612 : Jvm.Cond.code yX7_isFilling cX7_isFilling 3 (some .boolean) ∈ am_B := am_inB (i := 1035) (by decide +kernel) rfl
theorem wd_613 : Jvm.Cond.methodLink RX7 226 yX7_changes ∈ am_B := am_inB (i := 1044) (by decide +kernel) rfl
theorem wd_614 : Jvm.Cond.instanceMethod yX7_changes ∈ am_B := am_inB (i := 1046) (by decide +kernel) rfl
theorem wd_615 : Jvm.Cond.selects RX7 yX7_changes yX7_changes ∈ am_B := am_inP (i := 47) (by decide +kernel) rfl
theorem wd_616 : Jvm.Cond.code yX7_changes cX7_changes 6 (some .int) ∈ am_B := am_inB (i := 1047) (by decide +kernel) rfl
theorem wd_617 : Jvm.Cond.methodLink RX7 229 yX7_isUnlikeAll ∈ am_B := am_inB (i := 1056) (by decide +kernel) rfl
theorem wd_618 : Jvm.Cond.instanceMethod yX7_isUnlikeAll ∈ am_B := am_inB (i := 1058) (by decide +kernel) rfl
theorem wd_619 : Jvm.Cond.selects RX7 yX7_isUnlikeAll yX7_isUnlikeAll ∈ am_B := am_inP (i := 49) (by decide +kernel) rfl
theorem wd_620 : Jvm.Cond.code yX7_isUnlikeAll cX7_isUnlikeAll 9 (some .boolean) ∈ am_B := am_inB (i := 1059) (by decide +kernel) rfl
theorem wd_621 : Jvm.Cond.methodLink RX7 233 yX7_canSend ∈ am_B := am_inB (i := 1052) (by decide +kernel) rfl
theorem wd_622 : Jvm.Cond.instanceMethod yX7_canSend ∈ am_B := am_inB (i := 1054) (by decide +kernel) rfl
theorem wd_623 : Jvm.Cond.selects RX7 yX7_canSend yX7_canSend ∈ am_B := am_inP (i := 48) (by decide +kernel) rfl
theorem wd_624 : Jvm.Cond.code yX7_canSend cX7_canSend 9 (some .boolean) ∈ am_B := am_inB (i := 1055) (by decide +kernel) rfl
theorem wd_625 : Jvm.Cond.constantLong RX7 236 (10) ∈ am_B := am_inB (i := 1068) (by decide +kernel) rfl
theorem wd_626 : Jvm.Cond.methodLink RX7 241 yX7_lowest ∈ am_B := am_inB (i := 1077) (by decide +kernel) rfl
theorem wd_627 : Jvm.Cond.static yX7_lowest ∈ am_B := am_inB (i := 1078) (by decide +kernel) rfl
theorem wd_628 : Jvm.Cond.code yX7_lowest cX7_lowest 11 (some .long) ∈ am_B := am_inB (i := 1079) (by decide +kernel) rfl
theorem wd_629 : Jvm.Cond.methodLink RX7 238 yX7_hasFilling ∈ am_B := am_inB (i := 1073) (by decide +kernel) rfl
theorem wd_630 : Jvm.Cond.instanceMethod yX7_hasFilling ∈ am_B := am_inB (i := 1075) (by decide +kernel) rfl
theorem wd_631 : Jvm.Cond.selects RX7 yX7_hasFilling yX7_hasFilling ∈ am_B := am_inP (i := 51) (by decide +kernel) rfl
theorem wd_632 : Jvm.Cond.code yX7_hasFilling cX7_hasFilling 4 (some .boolean) ∈ am_B := am_inB (i := 1076) (by decide +kernel) rfl
theorem wd_633 : Jvm.Cond.constantLong RX7 249 (-1) ∈ am_B := am_inB (i := 1080) (by decide +kernel) rfl
theorem wd_634 : Jvm.Cond.methodLink RX7 245 yX7_meanOf ∈ am_B := am_inB (i := 1069) (by decide +kernel) rfl
theorem wd_635 : Jvm.Cond.instanceMethod yX7_meanOf ∈ am_B := am_inB (i := 1071) (by decide +kernel) rfl
theorem wd_636 : Jvm.Cond.selects RX7 yX7_meanOf yX7_meanOf ∈ am_B := am_inP (i := 50) (by decide +kernel) rfl
theorem wd_637 : Jvm.Cond.code yX7_meanOf cX7_meanOf 14 (some .long) ∈ am_B := am_inB (i := 1072) (by decide +kernel) rfl
theorem wd_638 : Jvm.Cond.fieldLink RX7 28 (TX7 22).1 (TX7 22).2.1 (TX7 22).2.2.1 ∈ am_B := am_inB (i := 748) (by decide +kernel) rfl
theorem wd_639 : Jvm.Cond.constant RX7 253 (1103515245) ∈ am_B := am_inB (i := 1102) (by decide +kernel) rfl
theorem wd_640 : Jvm.Cond.constantLong RX7 251 (60) ∈ am_B := am_inB (i := 1101) (by decide +kernel) rfl
theorem wd_641 : Jvm.Cond.fieldLink RX7 41 (TX7 27).1 (TX7 27).2.1 (TX7 27).2.2.1 ∈ am_B := am_inB (i := 753) (by decide +kernel) rfl
theorem wd_642 : Jvm.Cond.fieldLink RX7 38 (TX7 26).1 (TX7 26).2.1 (TX7 26).2.2.1 ∈ am_B := am_inB (i := 752) (by decide +kernel) rfl
theorem wd_643 : Jvm.Cond.fieldLink RX7 35 (TX7 25).1 (TX7 25).2.1 (TX7 25).2.2.1 ∈ am_B := am_inB (i := 751) (by decide +kernel) rfl
theorem wd_644 : Jvm.Cond.fieldLink RX7 256 (TX7 28).1 (TX7 28).2.1 (TX7 28).2.2.1 ∈ am_B := am_inB (i := 754) (by decide +kernel) rfl
theorem wd_645 : Jvm.Cond.constantLong RX7 254 (20) ∈ am_B := am_inB (i := 1123) (by decide +kernel) rfl
