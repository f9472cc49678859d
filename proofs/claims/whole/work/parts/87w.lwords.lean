/-! THE CLAIM OUT OF ONE WALK OF THE LAW'S BODY. Your part is whole_start (and what it stands on); all else here is the same for every law, but numbers. -/
def R_law : String := "UnlikeFerryLaw"
def lw_P (b : Addr) (xs : List Int32) (args : Array Value) (s : State) : Prop := args = #[.ref b] ∧ s.IntsAt b xs ∧ xs.length ≤ 2560 ∧ (Jvm.Cond.and given_1 narrow_1).before args s = true
def lw_Q (_ : Array Value) (s : State) (o : Outcome) (t : State) : Prop := o = .returned (some (.int 1)) ∧ Framed s o t [] 600000 7302250
def lw_Z (below : List Frame) (a : Array Value) (s : State) : State → Prop := fun t => ∃ o, t.status = .running ∧ Ended t below o ∧ lw_Q a s o t
/-- the law's own end, with 1 on the stack, nothing written that was there before, its room as the claim has it -/
theorem lw_ret {p : Program} {l : Launch} {e : Env} {s : State} {m : MethodId} {below : List Frame} {meth : Method} {c : Code} {b : Nat} (hx : p.tables.exec = Jvm.exec) (hb : c.code = code) (hr : meth.sig.returnType = ret) (hlocks : meth.locks = false) {pc : Nat} {H : Heap} {ls : Array Slot} (hdg : decode code pc = .ok (.ireturn, 1)) : W p l e room_1 s m #[Value.ref b] below meth c H [] 600000 7302250 (lw_Z below #[Value.ref b] s) (F0 m pc ls [.int 1]) := by
  intro T hT X
  obtain ⟨fs, hret, hrun, hended, hW, hframe⟩ := X.leave (v := some (.int 1)) (hlocks := hlocks) (fun h => by rw [hr] at h; cases h)
  have hmeth' : T.vm.method? m = some meth := X.method'
  refine ⟨T.setFrames fs, ?_, .returned (some (.int 1)), hrun, hended, rfl, ⟨_, rfl⟩, hW, hframe⟩
  jvm_step X.here [X.here.top, hx, hb, hdg, hmeth', hr, ret, narrow_b1]
  (try refine ⟨rfl, ?_⟩); (try refine ⟨rfl, ?_⟩)
  first | (intro acts; rw [hret _ acts rfl rfl rfl]) | rw [hret _ _ rfl rfl rfl]
  exact Steps.refl _
/-- what holds at the law's entry: the machine, the code, the tables' words (any of lw_tbl by 'hts w (by decide +kernel)'), the script of L ints xs at the cell b, what the Statement gives of the start (any of its parts by flat_of_before) -/
def lw_At (p : Program) (s : State) (m : MethodId) (meth : Method) (c : Code) (b L : Nat) (xs : Nat → Int32) : Prop :=
  p.tables.exec = Jvm.exec ∧ c.code = code ∧ meth.sig.returnType = ret ∧ c.maxLocals = 4 ∧ s.vm.findClass R_law = some m.cls ∧ (∀ w ∈ lw_tbl, w.before #[Value.ref b] s = true) ∧ va_X b L xs s s.heap ∧ b < s.heap.size ∧ meth.locks = false ∧ (Jvm.Cond.and given_1 narrow_1).before #[Value.ref b] s = true
theorem iw_40 : Jvm.Cond.methodLink R_law 13 yX6_feed ∈ am_B := am_inB (i := 236) (by decide +kernel) rfl
theorem iw_41 : Jvm.Cond.instanceMethod yX6_feed ∈ am_B := am_inB (i := 237) (by decide +kernel) rfl
theorem iw_42 : Jvm.Cond.selects RX6 yX6_feed yX6_feed ∈ am_B := am_inB (i := 238) (by decide +kernel) rfl
theorem iw_43 : Jvm.Cond.code yX6_feed cX6_feed 2 (some .int) ∈ am_B := am_inB (i := 239) (by decide +kernel) rfl
theorem iw_44 : Jvm.Cond.methodLink R_law 17 yX7_feed ∈ am_B := am_inB (i := 814) (by decide +kernel) rfl
theorem iw_45 : Jvm.Cond.instanceMethod yX7_feed ∈ am_B := am_inB (i := 815) (by decide +kernel) rfl
theorem iw_46 : Jvm.Cond.selects RX7 yX7_feed yX7_feed ∈ am_B := am_inB (i := 816) (by decide +kernel) rfl
theorem iw_47 : Jvm.Cond.code yX7_feed cX7_feed 2 (some .int) ∈ am_B := am_inB (i := 817) (by decide +kernel) rfl
theorem iw_48 : Jvm.Cond.methodLink R_law 18 yX6_end ∈ am_B := am_inB (i := 247) (by decide +kernel) rfl
theorem iw_49 : Jvm.Cond.instanceMethod yX6_end ∈ am_B := am_inB (i := 248) (by decide +kernel) rfl
theorem iw_50 : Jvm.Cond.selects RX6 yX6_end yX6_end ∈ am_B := am_inB (i := 249) (by decide +kernel) rfl
theorem iw_51 : Jvm.Cond.code yX6_end cX6_end 3 (some .int) ∈ am_B := am_inB (i := 250) (by decide +kernel) rfl
theorem iw_52 : Jvm.Cond.methodLink R_law 21 yX7_end ∈ am_B := am_inB (i := 822) (by decide +kernel) rfl
theorem iw_53 : Jvm.Cond.instanceMethod yX7_end ∈ am_B := am_inB (i := 823) (by decide +kernel) rfl
theorem iw_54 : Jvm.Cond.selects RX7 yX7_end yX7_end ∈ am_B := am_inB (i := 824) (by decide +kernel) rfl
theorem iw_55 : Jvm.Cond.code yX7_end cX7_end 3 (some .int) ∈ am_B := am_inB (i := 825) (by decide +kernel) rfl
theorem iw_56 : Jvm.Cond.methodLink R_law 22 yX6_text ∈ am_B := am_inB (i := 251) (by decide +kernel) rfl
theorem iw_57 : Jvm.Cond.instanceMethod yX6_text ∈ am_B := am_inB (i := 252) (by decide +kernel) rfl
theorem iw_58 : Jvm.Cond.selects RX6 yX6_text yX6_text ∈ am_B := am_inB (i := 253) (by decide +kernel) rfl
theorem iw_59 : Jvm.Cond.code yX6_text cX6_text 2 (some .int) ∈ am_B := am_inB (i := 254) (by decide +kernel) rfl
theorem iw_60 : Jvm.Cond.methodLink R_law 26 yX7_text ∈ am_B := am_inB (i := 826) (by decide +kernel) rfl
theorem iw_61 : Jvm.Cond.instanceMethod yX7_text ∈ am_B := am_inB (i := 827) (by decide +kernel) rfl
theorem iw_62 : Jvm.Cond.selects RX7 yX7_text yX7_text ∈ am_B := am_inB (i := 828) (by decide +kernel) rfl
theorem iw_63 : Jvm.Cond.code yX7_text cX7_text 3 (some .int) ∈ am_B := am_inB (i := 829) (by decide +kernel) rfl
theorem iw_64 : Jvm.Cond.methodLink R_law 27 yX6_fault ∈ am_B := am_inB (i := 407) (by decide +kernel) rfl
theorem iw_65 : Jvm.Cond.instanceMethod yX6_fault ∈ am_B := am_inB (i := 408) (by decide +kernel) rfl
theorem iw_66 : Jvm.Cond.selects RX6 yX6_fault yX6_fault ∈ am_B := am_inB (i := 409) (by decide +kernel) rfl
theorem iw_67 : Jvm.Cond.code yX6_fault cX6_fault 1 (some .int) ∈ am_B := am_inB (i := 410) (by decide +kernel) rfl
theorem iw_68 : Jvm.Cond.methodLink R_law 30 yX7_fault ∈ am_B := am_inB (i := 865) (by decide +kernel) rfl
theorem iw_69 : Jvm.Cond.instanceMethod yX7_fault ∈ am_B := am_inB (i := 866) (by decide +kernel) rfl
theorem iw_70 : Jvm.Cond.selects RX7 yX7_fault yX7_fault ∈ am_B := am_inB (i := 867) (by decide +kernel) rfl
theorem iw_71 : Jvm.Cond.code yX7_fault cX7_fault 1 (some .int) ∈ am_B := am_inB (i := 868) (by decide +kernel) rfl
theorem iw_72 : Jvm.Cond.methodLink R_law 31 yX6_rule ∈ am_B := am_inB (i := 411) (by decide +kernel) rfl
theorem iw_73 : Jvm.Cond.instanceMethod yX6_rule ∈ am_B := am_inB (i := 412) (by decide +kernel) rfl
theorem iw_74 : Jvm.Cond.selects RX6 yX6_rule yX6_rule ∈ am_B := am_inB (i := 413) (by decide +kernel) rfl
theorem iw_75 : Jvm.Cond.code yX6_rule cX6_rule 2 (some .int) ∈ am_B := am_inB (i := 414) (by decide +kernel) rfl
theorem iw_76 : Jvm.Cond.methodLink R_law 34 yX7_rule ∈ am_B := am_inB (i := 869) (by decide +kernel) rfl
theorem iw_77 : Jvm.Cond.instanceMethod yX7_rule ∈ am_B := am_inB (i := 870) (by decide +kernel) rfl
theorem iw_78 : Jvm.Cond.selects RX7 yX7_rule yX7_rule ∈ am_B := am_inB (i := 871) (by decide +kernel) rfl
theorem iw_79 : Jvm.Cond.code yX7_rule cX7_rule 2 (some .int) ∈ am_B := am_inB (i := 872) (by decide +kernel) rfl
theorem iw_80 : Jvm.Cond.methodLink R_law 35 yX6_one ∈ am_B := am_inB (i := 419) (by decide +kernel) rfl
theorem iw_81 : Jvm.Cond.instanceMethod yX6_one ∈ am_B := am_inB (i := 420) (by decide +kernel) rfl
theorem iw_82 : Jvm.Cond.selects RX6 yX6_one yX6_one ∈ am_B := am_inB (i := 421) (by decide +kernel) rfl
theorem iw_83 : Jvm.Cond.code yX6_one cX6_one 3 (some .int) ∈ am_B := am_inB (i := 422) (by decide +kernel) rfl
theorem iw_84 : Jvm.Cond.methodLink R_law 39 yX7_one ∈ am_B := am_inB (i := 882) (by decide +kernel) rfl
theorem iw_85 : Jvm.Cond.instanceMethod yX7_one ∈ am_B := am_inB (i := 883) (by decide +kernel) rfl
theorem iw_86 : Jvm.Cond.selects RX7 yX7_one yX7_one ∈ am_B := am_inB (i := 884) (by decide +kernel) rfl
theorem iw_87 : Jvm.Cond.code yX7_one cX7_one 3 (some .int) ∈ am_B := am_inB (i := 885) (by decide +kernel) rfl
theorem iw_88 : Jvm.Cond.methodLink R_law 40 yX6_alike ∈ am_B := am_inB (i := 427) (by decide +kernel) rfl
theorem iw_89 : Jvm.Cond.instanceMethod yX6_alike ∈ am_B := am_inB (i := 428) (by decide +kernel) rfl
theorem iw_90 : Jvm.Cond.selects RX6 yX6_alike yX6_alike ∈ am_B := am_inB (i := 429) (by decide +kernel) rfl
theorem iw_91 : Jvm.Cond.code yX6_alike cX6_alike 2 (some .int) ∈ am_B := am_inB (i := 430) (by decide +kernel) rfl
theorem iw_92 : Jvm.Cond.methodLink R_law 43 yX7_alike ∈ am_B := am_inB (i := 890) (by decide +kernel) rfl
theorem iw_93 : Jvm.Cond.instanceMethod yX7_alike ∈ am_B := am_inB (i := 891) (by decide +kernel) rfl
theorem iw_94 : Jvm.Cond.selects RX7 yX7_alike yX7_alike ∈ am_B := am_inB (i := 892) (by decide +kernel) rfl
theorem iw_95 : Jvm.Cond.code yX7_alike cX7_alike 2 (some .int) ∈ am_B := am_inB (i := 893) (by decide +kernel) rfl
theorem iw_96 : Jvm.Cond.methodLink R_law 44 yX6_turn ∈ am_B := am_inB (i := 441) (by decide +kernel) rfl
theorem iw_97 : Jvm.Cond.instanceMethod yX6_turn ∈ am_B := am_inB (i := 442) (by decide +kernel) rfl
theorem iw_98 : Jvm.Cond.selects RX6 yX6_turn yX6_turn ∈ am_B := am_inB (i := 443) (by decide +kernel) rfl
theorem iw_99 : Jvm.Cond.code yX6_turn cX6_turn 4 (some .int) ∈ am_B := am_inB (i := 444) (by decide +kernel) rfl
theorem iw_100 : Jvm.Cond.methodLink R_law 48 yX7_turn ∈ am_B := am_inB (i := 905) (by decide +kernel) rfl
theorem iw_101 : Jvm.Cond.instanceMethod yX7_turn ∈ am_B := am_inB (i := 906) (by decide +kernel) rfl
theorem iw_102 : Jvm.Cond.selects RX7 yX7_turn yX7_turn ∈ am_B := am_inB (i := 907) (by decide +kernel) rfl
theorem iw_103 : Jvm.Cond.code yX7_turn cX7_turn 4 (some .int) ∈ am_B := am_inB (i := 908) (by decide +kernel) rfl
theorem iw_104 : Jvm.Cond.methodLink R_law 49 yX6_teach ∈ am_B := am_inB (i := 449) (by decide +kernel) rfl
theorem iw_105 : Jvm.Cond.instanceMethod yX6_teach ∈ am_B := am_inB (i := 450) (by decide +kernel) rfl
theorem iw_106 : Jvm.Cond.selects RX6 yX6_teach yX6_teach ∈ am_B := am_inB (i := 451) (by decide +kernel) rfl
theorem iw_107 : Jvm.Cond.code yX6_teach cX6_teach 3 (some .int) ∈ am_B := am_inB (i := 452) (by decide +kernel) rfl
theorem iw_108 : Jvm.Cond.methodLink R_law 52 yX7_teach ∈ am_B := am_inB (i := 918) (by decide +kernel) rfl
theorem iw_109 : Jvm.Cond.instanceMethod yX7_teach ∈ am_B := am_inB (i := 919) (by decide +kernel) rfl
theorem iw_110 : Jvm.Cond.selects RX7 yX7_teach yX7_teach ∈ am_B := am_inB (i := 920) (by decide +kernel) rfl
theorem iw_111 : Jvm.Cond.code yX7_teach cX7_teach 3 (some .int) ∈ am_B := am_inB (i := 921) (by decide +kernel) rfl
theorem iw_112 : Jvm.Cond.methodLink R_law 53 yX6_calm ∈ am_B := am_inB (i := 453) (by decide +kernel) rfl
theorem iw_113 : Jvm.Cond.instanceMethod yX6_calm ∈ am_B := am_inB (i := 454) (by decide +kernel) rfl
theorem iw_114 : Jvm.Cond.selects RX6 yX6_calm yX6_calm ∈ am_B := am_inB (i := 455) (by decide +kernel) rfl
theorem iw_115 : Jvm.Cond.code yX6_calm cX6_calm 4 (some .int) ∈ am_B := am_inB (i := 456) (by decide +kernel) rfl
theorem iw_116 : Jvm.Cond.methodLink R_law 56 yX7_calm ∈ am_B := am_inB (i := 923) (by decide +kernel) rfl
theorem iw_117 : Jvm.Cond.instanceMethod yX7_calm ∈ am_B := am_inB (i := 924) (by decide +kernel) rfl
theorem iw_118 : Jvm.Cond.selects RX7 yX7_calm yX7_calm ∈ am_B := am_inB (i := 925) (by decide +kernel) rfl
theorem iw_119 : Jvm.Cond.code yX7_calm cX7_calm 3 (some .int) ∈ am_B := am_inB (i := 926) (by decide +kernel) rfl
theorem iw_120 : Jvm.Cond.methodLink R_law 57 yX6_seats ∈ am_B := am_inB (i := 457) (by decide +kernel) rfl
theorem iw_121 : Jvm.Cond.instanceMethod yX6_seats ∈ am_B := am_inB (i := 458) (by decide +kernel) rfl
theorem iw_122 : Jvm.Cond.selects RX6 yX6_seats yX6_seats ∈ am_B := am_inB (i := 459) (by decide +kernel) rfl
theorem iw_123 : Jvm.Cond.code yX6_seats cX6_seats 3 (some .int) ∈ am_B := am_inB (i := 460) (by decide +kernel) rfl
theorem iw_124 : Jvm.Cond.methodLink R_law 60 yX7_seats ∈ am_B := am_inB (i := 927) (by decide +kernel) rfl
theorem iw_125 : Jvm.Cond.instanceMethod yX7_seats ∈ am_B := am_inB (i := 928) (by decide +kernel) rfl
theorem iw_126 : Jvm.Cond.selects RX7 yX7_seats yX7_seats ∈ am_B := am_inB (i := 929) (by decide +kernel) rfl
theorem iw_127 : Jvm.Cond.code yX7_seats cX7_seats 2 (some .int) ∈ am_B := am_inB (i := 930) (by decide +kernel) rfl
theorem iw_128 : Jvm.Cond.methodLink R_law 61 yX6_price ∈ am_B := am_inB (i := 472) (by decide +kernel) rfl
theorem iw_129 : Jvm.Cond.instanceMethod yX6_price ∈ am_B := am_inB (i := 473) (by decide +kernel) rfl
theorem iw_130 : Jvm.Cond.selects RX6 yX6_price yX6_price ∈ am_B := am_inB (i := 474) (by decide +kernel) rfl
theorem iw_131 : Jvm.Cond.code yX6_price cX6_price 4 (some .int) ∈ am_B := am_inB (i := 475) (by decide +kernel) rfl
theorem iw_132 : Jvm.Cond.methodLink R_law 64 yX7_price ∈ am_B := am_inB (i := 934) (by decide +kernel) rfl
theorem iw_133 : Jvm.Cond.instanceMethod yX7_price ∈ am_B := am_inB (i := 935) (by decide +kernel) rfl
theorem iw_134 : Jvm.Cond.selects RX7 yX7_price yX7_price ∈ am_B := am_inB (i := 936) (by decide +kernel) rfl
theorem iw_135 : Jvm.Cond.code yX7_price cX7_price 3 (some .int) ∈ am_B := am_inB (i := 937) (by decide +kernel) rfl
theorem iw_136 : Jvm.Cond.methodLink R_law 65 yX6_come ∈ am_B := am_inB (i := 476) (by decide +kernel) rfl
theorem iw_137 : Jvm.Cond.instanceMethod yX6_come ∈ am_B := am_inB (i := 477) (by decide +kernel) rfl
theorem iw_138 : Jvm.Cond.selects RX6 yX6_come yX6_come ∈ am_B := am_inB (i := 478) (by decide +kernel) rfl
theorem iw_139 : Jvm.Cond.code yX6_come cX6_come 2 (some .int) ∈ am_B := am_inB (i := 479) (by decide +kernel) rfl
theorem iw_140 : Jvm.Cond.methodLink R_law 68 yX7_come ∈ am_B := am_inB (i := 938) (by decide +kernel) rfl
theorem iw_141 : Jvm.Cond.instanceMethod yX7_come ∈ am_B := am_inB (i := 939) (by decide +kernel) rfl
theorem iw_142 : Jvm.Cond.selects RX7 yX7_come yX7_come ∈ am_B := am_inB (i := 940) (by decide +kernel) rfl
theorem iw_143 : Jvm.Cond.code yX7_come cX7_come 2 (some .int) ∈ am_B := am_inB (i := 941) (by decide +kernel) rfl
theorem iw_144 : Jvm.Cond.methodLink R_law 69 yX6_leave ∈ am_B := am_inB (i := 484) (by decide +kernel) rfl
theorem iw_145 : Jvm.Cond.instanceMethod yX6_leave ∈ am_B := am_inB (i := 485) (by decide +kernel) rfl
theorem iw_146 : Jvm.Cond.selects RX6 yX6_leave yX6_leave ∈ am_B := am_inB (i := 486) (by decide +kernel) rfl
theorem iw_147 : Jvm.Cond.code yX6_leave cX6_leave 2 (some .int) ∈ am_B := am_inB (i := 487) (by decide +kernel) rfl
theorem iw_148 : Jvm.Cond.methodLink R_law 72 yX7_leave ∈ am_B := am_inB (i := 946) (by decide +kernel) rfl
theorem iw_149 : Jvm.Cond.instanceMethod yX7_leave ∈ am_B := am_inB (i := 947) (by decide +kernel) rfl
theorem iw_150 : Jvm.Cond.selects RX7 yX7_leave yX7_leave ∈ am_B := am_inB (i := 948) (by decide +kernel) rfl
theorem iw_151 : Jvm.Cond.code yX7_leave cX7_leave 2 (some .int) ∈ am_B := am_inB (i := 949) (by decide +kernel) rfl
theorem iw_152 : Jvm.Cond.methodLink R_law 73 yX6_board ∈ am_B := am_inB (i := 488) (by decide +kernel) rfl
theorem iw_153 : Jvm.Cond.instanceMethod yX6_board ∈ am_B := am_inB (i := 489) (by decide +kernel) rfl
theorem iw_154 : Jvm.Cond.selects RX6 yX6_board yX6_board ∈ am_B := am_inB (i := 490) (by decide +kernel) rfl
theorem iw_155 : Jvm.Cond.code yX6_board cX6_board 2 (some .int) ∈ am_B := am_inB (i := 491) (by decide +kernel) rfl
theorem iw_156 : Jvm.Cond.methodLink R_law 76 yX7_board ∈ am_B := am_inB (i := 950) (by decide +kernel) rfl
theorem iw_157 : Jvm.Cond.instanceMethod yX7_board ∈ am_B := am_inB (i := 951) (by decide +kernel) rfl
theorem iw_158 : Jvm.Cond.selects RX7 yX7_board yX7_board ∈ am_B := am_inB (i := 952) (by decide +kernel) rfl
theorem iw_159 : Jvm.Cond.code yX7_board cX7_board 2 (some .int) ∈ am_B := am_inB (i := 953) (by decide +kernel) rfl
theorem iw_160 : Jvm.Cond.methodLink R_law 77 yX6_go ∈ am_B := am_inB (i := 502) (by decide +kernel) rfl
theorem iw_161 : Jvm.Cond.instanceMethod yX6_go ∈ am_B := am_inB (i := 503) (by decide +kernel) rfl
theorem iw_162 : Jvm.Cond.selects RX6 yX6_go yX6_go ∈ am_B := am_inB (i := 504) (by decide +kernel) rfl
theorem iw_163 : Jvm.Cond.code yX6_go cX6_go 2 (some .int) ∈ am_B := am_inB (i := 505) (by decide +kernel) rfl
theorem iw_164 : Jvm.Cond.methodLink R_law 80 yX7_go ∈ am_B := am_inB (i := 962) (by decide +kernel) rfl
theorem iw_165 : Jvm.Cond.instanceMethod yX7_go ∈ am_B := am_inB (i := 963) (by decide +kernel) rfl
theorem iw_166 : Jvm.Cond.selects RX7 yX7_go yX7_go ∈ am_B := am_inB (i := 964) (by decide +kernel) rfl
theorem iw_167 : Jvm.Cond.code yX7_go cX7_go 2 (some .int) ∈ am_B := am_inB (i := 965) (by decide +kernel) rfl
theorem iw_168 : Jvm.Cond.methodLink R_law 81 yX6_ahead ∈ am_B := am_inB (i := 518) (by decide +kernel) rfl
theorem iw_169 : Jvm.Cond.instanceMethod yX6_ahead ∈ am_B := am_inB (i := 519) (by decide +kernel) rfl
theorem iw_170 : Jvm.Cond.selects RX6 yX6_ahead yX6_ahead ∈ am_B := am_inB (i := 520) (by decide +kernel) rfl
theorem iw_171 : Jvm.Cond.code yX6_ahead cX6_ahead 4 (some .int) ∈ am_B := am_inB (i := 521) (by decide +kernel) rfl
theorem iw_172 : Jvm.Cond.methodLink R_law 84 yX7_ahead ∈ am_B := am_inB (i := 975) (by decide +kernel) rfl
theorem iw_173 : Jvm.Cond.instanceMethod yX7_ahead ∈ am_B := am_inB (i := 976) (by decide +kernel) rfl
theorem iw_174 : Jvm.Cond.selects RX7 yX7_ahead yX7_ahead ∈ am_B := am_inB (i := 977) (by decide +kernel) rfl
theorem iw_175 : Jvm.Cond.code yX7_ahead cX7_ahead 4 (some .int) ∈ am_B := am_inB (i := 978) (by decide +kernel) rfl
theorem iw_176 : Jvm.Cond.methodLink R_law 85 yX6_when ∈ am_B := am_inB (i := 522) (by decide +kernel) rfl
theorem iw_177 : Jvm.Cond.instanceMethod yX6_when ∈ am_B := am_inB (i := 523) (by decide +kernel) rfl
theorem iw_178 : Jvm.Cond.selects RX6 yX6_when yX6_when ∈ am_B := am_inB (i := 524) (by decide +kernel) rfl
theorem iw_179 : Jvm.Cond.code yX6_when cX6_when 3 (some .int) ∈ am_B := am_inB (i := 525) (by decide +kernel) rfl
theorem iw_180 : Jvm.Cond.methodLink R_law 88 yX7_when ∈ am_B := am_inB (i := 983) (by decide +kernel) rfl
theorem iw_181 : Jvm.Cond.instanceMethod yX7_when ∈ am_B := am_inB (i := 984) (by decide +kernel) rfl
theorem iw_182 : Jvm.Cond.selects RX7 yX7_when yX7_when ∈ am_B := am_inB (i := 985) (by decide +kernel) rfl
theorem iw_183 : Jvm.Cond.code yX7_when cX7_when 3 (some .int) ∈ am_B := am_inB (i := 986) (by decide +kernel) rfl
theorem iw_184 : Jvm.Cond.methodLink R_law 89 yX6_blocks ∈ am_B := am_inB (i := 527) (by decide +kernel) rfl
theorem iw_185 : Jvm.Cond.instanceMethod yX6_blocks ∈ am_B := am_inB (i := 528) (by decide +kernel) rfl
theorem iw_186 : Jvm.Cond.selects RX6 yX6_blocks yX6_blocks ∈ am_B := am_inB (i := 529) (by decide +kernel) rfl
theorem iw_187 : Jvm.Cond.code yX6_blocks cX6_blocks 2 (some .int) ∈ am_B := am_inB (i := 530) (by decide +kernel) rfl
theorem iw_188 : Jvm.Cond.methodLink R_law 92 yX7_blocks ∈ am_B := am_inB (i := 987) (by decide +kernel) rfl
theorem iw_189 : Jvm.Cond.instanceMethod yX7_blocks ∈ am_B := am_inB (i := 988) (by decide +kernel) rfl
theorem iw_190 : Jvm.Cond.selects RX7 yX7_blocks yX7_blocks ∈ am_B := am_inB (i := 989) (by decide +kernel) rfl
theorem iw_191 : Jvm.Cond.code yX7_blocks cX7_blocks 2 (some .int) ∈ am_B := am_inB (i := 990) (by decide +kernel) rfl
theorem iw_192 : Jvm.Cond.methodLink R_law 93 yX6_most ∈ am_B := am_inB (i := 531) (by decide +kernel) rfl
theorem iw_193 : Jvm.Cond.instanceMethod yX6_most ∈ am_B := am_inB (i := 532) (by decide +kernel) rfl
theorem iw_194 : Jvm.Cond.selects RX6 yX6_most yX6_most ∈ am_B := am_inB (i := 533) (by decide +kernel) rfl
theorem iw_195 : Jvm.Cond.code yX6_most cX6_most 2 (some .int) ∈ am_B := am_inB (i := 534) (by decide +kernel) rfl
theorem iw_196 : Jvm.Cond.methodLink R_law 96 yX7_most ∈ am_B := am_inB (i := 991) (by decide +kernel) rfl
theorem iw_197 : Jvm.Cond.instanceMethod yX7_most ∈ am_B := am_inB (i := 992) (by decide +kernel) rfl
theorem iw_198 : Jvm.Cond.selects RX7 yX7_most yX7_most ∈ am_B := am_inB (i := 993) (by decide +kernel) rfl
theorem iw_199 : Jvm.Cond.code yX7_most cX7_most 2 (some .int) ∈ am_B := am_inB (i := 994) (by decide +kernel) rfl
theorem iw_200 : Jvm.Cond.methodLink R_law 97 yX6_sets ∈ am_B := am_inB (i := 566) (by decide +kernel) rfl
theorem iw_201 : Jvm.Cond.instanceMethod yX6_sets ∈ am_B := am_inB (i := 567) (by decide +kernel) rfl
theorem iw_202 : Jvm.Cond.selects RX6 yX6_sets yX6_sets ∈ am_B := am_inB (i := 568) (by decide +kernel) rfl
theorem iw_203 : Jvm.Cond.code yX6_sets cX6_sets 2 (some .int) ∈ am_B := am_inB (i := 569) (by decide +kernel) rfl
theorem iw_204 : Jvm.Cond.methodLink R_law 100 yX7_sets ∈ am_B := am_inB (i := 1007) (by decide +kernel) rfl
theorem iw_205 : Jvm.Cond.instanceMethod yX7_sets ∈ am_B := am_inB (i := 1008) (by decide +kernel) rfl
theorem iw_206 : Jvm.Cond.selects RX7 yX7_sets yX7_sets ∈ am_B := am_inB (i := 1009) (by decide +kernel) rfl
theorem iw_207 : Jvm.Cond.code yX7_sets cX7_sets 4 (some .int) ∈ am_B := am_inB (i := 1010) (by decide +kernel) rfl
theorem iw_208 : Jvm.Cond.methodLink R_law 101 yX6_fill ∈ am_B := am_inB (i := 582) (by decide +kernel) rfl
theorem iw_209 : Jvm.Cond.instanceMethod yX6_fill ∈ am_B := am_inB (i := 583) (by decide +kernel) rfl
theorem iw_210 : Jvm.Cond.selects RX6 yX6_fill yX6_fill ∈ am_B := am_inB (i := 584) (by decide +kernel) rfl
theorem iw_211 : Jvm.Cond.code yX6_fill cX6_fill 2 (some .int) ∈ am_B := am_inB (i := 585) (by decide +kernel) rfl
theorem iw_212 : Jvm.Cond.methodLink R_law 104 yX7_fill ∈ am_B := am_inB (i := 1028) (by decide +kernel) rfl
theorem iw_213 : Jvm.Cond.instanceMethod yX7_fill ∈ am_B := am_inB (i := 1029) (by decide +kernel) rfl
theorem iw_214 : Jvm.Cond.selects RX7 yX7_fill yX7_fill ∈ am_B := am_inB (i := 1030) (by decide +kernel) rfl
theorem iw_215 : Jvm.Cond.code yX7_fill cX7_fill 4 (some .int) ∈ am_B := am_inB (i := 1031) (by decide +kernel) rfl
theorem iw_216 : Jvm.Cond.methodLink R_law 105 yX6_let ∈ am_B := am_inB (i := 586) (by decide +kernel) rfl
theorem iw_217 : Jvm.Cond.instanceMethod yX6_let ∈ am_B := am_inB (i := 587) (by decide +kernel) rfl
theorem iw_218 : Jvm.Cond.selects RX6 yX6_let yX6_let ∈ am_B := am_inB (i := 588) (by decide +kernel) rfl
theorem iw_219 : Jvm.Cond.code yX6_let cX6_let 9 (some .int) ∈ am_B := am_inB (i := 589) (by decide +kernel) rfl
theorem iw_220 : Jvm.Cond.methodLink R_law 108 yX7_let ∈ am_B := am_inB (i := 1036) (by decide +kernel) rfl
theorem iw_221 : Jvm.Cond.instanceMethod yX7_let ∈ am_B := am_inB (i := 1037) (by decide +kernel) rfl
theorem iw_222 : Jvm.Cond.selects RX7 yX7_let yX7_let ∈ am_B := am_inB (i := 1038) (by decide +kernel) rfl
theorem iw_223 : Jvm.Cond.code yX7_let cX7_let 8 (some .int) ∈ am_B := am_inB (i := 1039) (by decide +kernel) rfl
theorem iw_224 : Jvm.Cond.methodLink R_law 109 yX6_cheap ∈ am_B := am_inB (i := 593) (by decide +kernel) rfl
theorem iw_225 : Jvm.Cond.instanceMethod yX6_cheap ∈ am_B := am_inB (i := 594) (by decide +kernel) rfl
theorem iw_226 : Jvm.Cond.selects RX6 yX6_cheap yX6_cheap ∈ am_B := am_inB (i := 595) (by decide +kernel) rfl
theorem iw_227 : Jvm.Cond.code yX6_cheap cX6_cheap 7 (some .int) ∈ am_B := am_inB (i := 596) (by decide +kernel) rfl
theorem iw_228 : Jvm.Cond.methodLink R_law 112 yX7_cheap ∈ am_B := am_inB (i := 1040) (by decide +kernel) rfl
theorem iw_229 : Jvm.Cond.instanceMethod yX7_cheap ∈ am_B := am_inB (i := 1041) (by decide +kernel) rfl
theorem iw_230 : Jvm.Cond.selects RX7 yX7_cheap yX7_cheap ∈ am_B := am_inB (i := 1042) (by decide +kernel) rfl
theorem iw_231 : Jvm.Cond.code yX7_cheap cX7_cheap 7 (some .int) ∈ am_B := am_inB (i := 1043) (by decide +kernel) rfl
theorem iw_232 : Jvm.Cond.methodLink R_law 113 yX6_send ∈ am_B := am_inB (i := 607) (by decide +kernel) rfl
theorem iw_233 : Jvm.Cond.instanceMethod yX6_send ∈ am_B := am_inB (i := 608) (by decide +kernel) rfl
theorem iw_234 : Jvm.Cond.selects RX6 yX6_send yX6_send ∈ am_B := am_inB (i := 609) (by decide +kernel) rfl
theorem iw_235 : Jvm.Cond.code yX6_send cX6_send 7 (some .int) ∈ am_B := am_inB (i := 610) (by decide +kernel) rfl
theorem iw_236 : Jvm.Cond.methodLink R_law 116 yX7_send ∈ am_B := am_inB (i := 1048) (by decide +kernel) rfl
theorem iw_237 : Jvm.Cond.instanceMethod yX7_send ∈ am_B := am_inB (i := 1049) (by decide +kernel) rfl
theorem iw_238 : Jvm.Cond.selects RX7 yX7_send yX7_send ∈ am_B := am_inB (i := 1050) (by decide +kernel) rfl
theorem iw_239 : Jvm.Cond.code yX7_send cX7_send 6 (some .int) ∈ am_B := am_inB (i := 1051) (by decide +kernel) rfl
theorem iw_240 : Jvm.Cond.methodLink R_law 117 yX6_last ∈ am_B := am_inB (i := 615) (by decide +kernel) rfl
theorem iw_241 : Jvm.Cond.instanceMethod yX6_last ∈ am_B := am_inB (i := 616) (by decide +kernel) rfl
theorem iw_242 : Jvm.Cond.selects RX6 yX6_last yX6_last ∈ am_B := am_inB (i := 617) (by decide +kernel) rfl
theorem iw_243 : Jvm.Cond.code yX6_last cX6_last 3 (some .int) ∈ am_B := am_inB (i := 618) (by decide +kernel) rfl
theorem iw_244 : Jvm.Cond.methodLink R_law 120 yX7_last ∈ am_B := am_inB (i := 1060) (by decide +kernel) rfl
theorem iw_245 : Jvm.Cond.instanceMethod yX7_last ∈ am_B := am_inB (i := 1061) (by decide +kernel) rfl
theorem iw_246 : Jvm.Cond.selects RX7 yX7_last yX7_last ∈ am_B := am_inB (i := 1062) (by decide +kernel) rfl
theorem iw_247 : Jvm.Cond.code yX7_last cX7_last 6 (some .int) ∈ am_B := am_inB (i := 1063) (by decide +kernel) rfl
theorem iw_248 : Jvm.Cond.methodLink R_law 121 yX6_odds ∈ am_B := am_inB (i := 619) (by decide +kernel) rfl
theorem iw_249 : Jvm.Cond.instanceMethod yX6_odds ∈ am_B := am_inB (i := 620) (by decide +kernel) rfl
theorem iw_250 : Jvm.Cond.selects RX6 yX6_odds yX6_odds ∈ am_B := am_inB (i := 621) (by decide +kernel) rfl
theorem iw_251 : Jvm.Cond.code yX6_odds cX6_odds 8 (some .long) ∈ am_B := am_inB (i := 622) (by decide +kernel) rfl
theorem iw_252 : Jvm.Cond.methodLink R_law 125 yX7_odds ∈ am_B := am_inB (i := 1064) (by decide +kernel) rfl
theorem iw_253 : Jvm.Cond.instanceMethod yX7_odds ∈ am_B := am_inB (i := 1065) (by decide +kernel) rfl
theorem iw_254 : Jvm.Cond.selects RX7 yX7_odds yX7_odds ∈ am_B := am_inB (i := 1066) (by decide +kernel) rfl
theorem iw_255 : Jvm.Cond.code yX7_odds cX7_odds 3 (some .long) ∈ am_B := am_inB (i := 1067) (by decide +kernel) rfl
theorem iw_256 : Jvm.Cond.methodLink R_law 126 yX6_mean ∈ am_B := am_inB (i := 636) (by decide +kernel) rfl
theorem iw_257 : Jvm.Cond.instanceMethod yX6_mean ∈ am_B := am_inB (i := 637) (by decide +kernel) rfl
theorem iw_258 : Jvm.Cond.selects RX6 yX6_mean yX6_mean ∈ am_B := am_inB (i := 638) (by decide +kernel) rfl
theorem iw_259 : Jvm.Cond.code yX6_mean cX6_mean 8 (some .long) ∈ am_B := am_inB (i := 639) (by decide +kernel) rfl
theorem iw_260 : Jvm.Cond.methodLink R_law 129 yX7_mean ∈ am_B := am_inB (i := 1081) (by decide +kernel) rfl
theorem iw_261 : Jvm.Cond.instanceMethod yX7_mean ∈ am_B := am_inB (i := 1082) (by decide +kernel) rfl
theorem iw_262 : Jvm.Cond.selects RX7 yX7_mean yX7_mean ∈ am_B := am_inB (i := 1083) (by decide +kernel) rfl
theorem iw_263 : Jvm.Cond.code yX7_mean cX7_mean 3 (some .long) ∈ am_B := am_inB (i := 1084) (by decide +kernel) rfl
theorem iw_264 : Jvm.Cond.methodLink R_law 130 yX6_see ∈ am_B := am_inB (i := 640) (by decide +kernel) rfl
theorem iw_265 : Jvm.Cond.instanceMethod yX6_see ∈ am_B := am_inB (i := 641) (by decide +kernel) rfl
theorem iw_266 : Jvm.Cond.selects RX6 yX6_see yX6_see ∈ am_B := am_inB (i := 642) (by decide +kernel) rfl
theorem iw_267 : Jvm.Cond.code yX6_see cX6_see 3 (some .int) ∈ am_B := am_inB (i := 643) (by decide +kernel) rfl
theorem iw_268 : Jvm.Cond.methodLink R_law 134 yX7_see ∈ am_B := am_inB (i := 1085) (by decide +kernel) rfl
theorem iw_269 : Jvm.Cond.instanceMethod yX7_see ∈ am_B := am_inB (i := 1086) (by decide +kernel) rfl
theorem iw_270 : Jvm.Cond.selects RX7 yX7_see yX7_see ∈ am_B := am_inB (i := 1087) (by decide +kernel) rfl
theorem iw_271 : Jvm.Cond.code yX7_see cX7_see 3 (some .int) ∈ am_B := am_inB (i := 1088) (by decide +kernel) rfl
theorem iw_272 : Jvm.Cond.methodLink R_law 135 yX6_forget ∈ am_B := am_inB (i := 648) (by decide +kernel) rfl
theorem iw_273 : Jvm.Cond.instanceMethod yX6_forget ∈ am_B := am_inB (i := 649) (by decide +kernel) rfl
theorem iw_274 : Jvm.Cond.selects RX6 yX6_forget yX6_forget ∈ am_B := am_inB (i := 650) (by decide +kernel) rfl
theorem iw_275 : Jvm.Cond.code yX6_forget cX6_forget 3 (some .int) ∈ am_B := am_inB (i := 651) (by decide +kernel) rfl
theorem iw_276 : Jvm.Cond.methodLink R_law 138 yX7_forget ∈ am_B := am_inB (i := 1089) (by decide +kernel) rfl
theorem iw_277 : Jvm.Cond.instanceMethod yX7_forget ∈ am_B := am_inB (i := 1090) (by decide +kernel) rfl
theorem iw_278 : Jvm.Cond.selects RX7 yX7_forget yX7_forget ∈ am_B := am_inB (i := 1091) (by decide +kernel) rfl
theorem iw_279 : Jvm.Cond.code yX7_forget cX7_forget 3 (some .int) ∈ am_B := am_inB (i := 1092) (by decide +kernel) rfl
theorem iw_280 : Jvm.Cond.methodLink R_law 139 yX6_fits ∈ am_B := am_inB (i := 652) (by decide +kernel) rfl
theorem iw_281 : Jvm.Cond.instanceMethod yX6_fits ∈ am_B := am_inB (i := 653) (by decide +kernel) rfl
theorem iw_282 : Jvm.Cond.selects RX6 yX6_fits yX6_fits ∈ am_B := am_inB (i := 654) (by decide +kernel) rfl
theorem iw_283 : Jvm.Cond.code yX6_fits cX6_fits 3 (some .int) ∈ am_B := am_inB (i := 655) (by decide +kernel) rfl
theorem iw_284 : Jvm.Cond.methodLink R_law 142 yX7_fits ∈ am_B := am_inB (i := 1093) (by decide +kernel) rfl
theorem iw_285 : Jvm.Cond.instanceMethod yX7_fits ∈ am_B := am_inB (i := 1094) (by decide +kernel) rfl
theorem iw_286 : Jvm.Cond.selects RX7 yX7_fits yX7_fits ∈ am_B := am_inB (i := 1095) (by decide +kernel) rfl
theorem iw_287 : Jvm.Cond.code yX7_fits cX7_fits 6 (some .int) ∈ am_B := am_inB (i := 1096) (by decide +kernel) rfl
theorem iw_288 : Jvm.Cond.methodLink R_law 143 yX6_drift ∈ am_B := am_inB (i := 660) (by decide +kernel) rfl
theorem iw_289 : Jvm.Cond.instanceMethod yX6_drift ∈ am_B := am_inB (i := 661) (by decide +kernel) rfl
theorem iw_290 : Jvm.Cond.selects RX6 yX6_drift yX6_drift ∈ am_B := am_inB (i := 662) (by decide +kernel) rfl
theorem iw_291 : Jvm.Cond.code yX6_drift cX6_drift 6 (some .int) ∈ am_B := am_inB (i := 663) (by decide +kernel) rfl
theorem iw_292 : Jvm.Cond.methodLink R_law 146 yX7_drift ∈ am_B := am_inB (i := 1097) (by decide +kernel) rfl
theorem iw_293 : Jvm.Cond.instanceMethod yX7_drift ∈ am_B := am_inB (i := 1098) (by decide +kernel) rfl
theorem iw_294 : Jvm.Cond.selects RX7 yX7_drift yX7_drift ∈ am_B := am_inB (i := 1099) (by decide +kernel) rfl
theorem iw_295 : Jvm.Cond.code yX7_drift cX7_drift 6 (some .int) ∈ am_B := am_inB (i := 1100) (by decide +kernel) rfl
theorem iw_296 : Jvm.Cond.methodLink R_law 147 yX6_keep ∈ am_B := am_inB (i := 665) (by decide +kernel) rfl
theorem iw_297 : Jvm.Cond.instanceMethod yX6_keep ∈ am_B := am_inB (i := 666) (by decide +kernel) rfl
theorem iw_298 : Jvm.Cond.selects RX6 yX6_keep yX6_keep ∈ am_B := am_inB (i := 667) (by decide +kernel) rfl
theorem iw_299 : Jvm.Cond.code yX6_keep cX6_keep 3 (some .int) ∈ am_B := am_inB (i := 668) (by decide +kernel) rfl
theorem iw_300 : Jvm.Cond.methodLink R_law 150 yX7_keep ∈ am_B := am_inB (i := 1103) (by decide +kernel) rfl
theorem iw_301 : Jvm.Cond.instanceMethod yX7_keep ∈ am_B := am_inB (i := 1104) (by decide +kernel) rfl
theorem iw_302 : Jvm.Cond.selects RX7 yX7_keep yX7_keep ∈ am_B := am_inB (i := 1105) (by decide +kernel) rfl
theorem iw_303 : Jvm.Cond.code yX7_keep cX7_keep 3 (some .int) ∈ am_B := am_inB (i := 1106) (by decide +kernel) rfl
theorem iw_304 : Jvm.Cond.methodLink R_law 151 yX6_back ∈ am_B := am_inB (i := 669) (by decide +kernel) rfl
theorem iw_305 : Jvm.Cond.instanceMethod yX6_back ∈ am_B := am_inB (i := 670) (by decide +kernel) rfl
theorem iw_306 : Jvm.Cond.selects RX6 yX6_back yX6_back ∈ am_B := am_inB (i := 671) (by decide +kernel) rfl
theorem iw_307 : Jvm.Cond.code yX6_back cX6_back 2 (some .int) ∈ am_B := am_inB (i := 672) (by decide +kernel) rfl
theorem iw_308 : Jvm.Cond.methodLink R_law 154 yX7_back ∈ am_B := am_inB (i := 1107) (by decide +kernel) rfl
theorem iw_309 : Jvm.Cond.instanceMethod yX7_back ∈ am_B := am_inB (i := 1108) (by decide +kernel) rfl
theorem iw_310 : Jvm.Cond.selects RX7 yX7_back yX7_back ∈ am_B := am_inB (i := 1109) (by decide +kernel) rfl
theorem iw_311 : Jvm.Cond.code yX7_back cX7_back 2 (some .int) ∈ am_B := am_inB (i := 1110) (by decide +kernel) rfl
theorem iw_312 : Jvm.Cond.methodLink R_law 155 yX6_sheet ∈ am_B := am_inB (i := 673) (by decide +kernel) rfl
theorem iw_313 : Jvm.Cond.instanceMethod yX6_sheet ∈ am_B := am_inB (i := 674) (by decide +kernel) rfl
theorem iw_314 : Jvm.Cond.selects RX6 yX6_sheet yX6_sheet ∈ am_B := am_inB (i := 675) (by decide +kernel) rfl
theorem iw_315 : Jvm.Cond.code yX6_sheet cX6_sheet 4 (some .int) ∈ am_B := am_inB (i := 676) (by decide +kernel) rfl
theorem iw_316 : Jvm.Cond.methodLink R_law 158 yX7_sheet ∈ am_B := am_inB (i := 1111) (by decide +kernel) rfl
theorem iw_317 : Jvm.Cond.instanceMethod yX7_sheet ∈ am_B := am_inB (i := 1112) (by decide +kernel) rfl
theorem iw_318 : Jvm.Cond.selects RX7 yX7_sheet yX7_sheet ∈ am_B := am_inB (i := 1113) (by decide +kernel) rfl
theorem iw_319 : Jvm.Cond.code yX7_sheet cX7_sheet 5 (some .int) ∈ am_B := am_inB (i := 1114) (by decide +kernel) rfl
theorem iw_320 : Jvm.Cond.methodLink R_law 159 yX6_lay ∈ am_B := am_inB (i := 687) (by decide +kernel) rfl
theorem iw_321 : Jvm.Cond.instanceMethod yX6_lay ∈ am_B := am_inB (i := 688) (by decide +kernel) rfl
theorem iw_322 : Jvm.Cond.selects RX6 yX6_lay yX6_lay ∈ am_B := am_inB (i := 689) (by decide +kernel) rfl
theorem iw_323 : Jvm.Cond.code yX6_lay cX6_lay 5 (some .int) ∈ am_B := am_inB (i := 690) (by decide +kernel) rfl
theorem iw_324 : Jvm.Cond.methodLink R_law 162 yX7_lay ∈ am_B := am_inB (i := 1115) (by decide +kernel) rfl
theorem iw_325 : Jvm.Cond.instanceMethod yX7_lay ∈ am_B := am_inB (i := 1116) (by decide +kernel) rfl
theorem iw_326 : Jvm.Cond.selects RX7 yX7_lay yX7_lay ∈ am_B := am_inB (i := 1117) (by decide +kernel) rfl
theorem iw_327 : Jvm.Cond.code yX7_lay cX7_lay 4 (some .int) ∈ am_B := am_inB (i := 1118) (by decide +kernel) rfl
theorem iw_328 : Jvm.Cond.methodLink R_law 163 yX6_read ∈ am_B := am_inB (i := 699) (by decide +kernel) rfl
theorem iw_329 : Jvm.Cond.instanceMethod yX6_read ∈ am_B := am_inB (i := 700) (by decide +kernel) rfl
theorem iw_330 : Jvm.Cond.selects RX6 yX6_read yX6_read ∈ am_B := am_inB (i := 701) (by decide +kernel) rfl
theorem iw_331 : Jvm.Cond.code yX6_read cX6_read 9 (some .int) ∈ am_B := am_inB (i := 702) (by decide +kernel) rfl
theorem iw_332 : Jvm.Cond.methodLink R_law 167 yX7_read ∈ am_B := am_inB (i := 1119) (by decide +kernel) rfl
theorem iw_333 : Jvm.Cond.instanceMethod yX7_read ∈ am_B := am_inB (i := 1120) (by decide +kernel) rfl
theorem iw_334 : Jvm.Cond.selects RX7 yX7_read yX7_read ∈ am_B := am_inB (i := 1121) (by decide +kernel) rfl
theorem iw_335 : Jvm.Cond.code yX7_read cX7_read 7 (some .int) ∈ am_B := am_inB (i := 1122) (by decide +kernel) rfl
theorem iw_336 : Jvm.Cond.methodLink R_law 168 yX6_torn ∈ am_B := am_inB (i := 708) (by decide +kernel) rfl
theorem iw_337 : Jvm.Cond.instanceMethod yX6_torn ∈ am_B := am_inB (i := 709) (by decide +kernel) rfl
theorem iw_338 : Jvm.Cond.selects RX6 yX6_torn yX6_torn ∈ am_B := am_inB (i := 710) (by decide +kernel) rfl
theorem iw_339 : Jvm.Cond.code yX6_torn cX6_torn 1 (some .int) ∈ am_B := am_inB (i := 711) (by decide +kernel) rfl
theorem iw_340 : Jvm.Cond.methodLink R_law 171 yX7_torn ∈ am_B := am_inB (i := 1124) (by decide +kernel) rfl
theorem iw_341 : Jvm.Cond.instanceMethod yX7_torn ∈ am_B := am_inB (i := 1125) (by decide +kernel) rfl
theorem iw_342 : Jvm.Cond.selects RX7 yX7_torn yX7_torn ∈ am_B := am_inB (i := 1126) (by decide +kernel) rfl
theorem iw_343 : Jvm.Cond.code yX7_torn cX7_torn 1 (some .int) ∈ am_B := am_inB (i := 1127) (by decide +kernel) rfl
theorem iw_344 : Jvm.Cond.methodLink R_law 172 yX6_count ∈ am_B := am_inB (i := 712) (by decide +kernel) rfl
theorem iw_345 : Jvm.Cond.instanceMethod yX6_count ∈ am_B := am_inB (i := 713) (by decide +kernel) rfl
theorem iw_346 : Jvm.Cond.selects RX6 yX6_count yX6_count ∈ am_B := am_inB (i := 714) (by decide +kernel) rfl
theorem iw_347 : Jvm.Cond.code yX6_count cX6_count 2 (some .int) ∈ am_B := am_inB (i := 715) (by decide +kernel) rfl
theorem iw_348 : Jvm.Cond.methodLink R_law 175 yX7_count ∈ am_B := am_inB (i := 1128) (by decide +kernel) rfl
theorem iw_349 : Jvm.Cond.instanceMethod yX7_count ∈ am_B := am_inB (i := 1129) (by decide +kernel) rfl
theorem iw_350 : Jvm.Cond.selects RX7 yX7_count yX7_count ∈ am_B := am_inB (i := 1130) (by decide +kernel) rfl
theorem iw_351 : Jvm.Cond.code yX7_count cX7_count 5 (some .int) ∈ am_B := am_inB (i := 1131) (by decide +kernel) rfl
