/-! THE CLAIM OUT OF ONE WALK OF THE LAW'S BODY. Your part is whole_start (and what it stands on); all else here is the same for every law, but numbers. -/
def R_law : String := "ForgetHeirsLaw"
def lw_P (b : Addr) (xs : List Int32) (args : Array Value) (s : State) : Prop := args = #[.ref b] ∧ s.IntsAt b xs ∧ xs.length ≤ 3072 ∧ (Jvm.Cond.and given_1 narrow_1).before args s = true
def lw_Q (_ : Array Value) (s : State) (o : Outcome) (t : State) : Prop := o = .returned (some (.int 1)) ∧ Framed s o t [] 600000 7302250
def lw_Z (below : List Frame) (a : Array Value) (s : State) : State → Prop := fun t => ∃ o, t.status = .running ∧ Ended t below o ∧ lw_Q a s o t
/-- the law's own end, with 1 on the stack, nothing written that was there before, its room as the claim has it -/
theorem lw_ret {p : Program} {l : Launch} {e : Env} {s : State} {m : MethodId} {below : List Frame} {meth : Method} {c : Code} {b : Nat} (hx : p.tables.exec = Jvm.exec) (hb : c.code = code) (hr : meth.sig.returnType = ret) (hlocks : meth.locks = false) {pc : Nat} {H : Heap} {ls : Array Slot} (hdg : decode code pc = .ok (.ireturn, 1)) : W p l e room_1 s m #[Value.ref b] below meth c H [] 600000 7302250 (lw_Z below #[Value.ref b] s) (F0 m pc ls [.int 1]) := by
  intro T hT X
  obtain ⟨fs, hret, hrun, hended, hW, hframe⟩ := X.leave (v := some (.int 1)) (hlocks := hlocks) (fun h => by rw [hr] at h; cases h)
  have hmeth' : T.vm.method? m = some meth := X.method'
  refine ⟨T.setFrames fs, ?_, .returned (some (.int 1)), hrun, hended, rfl, ⟨_, rfl⟩, hW, hframe⟩
  jvm_step X.here [X.here.top, hx, hb, hdg, hmeth', hr, ret, narrow_b1]
  (try refine ⟨rfl, ?_⟩); (try refine ⟨rfl, ?_⟩)
  first | (intro acts; rw [hret _ acts rfl rfl rfl]) | rw [hret _ _ rfl rfl rfl]
  exact Steps.refl _
/-- what holds at the law's entry: the machine, the code, the tables' words (any of lw_tbl by 'hts w (by decide +kernel)'), the script of L ints xs at the cell b, what the Statement gives of the start (any of its parts by flat_of_before) -/
def lw_At (p : Program) (s : State) (m : MethodId) (meth : Method) (c : Code) (b L : Nat) (xs : Nat → Int32) : Prop :=
  p.tables.exec = Jvm.exec ∧ c.code = code ∧ meth.sig.returnType = ret ∧ c.maxLocals = 4 ∧ s.vm.findClass R_law = some m.cls ∧ (∀ w ∈ lw_tbl, w.before #[Value.ref b] s = true) ∧ va_X b L xs s s.heap ∧ b < s.heap.size ∧ meth.locks = false ∧ (Jvm.Cond.and given_1 narrow_1).before #[Value.ref b] s = true
set_option maxRecDepth 20000 in
theorem m_137 : Cond.classLink R_law 7 RX11 ∈ g_tb := gq_in gq_s1 22 rfl rfl
set_option maxRecDepth 20000 in
theorem m_138 : Cond.instantiable RX11 15 ∈ g_tb := gq_in gq_s1 23 rfl rfl
set_option maxRecDepth 20000 in
theorem m_139 : Cond.methodLink R_law 9 yX11_init ∈ g_tb := gq_in gq_s1 24 rfl rfl
set_option maxRecDepth 20000 in
theorem m_140 : Cond.instanceMethod yX11_init ∈ g_tb := gq_in gq_s1 25 rfl rfl
set_option maxRecDepth 20000 in
theorem m_141 : Cond.code yX11_init cX11_init 3 none ∈ g_tb := gq_in gq_s1 26 rfl rfl
set_option maxRecDepth 20000 in
theorem m_482 : Cond.methodLink R_law 13 yX11_feed ∈ g_tb := gq_in gq_s2 127 rfl rfl
set_option maxRecDepth 20000 in
theorem m_483 : Cond.instanceMethod yX11_feed ∈ g_tb := gq_in gq_s2 128 rfl rfl
set_option maxRecDepth 20000 in
theorem m_484 : Cond.selects RX11 yX11_feed yX11_feed ∈ g_tb := gq_in gq_s2 129 rfl rfl
set_option maxRecDepth 20000 in
theorem m_485 : Cond.code yX11_feed cX11_feed 6 (some .int) ∈ g_tb := gq_in gq_s2 130 rfl rfl
set_option maxRecDepth 20000 in
theorem m_490 : Cond.methodLink R_law 18 yX11_end ∈ g_tb := gq_in gq_s2 135 rfl rfl
set_option maxRecDepth 20000 in
theorem m_491 : Cond.instanceMethod yX11_end ∈ g_tb := gq_in gq_s2 136 rfl rfl
set_option maxRecDepth 20000 in
theorem m_492 : Cond.selects RX11 yX11_end yX11_end ∈ g_tb := gq_in gq_s2 137 rfl rfl
set_option maxRecDepth 20000 in
theorem m_493 : Cond.code yX11_end cX11_end 2 (some .int) ∈ g_tb := gq_in gq_s2 138 rfl rfl
set_option maxRecDepth 20000 in
theorem m_494 : Cond.methodLink R_law 23 yX11_house ∈ g_tb := gq_in gq_s2 139 rfl rfl
set_option maxRecDepth 20000 in
theorem m_495 : Cond.instanceMethod yX11_house ∈ g_tb := gq_in gq_s2 140 rfl rfl
set_option maxRecDepth 20000 in
theorem m_496 : Cond.selects RX11 yX11_house yX11_house ∈ g_tb := gq_in gq_s2 141 rfl rfl
set_option maxRecDepth 20000 in
theorem m_497 : Cond.code yX11_house cX11_house 2 (some .int) ∈ g_tb := gq_in gq_s2 142 rfl rfl
set_option maxRecDepth 20000 in
theorem m_675 : Cond.methodLink R_law 28 yX11_rule ∈ g_tb := gq_in gq_s3 80 rfl rfl
set_option maxRecDepth 20000 in
theorem m_676 : Cond.instanceMethod yX11_rule ∈ g_tb := gq_in gq_s3 81 rfl rfl
set_option maxRecDepth 20000 in
theorem m_677 : Cond.selects RX11 yX11_rule yX11_rule ∈ g_tb := gq_in gq_s3 82 rfl rfl
set_option maxRecDepth 20000 in
theorem m_678 : Cond.code yX11_rule cX11_rule 2 (some .int) ∈ g_tb := gq_in gq_s3 83 rfl rfl
set_option maxRecDepth 20000 in
theorem m_760 : Cond.methodLink R_law 32 yX11_force ∈ g_tb := gq_in gq_s3 165 rfl rfl
set_option maxRecDepth 20000 in
theorem m_761 : Cond.instanceMethod yX11_force ∈ g_tb := gq_in gq_s3 166 rfl rfl
set_option maxRecDepth 20000 in
theorem m_762 : Cond.selects RX11 yX11_force yX11_force ∈ g_tb := gq_in gq_s3 167 rfl rfl
set_option maxRecDepth 20000 in
theorem m_763 : Cond.code yX11_force cX11_force 3 (some .int) ∈ g_tb := gq_in gq_s3 168 rfl rfl
set_option maxRecDepth 20000 in
theorem m_764 : Cond.methodLink R_law 36 yX11_heir ∈ g_tb := gq_in gq_s3 169 rfl rfl
set_option maxRecDepth 20000 in
theorem m_765 : Cond.instanceMethod yX11_heir ∈ g_tb := gq_in gq_s3 170 rfl rfl
set_option maxRecDepth 20000 in
theorem m_766 : Cond.selects RX11 yX11_heir yX11_heir ∈ g_tb := gq_in gq_s3 171 rfl rfl
set_option maxRecDepth 20000 in
theorem m_767 : Cond.code yX11_heir cX11_heir 3 (some .int) ∈ g_tb := gq_in gq_s3 172 rfl rfl
set_option maxRecDepth 20000 in
theorem m_790 : Cond.methodLink R_law 41 yX11_thing ∈ g_tb := gq_in gq_s3 195 rfl rfl
set_option maxRecDepth 20000 in
theorem m_791 : Cond.instanceMethod yX11_thing ∈ g_tb := gq_in gq_s3 196 rfl rfl
set_option maxRecDepth 20000 in
theorem m_792 : Cond.selects RX11 yX11_thing yX11_thing ∈ g_tb := gq_in gq_s3 197 rfl rfl
set_option maxRecDepth 20000 in
theorem m_793 : Cond.code yX11_thing cX11_thing 3 (some .int) ∈ g_tb := gq_in gq_s3 198 rfl rfl
set_option maxRecDepth 20000 in
theorem m_799 : Cond.methodLink R_law 45 yX11_knows ∈ g_tb := gq_in gq_s3 204 rfl rfl
set_option maxRecDepth 20000 in
theorem m_800 : Cond.instanceMethod yX11_knows ∈ g_tb := gq_in gq_s3 205 rfl rfl
set_option maxRecDepth 20000 in
theorem m_801 : Cond.selects RX11 yX11_knows yX11_knows ∈ g_tb := gq_in gq_s3 206 rfl rfl
set_option maxRecDepth 20000 in
theorem m_802 : Cond.code yX11_knows cX11_knows 5 (some .int) ∈ g_tb := gq_in gq_s3 207 rfl rfl
set_option maxRecDepth 20000 in
theorem m_803 : Cond.methodLink R_law 136 yX11_count ∈ g_tb := gq_in gq_s3 208 rfl rfl
set_option maxRecDepth 20000 in
theorem m_804 : Cond.instanceMethod yX11_count ∈ g_tb := gq_in gq_s3 209 rfl rfl
set_option maxRecDepth 20000 in
theorem m_805 : Cond.selects RX11 yX11_count yX11_count ∈ g_tb := gq_in gq_s3 210 rfl rfl
set_option maxRecDepth 20000 in
theorem m_806 : Cond.code yX11_count cX11_count 2 (some .int) ∈ g_tb := gq_in gq_s3 211 rfl rfl
set_option maxRecDepth 20000 in
theorem m_821 : Cond.methodLink R_law 50 yX11_year ∈ g_tb := gq_in gq_s3 226 rfl rfl
set_option maxRecDepth 20000 in
theorem m_822 : Cond.instanceMethod yX11_year ∈ g_tb := gq_in gq_s3 227 rfl rfl
set_option maxRecDepth 20000 in
theorem m_823 : Cond.selects RX11 yX11_year yX11_year ∈ g_tb := gq_in gq_s3 228 rfl rfl
set_option maxRecDepth 20000 in
theorem m_824 : Cond.code yX11_year cX11_year 1 (some .int) ∈ g_tb := gq_in gq_s3 229 rfl rfl
set_option maxRecDepth 20000 in
theorem m_900 : Cond.methodLink R_law 54 yX11_tell ∈ g_tb := gq_in gq_s4 65 rfl rfl
set_option maxRecDepth 20000 in
theorem m_901 : Cond.instanceMethod yX11_tell ∈ g_tb := gq_in gq_s4 66 rfl rfl
set_option maxRecDepth 20000 in
theorem m_902 : Cond.selects RX11 yX11_tell yX11_tell ∈ g_tb := gq_in gq_s4 67 rfl rfl
set_option maxRecDepth 20000 in
theorem m_903 : Cond.code yX11_tell cX11_tell 5 (some .int) ∈ g_tb := gq_in gq_s4 68 rfl rfl
set_option maxRecDepth 20000 in
theorem m_919 : Cond.methodLink R_law 59 yX11_prompt ∈ g_tb := gq_in gq_s4 84 rfl rfl
set_option maxRecDepth 20000 in
theorem m_920 : Cond.instanceMethod yX11_prompt ∈ g_tb := gq_in gq_s4 85 rfl rfl
set_option maxRecDepth 20000 in
theorem m_921 : Cond.selects RX11 yX11_prompt yX11_prompt ∈ g_tb := gq_in gq_s4 86 rfl rfl
set_option maxRecDepth 20000 in
theorem m_922 : Cond.code yX11_prompt cX11_prompt 4 (some .int) ∈ g_tb := gq_in gq_s4 87 rfl rfl
set_option maxRecDepth 20000 in
theorem m_927 : Cond.methodLink R_law 63 yX11_ask ∈ g_tb := gq_in gq_s4 92 rfl rfl
set_option maxRecDepth 20000 in
theorem m_928 : Cond.instanceMethod yX11_ask ∈ g_tb := gq_in gq_s4 93 rfl rfl
set_option maxRecDepth 20000 in
theorem m_929 : Cond.selects RX11 yX11_ask yX11_ask ∈ g_tb := gq_in gq_s4 94 rfl rfl
set_option maxRecDepth 20000 in
theorem m_930 : Cond.code yX11_ask cX11_ask 4 (some .int) ∈ g_tb := gq_in gq_s4 95 rfl rfl
set_option maxRecDepth 20000 in
theorem m_940 : Cond.methodLink R_law 67 yX11_burn ∈ g_tb := gq_in gq_s4 105 rfl rfl
set_option maxRecDepth 20000 in
theorem m_941 : Cond.instanceMethod yX11_burn ∈ g_tb := gq_in gq_s4 106 rfl rfl
set_option maxRecDepth 20000 in
theorem m_942 : Cond.selects RX11 yX11_burn yX11_burn ∈ g_tb := gq_in gq_s4 107 rfl rfl
set_option maxRecDepth 20000 in
theorem m_943 : Cond.code yX11_burn cX11_burn 2 (some .boolean) ∈ g_tb := gq_in gq_s4 108 rfl rfl
set_option maxRecDepth 20000 in
theorem m_944 : Cond.methodLink R_law 72 yX11_undo ∈ g_tb := gq_in gq_s4 109 rfl rfl
set_option maxRecDepth 20000 in
theorem m_945 : Cond.instanceMethod yX11_undo ∈ g_tb := gq_in gq_s4 110 rfl rfl
set_option maxRecDepth 20000 in
theorem m_946 : Cond.selects RX11 yX11_undo yX11_undo ∈ g_tb := gq_in gq_s4 111 rfl rfl
set_option maxRecDepth 20000 in
theorem m_947 : Cond.code yX11_undo cX11_undo 1 (some .int) ∈ g_tb := gq_in gq_s4 112 rfl rfl
set_option maxRecDepth 20000 in
theorem m_952 : Cond.methodLink R_law 76 yX11_ahead ∈ g_tb := gq_in gq_s4 117 rfl rfl
set_option maxRecDepth 20000 in
theorem m_953 : Cond.instanceMethod yX11_ahead ∈ g_tb := gq_in gq_s4 118 rfl rfl
set_option maxRecDepth 20000 in
theorem m_954 : Cond.selects RX11 yX11_ahead yX11_ahead ∈ g_tb := gq_in gq_s4 119 rfl rfl
set_option maxRecDepth 20000 in
theorem m_955 : Cond.code yX11_ahead cX11_ahead 3 (some .int) ∈ g_tb := gq_in gq_s4 120 rfl rfl
set_option maxRecDepth 20000 in
theorem m_960 : Cond.methodLink R_law 80 yX11_strike ∈ g_tb := gq_in gq_s4 125 rfl rfl
set_option maxRecDepth 20000 in
theorem m_961 : Cond.instanceMethod yX11_strike ∈ g_tb := gq_in gq_s4 126 rfl rfl
set_option maxRecDepth 20000 in
theorem m_962 : Cond.selects RX11 yX11_strike yX11_strike ∈ g_tb := gq_in gq_s4 127 rfl rfl
set_option maxRecDepth 20000 in
theorem m_963 : Cond.code yX11_strike cX11_strike 3 (some .int) ∈ g_tb := gq_in gq_s4 128 rfl rfl
set_option maxRecDepth 20000 in
theorem m_968 : Cond.methodLink R_law 84 yX11_inherits ∈ g_tb := gq_in gq_s4 133 rfl rfl
set_option maxRecDepth 20000 in
theorem m_969 : Cond.instanceMethod yX11_inherits ∈ g_tb := gq_in gq_s4 134 rfl rfl
set_option maxRecDepth 20000 in
theorem m_970 : Cond.selects RX11 yX11_inherits yX11_inherits ∈ g_tb := gq_in gq_s4 135 rfl rfl
set_option maxRecDepth 20000 in
theorem m_971 : Cond.code yX11_inherits cX11_inherits 5 (some .int) ∈ g_tb := gq_in gq_s4 136 rfl rfl
set_option maxRecDepth 20000 in
theorem m_981 : Cond.methodLink R_law 88 yX11_longest ∈ g_tb := gq_in gq_s4 146 rfl rfl
set_option maxRecDepth 20000 in
theorem m_982 : Cond.instanceMethod yX11_longest ∈ g_tb := gq_in gq_s4 147 rfl rfl
set_option maxRecDepth 20000 in
theorem m_983 : Cond.selects RX11 yX11_longest yX11_longest ∈ g_tb := gq_in gq_s4 148 rfl rfl
set_option maxRecDepth 20000 in
theorem m_984 : Cond.code yX11_longest cX11_longest 3 (some .int) ∈ g_tb := gq_in gq_s4 149 rfl rfl
set_option maxRecDepth 20000 in
theorem m_990 : Cond.methodLink R_law 92 yX11_fields ∈ g_tb := gq_in gq_s4 155 rfl rfl
set_option maxRecDepth 20000 in
theorem m_991 : Cond.instanceMethod yX11_fields ∈ g_tb := gq_in gq_s4 156 rfl rfl
set_option maxRecDepth 20000 in
theorem m_992 : Cond.selects RX11 yX11_fields yX11_fields ∈ g_tb := gq_in gq_s4 157 rfl rfl
set_option maxRecDepth 20000 in
theorem m_993 : Cond.code yX11_fields cX11_fields 4 (some .int) ∈ g_tb := gq_in gq_s4 158 rfl rfl
set_option maxRecDepth 20000 in
theorem m_994 : Cond.methodLink R_law 124 yX11_cost ∈ g_tb := gq_in gq_s4 159 rfl rfl
set_option maxRecDepth 20000 in
theorem m_995 : Cond.instanceMethod yX11_cost ∈ g_tb := gq_in gq_s4 160 rfl rfl
set_option maxRecDepth 20000 in
theorem m_996 : Cond.selects RX11 yX11_cost yX11_cost ∈ g_tb := gq_in gq_s4 161 rfl rfl
set_option maxRecDepth 20000 in
theorem m_997 : Cond.code yX11_cost cX11_cost 4 (some .int) ∈ g_tb := gq_in gq_s4 162 rfl rfl
set_option maxRecDepth 20000 in
theorem m_998 : Cond.methodLink R_law 120 yX11_prompts ∈ g_tb := gq_in gq_s4 163 rfl rfl
set_option maxRecDepth 20000 in
theorem m_999 : Cond.instanceMethod yX11_prompts ∈ g_tb := gq_in gq_s4 164 rfl rfl
set_option maxRecDepth 20000 in
theorem m_1000 : Cond.selects RX11 yX11_prompts yX11_prompts ∈ g_tb := gq_in gq_s4 165 rfl rfl
set_option maxRecDepth 20000 in
theorem m_1001 : Cond.code yX11_prompts cX11_prompts 10 (some .int) ∈ g_tb := gq_in gq_s4 166 rfl rfl
set_option maxRecDepth 20000 in
theorem m_1003 : Cond.methodLink R_law 96 yX11_falls ∈ g_tb := gq_in gq_s4 168 rfl rfl
set_option maxRecDepth 20000 in
theorem m_1004 : Cond.instanceMethod yX11_falls ∈ g_tb := gq_in gq_s4 169 rfl rfl
set_option maxRecDepth 20000 in
theorem m_1005 : Cond.selects RX11 yX11_falls yX11_falls ∈ g_tb := gq_in gq_s4 170 rfl rfl
set_option maxRecDepth 20000 in
theorem m_1006 : Cond.code yX11_falls cX11_falls 4 (some .int) ∈ g_tb := gq_in gq_s4 171 rfl rfl
set_option maxRecDepth 20000 in
theorem m_1008 : Cond.methodLink R_law 100 yX11_examine ∈ g_tb := gq_in gq_s4 173 rfl rfl
set_option maxRecDepth 20000 in
theorem m_1009 : Cond.instanceMethod yX11_examine ∈ g_tb := gq_in gq_s4 174 rfl rfl
set_option maxRecDepth 20000 in
theorem m_1010 : Cond.selects RX11 yX11_examine yX11_examine ∈ g_tb := gq_in gq_s4 175 rfl rfl
set_option maxRecDepth 20000 in
theorem m_1011 : Cond.code yX11_examine cX11_examine 6 (some .int) ∈ g_tb := gq_in gq_s4 176 rfl rfl
set_option maxRecDepth 20000 in
theorem m_1016 : Cond.methodLink R_law 104 yX11_likeliest ∈ g_tb := gq_in gq_s4 181 rfl rfl
set_option maxRecDepth 20000 in
theorem m_1017 : Cond.instanceMethod yX11_likeliest ∈ g_tb := gq_in gq_s4 182 rfl rfl
set_option maxRecDepth 20000 in
theorem m_1018 : Cond.selects RX11 yX11_likeliest yX11_likeliest ∈ g_tb := gq_in gq_s4 183 rfl rfl
set_option maxRecDepth 20000 in
theorem m_1019 : Cond.code yX11_likeliest cX11_likeliest 7 (some .int) ∈ g_tb := gq_in gq_s4 184 rfl rfl
set_option maxRecDepth 20000 in
theorem m_1024 : Cond.methodLink R_law 108 yX11_parts ∈ g_tb := gq_in gq_s4 189 rfl rfl
set_option maxRecDepth 20000 in
theorem m_1025 : Cond.instanceMethod yX11_parts ∈ g_tb := gq_in gq_s4 190 rfl rfl
set_option maxRecDepth 20000 in
theorem m_1026 : Cond.selects RX11 yX11_parts yX11_parts ∈ g_tb := gq_in gq_s4 191 rfl rfl
set_option maxRecDepth 20000 in
theorem m_1027 : Cond.code yX11_parts cX11_parts 7 (some .int) ∈ g_tb := gq_in gq_s4 192 rfl rfl
set_option maxRecDepth 20000 in
theorem m_1041 : Cond.methodLink R_law 112 yX11_ways ∈ g_tb := gq_in gq_s4 206 rfl rfl
set_option maxRecDepth 20000 in
theorem m_1042 : Cond.instanceMethod yX11_ways ∈ g_tb := gq_in gq_s4 207 rfl rfl
set_option maxRecDepth 20000 in
theorem m_1043 : Cond.selects RX11 yX11_ways yX11_ways ∈ g_tb := gq_in gq_s4 208 rfl rfl
set_option maxRecDepth 20000 in
theorem m_1044 : Cond.code yX11_ways cX11_ways 4 (some .int) ∈ g_tb := gq_in gq_s4 209 rfl rfl
set_option maxRecDepth 20000 in
theorem m_1064 : Cond.methodLink R_law 116 yX11_taught ∈ g_tb := gq_in gq_s4 229 rfl rfl
set_option maxRecDepth 20000 in
theorem m_1065 : Cond.instanceMethod yX11_taught ∈ g_tb := gq_in gq_s4 230 rfl rfl
set_option maxRecDepth 20000 in
theorem m_1066 : Cond.selects RX11 yX11_taught yX11_taught ∈ g_tb := gq_in gq_s4 231 rfl rfl
set_option maxRecDepth 20000 in
theorem m_1067 : Cond.code yX11_taught cX11_taught 3 (some .int) ∈ g_tb := gq_in gq_s4 232 rfl rfl
set_option maxRecDepth 20000 in
theorem m_1068 : Cond.methodLink R_law 128 yX11_seed ∈ g_tb := gq_in gq_s4 233 rfl rfl
set_option maxRecDepth 20000 in
theorem m_1069 : Cond.instanceMethod yX11_seed ∈ g_tb := gq_in gq_s4 234 rfl rfl
set_option maxRecDepth 20000 in
theorem m_1070 : Cond.selects RX11 yX11_seed yX11_seed ∈ g_tb := gq_in gq_s4 235 rfl rfl
set_option maxRecDepth 20000 in
theorem m_1071 : Cond.code yX11_seed cX11_seed 3 (some .int) ∈ g_tb := gq_in gq_s4 236 rfl rfl
set_option maxRecDepth 20000 in
theorem m_1072 : Cond.methodLink R_law 132 yX11_drawn ∈ g_tb := gq_in gq_s4 237 rfl rfl
set_option maxRecDepth 20000 in
theorem m_1073 : Cond.instanceMethod yX11_drawn ∈ g_tb := gq_in gq_s4 238 rfl rfl
set_option maxRecDepth 20000 in
theorem m_1074 : Cond.selects RX11 yX11_drawn yX11_drawn ∈ g_tb := gq_in gq_s4 239 rfl rfl
set_option maxRecDepth 20000 in
theorem m_1075 : Cond.code yX11_drawn cX11_drawn 8 (some .int) ∈ g_tb := gq_in gq_s5 0 rfl rfl
set_option maxRecDepth 20000 in
theorem m_1088 : Cond.methodLink R_law 140 yX11_image ∈ g_tb := gq_in gq_s5 13 rfl rfl
set_option maxRecDepth 20000 in
theorem m_1089 : Cond.instanceMethod yX11_image ∈ g_tb := gq_in gq_s5 14 rfl rfl
set_option maxRecDepth 20000 in
theorem m_1090 : Cond.selects RX11 yX11_image yX11_image ∈ g_tb := gq_in gq_s5 15 rfl rfl
set_option maxRecDepth 20000 in
theorem m_1091 : Cond.code yX11_image cX11_image 3 (some .int) ∈ g_tb := gq_in gq_s5 16 rfl rfl
set_option maxRecDepth 20000 in
theorem m_1092 : Cond.methodLink R_law 144 yX11_back ∈ g_tb := gq_in gq_s5 17 rfl rfl
set_option maxRecDepth 20000 in
theorem m_1093 : Cond.instanceMethod yX11_back ∈ g_tb := gq_in gq_s5 18 rfl rfl
set_option maxRecDepth 20000 in
theorem m_1094 : Cond.selects RX11 yX11_back yX11_back ∈ g_tb := gq_in gq_s5 19 rfl rfl
set_option maxRecDepth 20000 in
theorem m_1095 : Cond.code yX11_back cX11_back 3 (some .int) ∈ g_tb := gq_in gq_s5 20 rfl rfl
set_option maxRecDepth 20000 in
theorem m_1096 : Cond.classLink R_law 10 RX12 ∈ g_tb := gq_in gq_s5 21 rfl rfl
set_option maxRecDepth 20000 in
theorem m_1097 : Cond.instantiable RX12 37 ∈ g_tb := gq_in gq_s5 22 rfl rfl
set_option maxRecDepth 20000 in
theorem m_1098 : Cond.methodLink R_law 12 yX12_init ∈ g_tb := gq_in gq_s5 23 rfl rfl
set_option maxRecDepth 20000 in
theorem m_1099 : Cond.instanceMethod yX12_init ∈ g_tb := gq_in gq_s5 24 rfl rfl
set_option maxRecDepth 20000 in
theorem m_1100 : Cond.code yX12_init cX12_init 1 none ∈ g_tb := gq_in gq_s5 25 rfl rfl
set_option maxRecDepth 20000 in
theorem m_1215 : Cond.methodLink R_law 17 yX12_feed ∈ g_tb := gq_in gq_s5 140 rfl rfl
set_option maxRecDepth 20000 in
theorem m_1216 : Cond.instanceMethod yX12_feed ∈ g_tb := gq_in gq_s5 141 rfl rfl
set_option maxRecDepth 20000 in
theorem m_1217 : Cond.selects RX12 yX12_feed yX12_feed ∈ g_tb := gq_in gq_s5 142 rfl rfl
set_option maxRecDepth 20000 in
theorem m_1218 : Cond.code yX12_feed cX12_feed 6 (some .int) ∈ g_tb := gq_in gq_s5 143 rfl rfl
set_option maxRecDepth 20000 in
theorem m_1223 : Cond.methodLink R_law 22 yX12_end ∈ g_tb := gq_in gq_s5 148 rfl rfl
set_option maxRecDepth 20000 in
theorem m_1224 : Cond.instanceMethod yX12_end ∈ g_tb := gq_in gq_s5 149 rfl rfl
set_option maxRecDepth 20000 in
theorem m_1225 : Cond.selects RX12 yX12_end yX12_end ∈ g_tb := gq_in gq_s5 150 rfl rfl
set_option maxRecDepth 20000 in
theorem m_1226 : Cond.code yX12_end cX12_end 2 (some .int) ∈ g_tb := gq_in gq_s5 151 rfl rfl
set_option maxRecDepth 20000 in
theorem m_1227 : Cond.methodLink R_law 31 yX12_rule ∈ g_tb := gq_in gq_s5 152 rfl rfl
set_option maxRecDepth 20000 in
theorem m_1228 : Cond.instanceMethod yX12_rule ∈ g_tb := gq_in gq_s5 153 rfl rfl
set_option maxRecDepth 20000 in
theorem m_1229 : Cond.selects RX12 yX12_rule yX12_rule ∈ g_tb := gq_in gq_s5 154 rfl rfl
set_option maxRecDepth 20000 in
theorem m_1230 : Cond.code yX12_rule cX12_rule 1 (some .int) ∈ g_tb := gq_in gq_s5 155 rfl rfl
set_option maxRecDepth 20000 in
theorem m_1399 : Cond.methodLink R_law 27 yX12_house ∈ g_tb := gq_in gq_s6 84 rfl rfl
set_option maxRecDepth 20000 in
theorem m_1400 : Cond.instanceMethod yX12_house ∈ g_tb := gq_in gq_s6 85 rfl rfl
set_option maxRecDepth 20000 in
theorem m_1401 : Cond.selects RX12 yX12_house yX12_house ∈ g_tb := gq_in gq_s6 86 rfl rfl
set_option maxRecDepth 20000 in
theorem m_1402 : Cond.code yX12_house cX12_house 2 (some .int) ∈ g_tb := gq_in gq_s6 87 rfl rfl
set_option maxRecDepth 20000 in
theorem m_1403 : Cond.methodLink R_law 35 yX12_force ∈ g_tb := gq_in gq_s6 88 rfl rfl
set_option maxRecDepth 20000 in
theorem m_1404 : Cond.instanceMethod yX12_force ∈ g_tb := gq_in gq_s6 89 rfl rfl
set_option maxRecDepth 20000 in
theorem m_1405 : Cond.selects RX12 yX12_force yX12_force ∈ g_tb := gq_in gq_s6 90 rfl rfl
set_option maxRecDepth 20000 in
theorem m_1406 : Cond.code yX12_force cX12_force 3 (some .int) ∈ g_tb := gq_in gq_s6 91 rfl rfl
set_option maxRecDepth 20000 in
theorem m_1411 : Cond.methodLink R_law 40 yX12_heir ∈ g_tb := gq_in gq_s6 96 rfl rfl
set_option maxRecDepth 20000 in
theorem m_1412 : Cond.instanceMethod yX12_heir ∈ g_tb := gq_in gq_s6 97 rfl rfl
set_option maxRecDepth 20000 in
theorem m_1413 : Cond.selects RX12 yX12_heir yX12_heir ∈ g_tb := gq_in gq_s6 98 rfl rfl
set_option maxRecDepth 20000 in
theorem m_1414 : Cond.code yX12_heir cX12_heir 5 (some .int) ∈ g_tb := gq_in gq_s6 99 rfl rfl
set_option maxRecDepth 20000 in
theorem m_1444 : Cond.methodLink R_law 44 yX12_thing ∈ g_tb := gq_in gq_s6 129 rfl rfl
set_option maxRecDepth 20000 in
theorem m_1445 : Cond.instanceMethod yX12_thing ∈ g_tb := gq_in gq_s6 130 rfl rfl
set_option maxRecDepth 20000 in
theorem m_1446 : Cond.selects RX12 yX12_thing yX12_thing ∈ g_tb := gq_in gq_s6 131 rfl rfl
set_option maxRecDepth 20000 in
theorem m_1447 : Cond.code yX12_thing cX12_thing 3 (some .int) ∈ g_tb := gq_in gq_s6 132 rfl rfl
set_option maxRecDepth 20000 in
theorem m_1457 : Cond.methodLink R_law 49 yX12_knows ∈ g_tb := gq_in gq_s6 142 rfl rfl
set_option maxRecDepth 20000 in
theorem m_1458 : Cond.instanceMethod yX12_knows ∈ g_tb := gq_in gq_s6 143 rfl rfl
set_option maxRecDepth 20000 in
theorem m_1459 : Cond.selects RX12 yX12_knows yX12_knows ∈ g_tb := gq_in gq_s6 144 rfl rfl
set_option maxRecDepth 20000 in
theorem m_1460 : Cond.code yX12_knows cX12_knows 4 (some .int) ∈ g_tb := gq_in gq_s6 145 rfl rfl
set_option maxRecDepth 20000 in
theorem m_1461 : Cond.methodLink R_law 75 yX12_undo ∈ g_tb := gq_in gq_s6 146 rfl rfl
set_option maxRecDepth 20000 in
theorem m_1462 : Cond.instanceMethod yX12_undo ∈ g_tb := gq_in gq_s6 147 rfl rfl
set_option maxRecDepth 20000 in
theorem m_1463 : Cond.selects RX12 yX12_undo yX12_undo ∈ g_tb := gq_in gq_s6 148 rfl rfl
set_option maxRecDepth 20000 in
theorem m_1464 : Cond.code yX12_undo cX12_undo 2 (some .int) ∈ g_tb := gq_in gq_s6 149 rfl rfl
set_option maxRecDepth 20000 in
theorem m_1465 : Cond.methodLink R_law 53 yX12_year ∈ g_tb := gq_in gq_s6 150 rfl rfl
set_option maxRecDepth 20000 in
theorem m_1466 : Cond.instanceMethod yX12_year ∈ g_tb := gq_in gq_s6 151 rfl rfl
set_option maxRecDepth 20000 in
theorem m_1467 : Cond.selects RX12 yX12_year yX12_year ∈ g_tb := gq_in gq_s6 152 rfl rfl
set_option maxRecDepth 20000 in
theorem m_1468 : Cond.code yX12_year cX12_year 1 (some .int) ∈ g_tb := gq_in gq_s6 153 rfl rfl
set_option maxRecDepth 20000 in
theorem m_1521 : Cond.methodLink R_law 58 yX12_tell ∈ g_tb := gq_in gq_s6 206 rfl rfl
set_option maxRecDepth 20000 in
theorem m_1522 : Cond.instanceMethod yX12_tell ∈ g_tb := gq_in gq_s6 207 rfl rfl
set_option maxRecDepth 20000 in
theorem m_1523 : Cond.selects RX12 yX12_tell yX12_tell ∈ g_tb := gq_in gq_s6 208 rfl rfl
set_option maxRecDepth 20000 in
theorem m_1524 : Cond.code yX12_tell cX12_tell 5 (some .int) ∈ g_tb := gq_in gq_s6 209 rfl rfl
set_option maxRecDepth 20000 in
theorem m_1533 : Cond.methodLink R_law 62 yX12_prompt ∈ g_tb := gq_in gq_s6 218 rfl rfl
set_option maxRecDepth 20000 in
theorem m_1534 : Cond.instanceMethod yX12_prompt ∈ g_tb := gq_in gq_s6 219 rfl rfl
set_option maxRecDepth 20000 in
theorem m_1535 : Cond.selects RX12 yX12_prompt yX12_prompt ∈ g_tb := gq_in gq_s6 220 rfl rfl
set_option maxRecDepth 20000 in
theorem m_1536 : Cond.code yX12_prompt cX12_prompt 4 (some .int) ∈ g_tb := gq_in gq_s6 221 rfl rfl
set_option maxRecDepth 20000 in
theorem m_1537 : Cond.methodLink R_law 66 yX12_ask ∈ g_tb := gq_in gq_s6 222 rfl rfl
set_option maxRecDepth 20000 in
theorem m_1538 : Cond.instanceMethod yX12_ask ∈ g_tb := gq_in gq_s6 223 rfl rfl
set_option maxRecDepth 20000 in
theorem m_1539 : Cond.selects RX12 yX12_ask yX12_ask ∈ g_tb := gq_in gq_s6 224 rfl rfl
set_option maxRecDepth 20000 in
theorem m_1540 : Cond.code yX12_ask cX12_ask 3 (some .int) ∈ g_tb := gq_in gq_s6 225 rfl rfl
set_option maxRecDepth 20000 in
theorem m_1545 : Cond.methodLink R_law 71 yX12_burn ∈ g_tb := gq_in gq_s6 230 rfl rfl
set_option maxRecDepth 20000 in
theorem m_1546 : Cond.instanceMethod yX12_burn ∈ g_tb := gq_in gq_s6 231 rfl rfl
set_option maxRecDepth 20000 in
theorem m_1547 : Cond.selects RX12 yX12_burn yX12_burn ∈ g_tb := gq_in gq_s6 232 rfl rfl
set_option maxRecDepth 20000 in
theorem m_1548 : Cond.code yX12_burn cX12_burn 2 (some .boolean) ∈ g_tb := gq_in gq_s6 233 rfl rfl
set_option maxRecDepth 20000 in
theorem m_1549 : Cond.methodLink R_law 79 yX12_ahead ∈ g_tb := gq_in gq_s6 234 rfl rfl
set_option maxRecDepth 20000 in
theorem m_1550 : Cond.instanceMethod yX12_ahead ∈ g_tb := gq_in gq_s6 235 rfl rfl
set_option maxRecDepth 20000 in
theorem m_1551 : Cond.selects RX12 yX12_ahead yX12_ahead ∈ g_tb := gq_in gq_s6 236 rfl rfl
set_option maxRecDepth 20000 in
theorem m_1552 : Cond.code yX12_ahead cX12_ahead 4 (some .int) ∈ g_tb := gq_in gq_s6 237 rfl rfl
set_option maxRecDepth 20000 in
theorem m_1562 : Cond.methodLink R_law 83 yX12_strike ∈ g_tb := gq_in gq_s7 7 rfl rfl
set_option maxRecDepth 20000 in
theorem m_1563 : Cond.instanceMethod yX12_strike ∈ g_tb := gq_in gq_s7 8 rfl rfl
set_option maxRecDepth 20000 in
theorem m_1564 : Cond.selects RX12 yX12_strike yX12_strike ∈ g_tb := gq_in gq_s7 9 rfl rfl
set_option maxRecDepth 20000 in
theorem m_1565 : Cond.code yX12_strike cX12_strike 3 (some .int) ∈ g_tb := gq_in gq_s7 10 rfl rfl
set_option maxRecDepth 20000 in
theorem m_1570 : Cond.methodLink R_law 87 yX12_inherits ∈ g_tb := gq_in gq_s7 15 rfl rfl
set_option maxRecDepth 20000 in
theorem m_1571 : Cond.instanceMethod yX12_inherits ∈ g_tb := gq_in gq_s7 16 rfl rfl
set_option maxRecDepth 20000 in
theorem m_1572 : Cond.selects RX12 yX12_inherits yX12_inherits ∈ g_tb := gq_in gq_s7 17 rfl rfl
set_option maxRecDepth 20000 in
theorem m_1573 : Cond.code yX12_inherits cX12_inherits 6 (some .int) ∈ g_tb := gq_in gq_s7 18 rfl rfl
set_option maxRecDepth 20000 in
theorem m_1581 : Cond.methodLink R_law 91 yX12_longest ∈ g_tb := gq_in gq_s7 26 rfl rfl
set_option maxRecDepth 20000 in
theorem m_1582 : Cond.instanceMethod yX12_longest ∈ g_tb := gq_in gq_s7 27 rfl rfl
set_option maxRecDepth 20000 in
theorem m_1583 : Cond.selects RX12 yX12_longest yX12_longest ∈ g_tb := gq_in gq_s7 28 rfl rfl
set_option maxRecDepth 20000 in
theorem m_1584 : Cond.code yX12_longest cX12_longest 5 (some .int) ∈ g_tb := gq_in gq_s7 29 rfl rfl
set_option maxRecDepth 20000 in
theorem m_1586 : Cond.methodLink R_law 95 yX12_fields ∈ g_tb := gq_in gq_s7 31 rfl rfl
set_option maxRecDepth 20000 in
theorem m_1587 : Cond.instanceMethod yX12_fields ∈ g_tb := gq_in gq_s7 32 rfl rfl
set_option maxRecDepth 20000 in
theorem m_1588 : Cond.selects RX12 yX12_fields yX12_fields ∈ g_tb := gq_in gq_s7 33 rfl rfl
set_option maxRecDepth 20000 in
theorem m_1589 : Cond.code yX12_fields cX12_fields 4 (some .int) ∈ g_tb := gq_in gq_s7 34 rfl rfl
set_option maxRecDepth 20000 in
theorem m_1590 : Cond.methodLink R_law 99 yX12_falls ∈ g_tb := gq_in gq_s7 35 rfl rfl
set_option maxRecDepth 20000 in
theorem m_1591 : Cond.instanceMethod yX12_falls ∈ g_tb := gq_in gq_s7 36 rfl rfl
set_option maxRecDepth 20000 in
theorem m_1592 : Cond.selects RX12 yX12_falls yX12_falls ∈ g_tb := gq_in gq_s7 37 rfl rfl
set_option maxRecDepth 20000 in
theorem m_1593 : Cond.code yX12_falls cX12_falls 5 (some .int) ∈ g_tb := gq_in gq_s7 38 rfl rfl
set_option maxRecDepth 20000 in
theorem m_1594 : Cond.methodLink R_law 103 yX12_examine ∈ g_tb := gq_in gq_s7 39 rfl rfl
set_option maxRecDepth 20000 in
theorem m_1595 : Cond.instanceMethod yX12_examine ∈ g_tb := gq_in gq_s7 40 rfl rfl
set_option maxRecDepth 20000 in
theorem m_1596 : Cond.selects RX12 yX12_examine yX12_examine ∈ g_tb := gq_in gq_s7 41 rfl rfl
set_option maxRecDepth 20000 in
theorem m_1597 : Cond.code yX12_examine cX12_examine 6 (some .int) ∈ g_tb := gq_in gq_s7 42 rfl rfl
set_option maxRecDepth 20000 in
theorem m_1603 : Cond.methodLink R_law 107 yX12_likeliest ∈ g_tb := gq_in gq_s7 48 rfl rfl
set_option maxRecDepth 20000 in
theorem m_1604 : Cond.instanceMethod yX12_likeliest ∈ g_tb := gq_in gq_s7 49 rfl rfl
set_option maxRecDepth 20000 in
theorem m_1605 : Cond.selects RX12 yX12_likeliest yX12_likeliest ∈ g_tb := gq_in gq_s7 50 rfl rfl
set_option maxRecDepth 20000 in
theorem m_1606 : Cond.code yX12_likeliest cX12_likeliest 8 (some .int) ∈ g_tb := gq_in gq_s7 51 rfl rfl
set_option maxRecDepth 20000 in
theorem m_1607 : Cond.methodLink R_law 111 yX12_parts ∈ g_tb := gq_in gq_s7 52 rfl rfl
set_option maxRecDepth 20000 in
theorem m_1608 : Cond.instanceMethod yX12_parts ∈ g_tb := gq_in gq_s7 53 rfl rfl
set_option maxRecDepth 20000 in
theorem m_1609 : Cond.selects RX12 yX12_parts yX12_parts ∈ g_tb := gq_in gq_s7 54 rfl rfl
set_option maxRecDepth 20000 in
theorem m_1610 : Cond.code yX12_parts cX12_parts 5 (some .int) ∈ g_tb := gq_in gq_s7 55 rfl rfl
set_option maxRecDepth 20000 in
theorem m_1615 : Cond.methodLink R_law 115 yX12_ways ∈ g_tb := gq_in gq_s7 60 rfl rfl
set_option maxRecDepth 20000 in
theorem m_1616 : Cond.instanceMethod yX12_ways ∈ g_tb := gq_in gq_s7 61 rfl rfl
set_option maxRecDepth 20000 in
theorem m_1617 : Cond.selects RX12 yX12_ways yX12_ways ∈ g_tb := gq_in gq_s7 62 rfl rfl
set_option maxRecDepth 20000 in
theorem m_1618 : Cond.code yX12_ways cX12_ways 2 (some .int) ∈ g_tb := gq_in gq_s7 63 rfl rfl
set_option maxRecDepth 20000 in
theorem m_1639 : Cond.methodLink R_law 119 yX12_taught ∈ g_tb := gq_in gq_s7 84 rfl rfl
set_option maxRecDepth 20000 in
theorem m_1640 : Cond.instanceMethod yX12_taught ∈ g_tb := gq_in gq_s7 85 rfl rfl
set_option maxRecDepth 20000 in
theorem m_1641 : Cond.selects RX12 yX12_taught yX12_taught ∈ g_tb := gq_in gq_s7 86 rfl rfl
set_option maxRecDepth 20000 in
theorem m_1642 : Cond.code yX12_taught cX12_taught 4 (some .int) ∈ g_tb := gq_in gq_s7 87 rfl rfl
set_option maxRecDepth 20000 in
theorem m_1643 : Cond.methodLink R_law 123 yX12_prompts ∈ g_tb := gq_in gq_s7 88 rfl rfl
set_option maxRecDepth 20000 in
theorem m_1644 : Cond.instanceMethod yX12_prompts ∈ g_tb := gq_in gq_s7 89 rfl rfl
set_option maxRecDepth 20000 in
theorem m_1645 : Cond.selects RX12 yX12_prompts yX12_prompts ∈ g_tb := gq_in gq_s7 90 rfl rfl
set_option maxRecDepth 20000 in
theorem m_1646 : Cond.code yX12_prompts cX12_prompts 7 (some .int) ∈ g_tb := gq_in gq_s7 91 rfl rfl
set_option maxRecDepth 20000 in
theorem m_1652 : Cond.methodLink R_law 127 yX12_cost ∈ g_tb := gq_in gq_s7 97 rfl rfl
set_option maxRecDepth 20000 in
theorem m_1653 : Cond.instanceMethod yX12_cost ∈ g_tb := gq_in gq_s7 98 rfl rfl
set_option maxRecDepth 20000 in
theorem m_1654 : Cond.selects RX12 yX12_cost yX12_cost ∈ g_tb := gq_in gq_s7 99 rfl rfl
set_option maxRecDepth 20000 in
theorem m_1655 : Cond.code yX12_cost cX12_cost 4 (some .int) ∈ g_tb := gq_in gq_s7 100 rfl rfl
set_option maxRecDepth 20000 in
theorem m_1656 : Cond.methodLink R_law 131 yX12_seed ∈ g_tb := gq_in gq_s7 101 rfl rfl
set_option maxRecDepth 20000 in
theorem m_1657 : Cond.instanceMethod yX12_seed ∈ g_tb := gq_in gq_s7 102 rfl rfl
set_option maxRecDepth 20000 in
theorem m_1658 : Cond.selects RX12 yX12_seed yX12_seed ∈ g_tb := gq_in gq_s7 103 rfl rfl
set_option maxRecDepth 20000 in
theorem m_1659 : Cond.code yX12_seed cX12_seed 3 (some .int) ∈ g_tb := gq_in gq_s7 104 rfl rfl
set_option maxRecDepth 20000 in
theorem m_1660 : Cond.methodLink R_law 135 yX12_drawn ∈ g_tb := gq_in gq_s7 105 rfl rfl
set_option maxRecDepth 20000 in
theorem m_1661 : Cond.instanceMethod yX12_drawn ∈ g_tb := gq_in gq_s7 106 rfl rfl
set_option maxRecDepth 20000 in
theorem m_1662 : Cond.selects RX12 yX12_drawn yX12_drawn ∈ g_tb := gq_in gq_s7 107 rfl rfl
set_option maxRecDepth 20000 in
theorem m_1663 : Cond.code yX12_drawn cX12_drawn 8 (some .int) ∈ g_tb := gq_in gq_s7 108 rfl rfl
set_option maxRecDepth 20000 in
theorem m_1682 : Cond.methodLink R_law 139 yX12_count ∈ g_tb := gq_in gq_s7 127 rfl rfl
set_option maxRecDepth 20000 in
theorem m_1683 : Cond.instanceMethod yX12_count ∈ g_tb := gq_in gq_s7 128 rfl rfl
set_option maxRecDepth 20000 in
theorem m_1684 : Cond.selects RX12 yX12_count yX12_count ∈ g_tb := gq_in gq_s7 129 rfl rfl
set_option maxRecDepth 20000 in
theorem m_1685 : Cond.code yX12_count cX12_count 2 (some .int) ∈ g_tb := gq_in gq_s7 130 rfl rfl
set_option maxRecDepth 20000 in
theorem m_1686 : Cond.methodLink R_law 143 yX12_image ∈ g_tb := gq_in gq_s7 131 rfl rfl
set_option maxRecDepth 20000 in
theorem m_1687 : Cond.instanceMethod yX12_image ∈ g_tb := gq_in gq_s7 132 rfl rfl
set_option maxRecDepth 20000 in
theorem m_1688 : Cond.selects RX12 yX12_image yX12_image ∈ g_tb := gq_in gq_s7 133 rfl rfl
set_option maxRecDepth 20000 in
theorem m_1689 : Cond.code yX12_image cX12_image 3 (some .int) ∈ g_tb := gq_in gq_s7 134 rfl rfl
set_option maxRecDepth 20000 in
theorem m_1691 : Cond.methodLink R_law 147 yX12_back ∈ g_tb := gq_in gq_s7 136 rfl rfl
set_option maxRecDepth 20000 in
theorem m_1692 : Cond.instanceMethod yX12_back ∈ g_tb := gq_in gq_s7 137 rfl rfl
set_option maxRecDepth 20000 in
theorem m_1693 : Cond.selects RX12 yX12_back yX12_back ∈ g_tb := gq_in gq_s7 138 rfl rfl
set_option maxRecDepth 20000 in
theorem m_1694 : Cond.code yX12_back cX12_back 3 (some .int) ∈ g_tb := gq_in gq_s7 139 rfl rfl
theorem yc_X11_ahead : g_ycl yX11_ahead 2 := ⟨by decide +kernel, by decide +kernel, by decide +kernel⟩
theorem yc_X11_ask : g_ycl yX11_ask 2 := ⟨by decide +kernel, by decide +kernel, by decide +kernel⟩
theorem yc_X11_back : g_ycl yX11_back 1 := ⟨by decide +kernel, by decide +kernel, by decide +kernel⟩
theorem yc_X11_burn : g_ycl yX11_burn 1 := ⟨by decide +kernel, by decide +kernel, by decide +kernel⟩
theorem yc_X11_cost : g_ycl yX11_cost 1 := ⟨by decide +kernel, by decide +kernel, by decide +kernel⟩
theorem yc_X11_count : g_ycl yX11_count 1 := ⟨by decide +kernel, by decide +kernel, by decide +kernel⟩
theorem yc_X11_drawn : g_ycl yX11_drawn 3 := ⟨by decide +kernel, by decide +kernel, by decide +kernel⟩
theorem yc_X11_end : g_ycl yX11_end 1 := ⟨by decide +kernel, by decide +kernel, by decide +kernel⟩
theorem yc_X11_examine : g_ycl yX11_examine 1 := ⟨by decide +kernel, by decide +kernel, by decide +kernel⟩
theorem yc_X11_falls : g_ycl yX11_falls 1 := ⟨by decide +kernel, by decide +kernel, by decide +kernel⟩
theorem yc_X11_feed : g_ycl yX11_feed 5 := ⟨by decide +kernel, by decide +kernel, by decide +kernel⟩
theorem yc_X11_fields : g_ycl yX11_fields 1 := ⟨by decide +kernel, by decide +kernel, by decide +kernel⟩
theorem yc_X11_force : g_ycl yX11_force 1 := ⟨by decide +kernel, by decide +kernel, by decide +kernel⟩
theorem yc_X11_heir : g_ycl yX11_heir 2 := ⟨by decide +kernel, by decide +kernel, by decide +kernel⟩
theorem yc_X11_house : g_ycl yX11_house 0 := ⟨by decide +kernel, by decide +kernel, by decide +kernel⟩
theorem yc_X11_image : g_ycl yX11_image 1 := ⟨by decide +kernel, by decide +kernel, by decide +kernel⟩
theorem yc_X11_inherits : g_ycl yX11_inherits 1 := ⟨by decide +kernel, by decide +kernel, by decide +kernel⟩
theorem yc_X11_init : g_ycl yX11_init 0 := ⟨by decide +kernel, by decide +kernel, by decide +kernel⟩
theorem yc_X11_knows : g_ycl yX11_knows 3 := ⟨by decide +kernel, by decide +kernel, by decide +kernel⟩
theorem yc_X11_likeliest : g_ycl yX11_likeliest 2 := ⟨by decide +kernel, by decide +kernel, by decide +kernel⟩
theorem yc_X11_longest : g_ycl yX11_longest 0 := ⟨by decide +kernel, by decide +kernel, by decide +kernel⟩
theorem yc_X11_parts : g_ycl yX11_parts 2 := ⟨by decide +kernel, by decide +kernel, by decide +kernel⟩
theorem yc_X11_prompt : g_ycl yX11_prompt 2 := ⟨by decide +kernel, by decide +kernel, by decide +kernel⟩
theorem yc_X11_prompts : g_ycl yX11_prompts 3 := ⟨by decide +kernel, by decide +kernel, by decide +kernel⟩
theorem yc_X11_rule : g_ycl yX11_rule 0 := ⟨by decide +kernel, by decide +kernel, by decide +kernel⟩
theorem yc_X11_seed : g_ycl yX11_seed 1 := ⟨by decide +kernel, by decide +kernel, by decide +kernel⟩
theorem yc_X11_strike : g_ycl yX11_strike 1 := ⟨by decide +kernel, by decide +kernel, by decide +kernel⟩
theorem yc_X11_taught : g_ycl yX11_taught 2 := ⟨by decide +kernel, by decide +kernel, by decide +kernel⟩
theorem yc_X11_tell : g_ycl yX11_tell 4 := ⟨by decide +kernel, by decide +kernel, by decide +kernel⟩
theorem yc_X11_thing : g_ycl yX11_thing 2 := ⟨by decide +kernel, by decide +kernel, by decide +kernel⟩
theorem yc_X11_undo : g_ycl yX11_undo 0 := ⟨by decide +kernel, by decide +kernel, by decide +kernel⟩
theorem yc_X11_ways : g_ycl yX11_ways 1 := ⟨by decide +kernel, by decide +kernel, by decide +kernel⟩
theorem yc_X11_year : g_ycl yX11_year 0 := ⟨by decide +kernel, by decide +kernel, by decide +kernel⟩
theorem yc_X12_ahead : g_ycl yX12_ahead 2 := ⟨by decide +kernel, by decide +kernel, by decide +kernel⟩
theorem yc_X12_ask : g_ycl yX12_ask 2 := ⟨by decide +kernel, by decide +kernel, by decide +kernel⟩
theorem yc_X12_back : g_ycl yX12_back 1 := ⟨by decide +kernel, by decide +kernel, by decide +kernel⟩
theorem yc_X12_burn : g_ycl yX12_burn 1 := ⟨by decide +kernel, by decide +kernel, by decide +kernel⟩
theorem yc_X12_cost : g_ycl yX12_cost 1 := ⟨by decide +kernel, by decide +kernel, by decide +kernel⟩
theorem yc_X12_count : g_ycl yX12_count 1 := ⟨by decide +kernel, by decide +kernel, by decide +kernel⟩
theorem yc_X12_drawn : g_ycl yX12_drawn 3 := ⟨by decide +kernel, by decide +kernel, by decide +kernel⟩
theorem yc_X12_end : g_ycl yX12_end 1 := ⟨by decide +kernel, by decide +kernel, by decide +kernel⟩
theorem yc_X12_examine : g_ycl yX12_examine 1 := ⟨by decide +kernel, by decide +kernel, by decide +kernel⟩
theorem yc_X12_falls : g_ycl yX12_falls 1 := ⟨by decide +kernel, by decide +kernel, by decide +kernel⟩
theorem yc_X12_feed : g_ycl yX12_feed 5 := ⟨by decide +kernel, by decide +kernel, by decide +kernel⟩
theorem yc_X12_fields : g_ycl yX12_fields 1 := ⟨by decide +kernel, by decide +kernel, by decide +kernel⟩
theorem yc_X12_force : g_ycl yX12_force 1 := ⟨by decide +kernel, by decide +kernel, by decide +kernel⟩
theorem yc_X12_heir : g_ycl yX12_heir 2 := ⟨by decide +kernel, by decide +kernel, by decide +kernel⟩
theorem yc_X12_house : g_ycl yX12_house 0 := ⟨by decide +kernel, by decide +kernel, by decide +kernel⟩
theorem yc_X12_image : g_ycl yX12_image 1 := ⟨by decide +kernel, by decide +kernel, by decide +kernel⟩
theorem yc_X12_inherits : g_ycl yX12_inherits 1 := ⟨by decide +kernel, by decide +kernel, by decide +kernel⟩
theorem yc_X12_init : g_ycl yX12_init 0 := ⟨by decide +kernel, by decide +kernel, by decide +kernel⟩
theorem yc_X12_knows : g_ycl yX12_knows 3 := ⟨by decide +kernel, by decide +kernel, by decide +kernel⟩
theorem yc_X12_likeliest : g_ycl yX12_likeliest 2 := ⟨by decide +kernel, by decide +kernel, by decide +kernel⟩
theorem yc_X12_longest : g_ycl yX12_longest 0 := ⟨by decide +kernel, by decide +kernel, by decide +kernel⟩
theorem yc_X12_parts : g_ycl yX12_parts 2 := ⟨by decide +kernel, by decide +kernel, by decide +kernel⟩
theorem yc_X12_prompt : g_ycl yX12_prompt 2 := ⟨by decide +kernel, by decide +kernel, by decide +kernel⟩
theorem yc_X12_prompts : g_ycl yX12_prompts 3 := ⟨by decide +kernel, by decide +kernel, by decide +kernel⟩
theorem yc_X12_rule : g_ycl yX12_rule 0 := ⟨by decide +kernel, by decide +kernel, by decide +kernel⟩
theorem yc_X12_seed : g_ycl yX12_seed 1 := ⟨by decide +kernel, by decide +kernel, by decide +kernel⟩
theorem yc_X12_strike : g_ycl yX12_strike 1 := ⟨by decide +kernel, by decide +kernel, by decide +kernel⟩
theorem yc_X12_taught : g_ycl yX12_taught 2 := ⟨by decide +kernel, by decide +kernel, by decide +kernel⟩
theorem yc_X12_tell : g_ycl yX12_tell 4 := ⟨by decide +kernel, by decide +kernel, by decide +kernel⟩
theorem yc_X12_thing : g_ycl yX12_thing 2 := ⟨by decide +kernel, by decide +kernel, by decide +kernel⟩
theorem yc_X12_undo : g_ycl yX12_undo 0 := ⟨by decide +kernel, by decide +kernel, by decide +kernel⟩
theorem yc_X12_ways : g_ycl yX12_ways 1 := ⟨by decide +kernel, by decide +kernel, by decide +kernel⟩
theorem yc_X12_year : g_ycl yX12_year 0 := ⟨by decide +kernel, by decide +kernel, by decide +kernel⟩
/-! ForgetHeirsLaw.law([I)Z -/
theorem d_L_law_0 : decode code 0 = .ok (.new 7, 3) := by decide +kernel
theorem d_L_law_3 : decode code 3 = .ok (.dup, 1) := by decide +kernel
theorem d_L_law_4 : decode code 4 = .ok (.invokespecial 9, 3) := by decide +kernel
theorem d_L_law_7 : decode code 7 = .ok (.astore_n 1, 1) := by decide +kernel
theorem d_L_law_8 : decode code 8 = .ok (.new 10, 3) := by decide +kernel
theorem d_L_law_11 : decode code 11 = .ok (.dup, 1) := by decide +kernel
theorem d_L_law_12 : decode code 12 = .ok (.invokespecial 12, 3) := by decide +kernel
theorem d_L_law_15 : decode code 15 = .ok (.astore_n 2, 1) := by decide +kernel
theorem d_L_law_16 : decode code 16 = .ok (.iconst 0, 1) := by decide +kernel
theorem d_L_law_17 : decode code 17 = .ok (.istore_n 3, 1) := by decide +kernel
theorem d_L_law_18 : decode code 18 = .ok (.iload_n 3, 1) := by decide +kernel
theorem d_L_law_19 : decode code 19 = .ok (.aload_n 0, 1) := by decide +kernel
theorem d_L_law_20 : decode code 20 = .ok (.arraylength, 1) := by decide +kernel
theorem d_L_law_21 : decode code 21 = .ok (.bipush 6, 2) := by decide +kernel
theorem d_L_law_23 : decode code 23 = .ok (.isub, 1) := by decide +kernel
theorem d_L_law_24 : decode code 24 = .ok (.if_icmp .gt 1070, 3) := by decide +kernel
theorem d_L_law_27 : decode code 27 = .ok (.aload_n 0, 1) := by decide +kernel
theorem d_L_law_28 : decode code 28 = .ok (.iload_n 3, 1) := by decide +kernel
theorem d_L_law_29 : decode code 29 = .ok (.iaload, 1) := by decide +kernel
theorem d_L_law_30 : decode code 30 = .ok (.bipush 31, 2) := by decide +kernel
theorem d_L_law_32 : decode code 32 = .ok (.iand, 1) := by decide +kernel
theorem d_L_law_33 : decode code 33 = .ok (.tableswitch 1055 0 31 #[143, 206, 229, 242, 255, 278, 311, 344, 387, 400, 469, 502, 535, 558, 571, 604, 627, 650, 663, 686, 709, 732, 765, 798, 821, 854, 897, 920, 943, 986, 1009, 1032], 143) := by decide +kernel
theorem d_L_law_176 : decode code 176 = .ok (.aload_n 1, 1) := by decide +kernel
theorem d_L_law_177 : decode code 177 = .ok (.aload_n 0, 1) := by decide +kernel
theorem d_L_law_178 : decode code 178 = .ok (.iload_n 3, 1) := by decide +kernel
theorem d_L_law_179 : decode code 179 = .ok (.iconst 1, 1) := by decide +kernel
theorem d_L_law_180 : decode code 180 = .ok (.iadd, 1) := by decide +kernel
theorem d_L_law_181 : decode code 181 = .ok (.iaload, 1) := by decide +kernel
theorem d_L_law_182 : decode code 182 = .ok (.aload_n 0, 1) := by decide +kernel
theorem d_L_law_183 : decode code 183 = .ok (.iload_n 3, 1) := by decide +kernel
theorem d_L_law_184 : decode code 184 = .ok (.iconst 2, 1) := by decide +kernel
theorem d_L_law_185 : decode code 185 = .ok (.iadd, 1) := by decide +kernel
theorem d_L_law_186 : decode code 186 = .ok (.iaload, 1) := by decide +kernel
theorem d_L_law_187 : decode code 187 = .ok (.aload_n 0, 1) := by decide +kernel
theorem d_L_law_188 : decode code 188 = .ok (.iload_n 3, 1) := by decide +kernel
theorem d_L_law_189 : decode code 189 = .ok (.iconst 3, 1) := by decide +kernel
theorem d_L_law_190 : decode code 190 = .ok (.iadd, 1) := by decide +kernel
theorem d_L_law_191 : decode code 191 = .ok (.iaload, 1) := by decide +kernel
theorem d_L_law_192 : decode code 192 = .ok (.aload_n 0, 1) := by decide +kernel
theorem d_L_law_193 : decode code 193 = .ok (.iload_n 3, 1) := by decide +kernel
theorem d_L_law_194 : decode code 194 = .ok (.iconst 4, 1) := by decide +kernel
theorem d_L_law_195 : decode code 195 = .ok (.iadd, 1) := by decide +kernel
theorem d_L_law_196 : decode code 196 = .ok (.iaload, 1) := by decide +kernel
theorem d_L_law_197 : decode code 197 = .ok (.aload_n 0, 1) := by decide +kernel
theorem d_L_law_198 : decode code 198 = .ok (.iload_n 3, 1) := by decide +kernel
theorem d_L_law_199 : decode code 199 = .ok (.iconst 5, 1) := by decide +kernel
theorem d_L_law_200 : decode code 200 = .ok (.iadd, 1) := by decide +kernel
theorem d_L_law_201 : decode code 201 = .ok (.iaload, 1) := by decide +kernel
theorem d_L_law_202 : decode code 202 = .ok (.invokevirtual 13, 3) := by decide +kernel
theorem d_L_law_205 : decode code 205 = .ok (.pop, 1) := by decide +kernel
theorem d_L_law_206 : decode code 206 = .ok (.aload_n 2, 1) := by decide +kernel
theorem d_L_law_207 : decode code 207 = .ok (.aload_n 0, 1) := by decide +kernel
theorem d_L_law_208 : decode code 208 = .ok (.iload_n 3, 1) := by decide +kernel
theorem d_L_law_209 : decode code 209 = .ok (.iconst 1, 1) := by decide +kernel
theorem d_L_law_210 : decode code 210 = .ok (.iadd, 1) := by decide +kernel
theorem d_L_law_211 : decode code 211 = .ok (.iaload, 1) := by decide +kernel
theorem d_L_law_212 : decode code 212 = .ok (.aload_n 0, 1) := by decide +kernel
theorem d_L_law_213 : decode code 213 = .ok (.iload_n 3, 1) := by decide +kernel
theorem d_L_law_214 : decode code 214 = .ok (.iconst 2, 1) := by decide +kernel
theorem d_L_law_215 : decode code 215 = .ok (.iadd, 1) := by decide +kernel
theorem d_L_law_216 : decode code 216 = .ok (.iaload, 1) := by decide +kernel
theorem d_L_law_217 : decode code 217 = .ok (.aload_n 0, 1) := by decide +kernel
theorem d_L_law_218 : decode code 218 = .ok (.iload_n 3, 1) := by decide +kernel
theorem d_L_law_219 : decode code 219 = .ok (.iconst 3, 1) := by decide +kernel
theorem d_L_law_220 : decode code 220 = .ok (.iadd, 1) := by decide +kernel
theorem d_L_law_221 : decode code 221 = .ok (.iaload, 1) := by decide +kernel
theorem d_L_law_222 : decode code 222 = .ok (.aload_n 0, 1) := by decide +kernel
theorem d_L_law_223 : decode code 223 = .ok (.iload_n 3, 1) := by decide +kernel
theorem d_L_law_224 : decode code 224 = .ok (.iconst 4, 1) := by decide +kernel
theorem d_L_law_225 : decode code 225 = .ok (.iadd, 1) := by decide +kernel
theorem d_L_law_226 : decode code 226 = .ok (.iaload, 1) := by decide +kernel
theorem d_L_law_227 : decode code 227 = .ok (.aload_n 0, 1) := by decide +kernel
theorem d_L_law_228 : decode code 228 = .ok (.iload_n 3, 1) := by decide +kernel
theorem d_L_law_229 : decode code 229 = .ok (.iconst 5, 1) := by decide +kernel
theorem d_L_law_230 : decode code 230 = .ok (.iadd, 1) := by decide +kernel
theorem d_L_law_231 : decode code 231 = .ok (.iaload, 1) := by decide +kernel
theorem d_L_law_232 : decode code 232 = .ok (.invokevirtual 17, 3) := by decide +kernel
theorem d_L_law_235 : decode code 235 = .ok (.pop, 1) := by decide +kernel
theorem d_L_law_236 : decode code 236 = .ok (.goto 852, 3) := by decide +kernel
theorem d_L_law_239 : decode code 239 = .ok (.aload_n 1, 1) := by decide +kernel
theorem d_L_law_240 : decode code 240 = .ok (.aload_n 0, 1) := by decide +kernel
theorem d_L_law_241 : decode code 241 = .ok (.iload_n 3, 1) := by decide +kernel
theorem d_L_law_242 : decode code 242 = .ok (.iconst 1, 1) := by decide +kernel
theorem d_L_law_243 : decode code 243 = .ok (.iadd, 1) := by decide +kernel
theorem d_L_law_244 : decode code 244 = .ok (.iaload, 1) := by decide +kernel
theorem d_L_law_245 : decode code 245 = .ok (.invokevirtual 18, 3) := by decide +kernel
theorem d_L_law_248 : decode code 248 = .ok (.pop, 1) := by decide +kernel
theorem d_L_law_249 : decode code 249 = .ok (.aload_n 2, 1) := by decide +kernel
theorem d_L_law_250 : decode code 250 = .ok (.aload_n 0, 1) := by decide +kernel
theorem d_L_law_251 : decode code 251 = .ok (.iload_n 3, 1) := by decide +kernel
theorem d_L_law_252 : decode code 252 = .ok (.iconst 1, 1) := by decide +kernel
theorem d_L_law_253 : decode code 253 = .ok (.iadd, 1) := by decide +kernel
theorem d_L_law_254 : decode code 254 = .ok (.iaload, 1) := by decide +kernel
theorem d_L_law_255 : decode code 255 = .ok (.invokevirtual 22, 3) := by decide +kernel
theorem d_L_law_258 : decode code 258 = .ok (.pop, 1) := by decide +kernel
theorem d_L_law_259 : decode code 259 = .ok (.goto 829, 3) := by decide +kernel
theorem d_L_law_262 : decode code 262 = .ok (.aload_n 1, 1) := by decide +kernel
theorem d_L_law_263 : decode code 263 = .ok (.invokevirtual 23, 3) := by decide +kernel
theorem d_L_law_266 : decode code 266 = .ok (.pop, 1) := by decide +kernel
theorem d_L_law_267 : decode code 267 = .ok (.aload_n 2, 1) := by decide +kernel
theorem d_L_law_268 : decode code 268 = .ok (.invokevirtual 27, 3) := by decide +kernel
theorem d_L_law_271 : decode code 271 = .ok (.pop, 1) := by decide +kernel
theorem d_L_law_272 : decode code 272 = .ok (.goto 816, 3) := by decide +kernel
theorem d_L_law_275 : decode code 275 = .ok (.aload_n 1, 1) := by decide +kernel
theorem d_L_law_276 : decode code 276 = .ok (.invokevirtual 28, 3) := by decide +kernel
theorem d_L_law_279 : decode code 279 = .ok (.pop, 1) := by decide +kernel
theorem d_L_law_280 : decode code 280 = .ok (.aload_n 2, 1) := by decide +kernel
theorem d_L_law_281 : decode code 281 = .ok (.invokevirtual 31, 3) := by decide +kernel
theorem d_L_law_284 : decode code 284 = .ok (.pop, 1) := by decide +kernel
theorem d_L_law_285 : decode code 285 = .ok (.goto 803, 3) := by decide +kernel
theorem d_L_law_288 : decode code 288 = .ok (.aload_n 1, 1) := by decide +kernel
theorem d_L_law_289 : decode code 289 = .ok (.aload_n 0, 1) := by decide +kernel
theorem d_L_law_290 : decode code 290 = .ok (.iload_n 3, 1) := by decide +kernel
theorem d_L_law_291 : decode code 291 = .ok (.iconst 1, 1) := by decide +kernel
theorem d_L_law_292 : decode code 292 = .ok (.iadd, 1) := by decide +kernel
theorem d_L_law_293 : decode code 293 = .ok (.iaload, 1) := by decide +kernel
theorem d_L_law_294 : decode code 294 = .ok (.invokevirtual 32, 3) := by decide +kernel
theorem d_L_law_297 : decode code 297 = .ok (.pop, 1) := by decide +kernel
theorem d_L_law_298 : decode code 298 = .ok (.aload_n 2, 1) := by decide +kernel
theorem d_L_law_299 : decode code 299 = .ok (.aload_n 0, 1) := by decide +kernel
theorem d_L_law_300 : decode code 300 = .ok (.iload_n 3, 1) := by decide +kernel
theorem d_L_law_301 : decode code 301 = .ok (.iconst 1, 1) := by decide +kernel
theorem d_L_law_302 : decode code 302 = .ok (.iadd, 1) := by decide +kernel
theorem d_L_law_303 : decode code 303 = .ok (.iaload, 1) := by decide +kernel
theorem d_L_law_304 : decode code 304 = .ok (.invokevirtual 35, 3) := by decide +kernel
theorem d_L_law_307 : decode code 307 = .ok (.pop, 1) := by decide +kernel
theorem d_L_law_308 : decode code 308 = .ok (.goto 780, 3) := by decide +kernel
theorem d_L_law_311 : decode code 311 = .ok (.aload_n 1, 1) := by decide +kernel
theorem d_L_law_312 : decode code 312 = .ok (.aload_n 0, 1) := by decide +kernel
theorem d_L_law_313 : decode code 313 = .ok (.iload_n 3, 1) := by decide +kernel
theorem d_L_law_314 : decode code 314 = .ok (.iconst 1, 1) := by decide +kernel
theorem d_L_law_315 : decode code 315 = .ok (.iadd, 1) := by decide +kernel
theorem d_L_law_316 : decode code 316 = .ok (.iaload, 1) := by decide +kernel
theorem d_L_law_317 : decode code 317 = .ok (.aload_n 0, 1) := by decide +kernel
theorem d_L_law_318 : decode code 318 = .ok (.iload_n 3, 1) := by decide +kernel
theorem d_L_law_319 : decode code 319 = .ok (.iconst 2, 1) := by decide +kernel
theorem d_L_law_320 : decode code 320 = .ok (.iadd, 1) := by decide +kernel
theorem d_L_law_321 : decode code 321 = .ok (.iaload, 1) := by decide +kernel
theorem d_L_law_322 : decode code 322 = .ok (.invokevirtual 36, 3) := by decide +kernel
theorem d_L_law_325 : decode code 325 = .ok (.pop, 1) := by decide +kernel
theorem d_L_law_326 : decode code 326 = .ok (.aload_n 2, 1) := by decide +kernel
theorem d_L_law_327 : decode code 327 = .ok (.aload_n 0, 1) := by decide +kernel
theorem d_L_law_328 : decode code 328 = .ok (.iload_n 3, 1) := by decide +kernel
theorem d_L_law_329 : decode code 329 = .ok (.iconst 1, 1) := by decide +kernel
theorem d_L_law_330 : decode code 330 = .ok (.iadd, 1) := by decide +kernel
theorem d_L_law_331 : decode code 331 = .ok (.iaload, 1) := by decide +kernel
theorem d_L_law_332 : decode code 332 = .ok (.aload_n 0, 1) := by decide +kernel
theorem d_L_law_333 : decode code 333 = .ok (.iload_n 3, 1) := by decide +kernel
theorem d_L_law_334 : decode code 334 = .ok (.iconst 2, 1) := by decide +kernel
theorem d_L_law_335 : decode code 335 = .ok (.iadd, 1) := by decide +kernel
theorem d_L_law_336 : decode code 336 = .ok (.iaload, 1) := by decide +kernel
theorem d_L_law_337 : decode code 337 = .ok (.invokevirtual 40, 3) := by decide +kernel
theorem d_L_law_340 : decode code 340 = .ok (.pop, 1) := by decide +kernel
theorem d_L_law_341 : decode code 341 = .ok (.goto 747, 3) := by decide +kernel
theorem d_L_law_344 : decode code 344 = .ok (.aload_n 1, 1) := by decide +kernel
theorem d_L_law_345 : decode code 345 = .ok (.aload_n 0, 1) := by decide +kernel
theorem d_L_law_346 : decode code 346 = .ok (.iload_n 3, 1) := by decide +kernel
theorem d_L_law_347 : decode code 347 = .ok (.iconst 1, 1) := by decide +kernel
theorem d_L_law_348 : decode code 348 = .ok (.iadd, 1) := by decide +kernel
theorem d_L_law_349 : decode code 349 = .ok (.iaload, 1) := by decide +kernel
theorem d_L_law_350 : decode code 350 = .ok (.aload_n 0, 1) := by decide +kernel
theorem d_L_law_351 : decode code 351 = .ok (.iload_n 3, 1) := by decide +kernel
theorem d_L_law_352 : decode code 352 = .ok (.iconst 2, 1) := by decide +kernel
theorem d_L_law_353 : decode code 353 = .ok (.iadd, 1) := by decide +kernel
theorem d_L_law_354 : decode code 354 = .ok (.iaload, 1) := by decide +kernel
theorem d_L_law_355 : decode code 355 = .ok (.invokevirtual 41, 3) := by decide +kernel
theorem d_L_law_358 : decode code 358 = .ok (.pop, 1) := by decide +kernel
theorem d_L_law_359 : decode code 359 = .ok (.aload_n 2, 1) := by decide +kernel
theorem d_L_law_360 : decode code 360 = .ok (.aload_n 0, 1) := by decide +kernel
theorem d_L_law_361 : decode code 361 = .ok (.iload_n 3, 1) := by decide +kernel
theorem d_L_law_362 : decode code 362 = .ok (.iconst 1, 1) := by decide +kernel
theorem d_L_law_363 : decode code 363 = .ok (.iadd, 1) := by decide +kernel
theorem d_L_law_364 : decode code 364 = .ok (.iaload, 1) := by decide +kernel
theorem d_L_law_365 : decode code 365 = .ok (.aload_n 0, 1) := by decide +kernel
theorem d_L_law_366 : decode code 366 = .ok (.iload_n 3, 1) := by decide +kernel
theorem d_L_law_367 : decode code 367 = .ok (.iconst 2, 1) := by decide +kernel
theorem d_L_law_368 : decode code 368 = .ok (.iadd, 1) := by decide +kernel
theorem d_L_law_369 : decode code 369 = .ok (.iaload, 1) := by decide +kernel
theorem d_L_law_370 : decode code 370 = .ok (.invokevirtual 44, 3) := by decide +kernel
theorem d_L_law_373 : decode code 373 = .ok (.pop, 1) := by decide +kernel
theorem d_L_law_374 : decode code 374 = .ok (.goto 714, 3) := by decide +kernel
theorem d_L_law_377 : decode code 377 = .ok (.aload_n 1, 1) := by decide +kernel
theorem d_L_law_378 : decode code 378 = .ok (.aload_n 0, 1) := by decide +kernel
theorem d_L_law_379 : decode code 379 = .ok (.iload_n 3, 1) := by decide +kernel
theorem d_L_law_380 : decode code 380 = .ok (.iconst 1, 1) := by decide +kernel
theorem d_L_law_381 : decode code 381 = .ok (.iadd, 1) := by decide +kernel
theorem d_L_law_382 : decode code 382 = .ok (.iaload, 1) := by decide +kernel
theorem d_L_law_383 : decode code 383 = .ok (.aload_n 0, 1) := by decide +kernel
theorem d_L_law_384 : decode code 384 = .ok (.iload_n 3, 1) := by decide +kernel
theorem d_L_law_385 : decode code 385 = .ok (.iconst 2, 1) := by decide +kernel
theorem d_L_law_386 : decode code 386 = .ok (.iadd, 1) := by decide +kernel
theorem d_L_law_387 : decode code 387 = .ok (.iaload, 1) := by decide +kernel
theorem d_L_law_388 : decode code 388 = .ok (.aload_n 0, 1) := by decide +kernel
theorem d_L_law_389 : decode code 389 = .ok (.iload_n 3, 1) := by decide +kernel
theorem d_L_law_390 : decode code 390 = .ok (.iconst 3, 1) := by decide +kernel
theorem d_L_law_391 : decode code 391 = .ok (.iadd, 1) := by decide +kernel
theorem d_L_law_392 : decode code 392 = .ok (.iaload, 1) := by decide +kernel
theorem d_L_law_393 : decode code 393 = .ok (.invokevirtual 45, 3) := by decide +kernel
theorem d_L_law_396 : decode code 396 = .ok (.pop, 1) := by decide +kernel
theorem d_L_law_397 : decode code 397 = .ok (.aload_n 2, 1) := by decide +kernel
theorem d_L_law_398 : decode code 398 = .ok (.aload_n 0, 1) := by decide +kernel
theorem d_L_law_399 : decode code 399 = .ok (.iload_n 3, 1) := by decide +kernel
theorem d_L_law_400 : decode code 400 = .ok (.iconst 1, 1) := by decide +kernel
theorem d_L_law_401 : decode code 401 = .ok (.iadd, 1) := by decide +kernel
theorem d_L_law_402 : decode code 402 = .ok (.iaload, 1) := by decide +kernel
theorem d_L_law_403 : decode code 403 = .ok (.aload_n 0, 1) := by decide +kernel
theorem d_L_law_404 : decode code 404 = .ok (.iload_n 3, 1) := by decide +kernel
theorem d_L_law_405 : decode code 405 = .ok (.iconst 2, 1) := by decide +kernel
theorem d_L_law_406 : decode code 406 = .ok (.iadd, 1) := by decide +kernel
theorem d_L_law_407 : decode code 407 = .ok (.iaload, 1) := by decide +kernel
theorem d_L_law_408 : decode code 408 = .ok (.aload_n 0, 1) := by decide +kernel
theorem d_L_law_409 : decode code 409 = .ok (.iload_n 3, 1) := by decide +kernel
theorem d_L_law_410 : decode code 410 = .ok (.iconst 3, 1) := by decide +kernel
theorem d_L_law_411 : decode code 411 = .ok (.iadd, 1) := by decide +kernel
theorem d_L_law_412 : decode code 412 = .ok (.iaload, 1) := by decide +kernel
theorem d_L_law_413 : decode code 413 = .ok (.invokevirtual 49, 3) := by decide +kernel
theorem d_L_law_416 : decode code 416 = .ok (.pop, 1) := by decide +kernel
theorem d_L_law_417 : decode code 417 = .ok (.goto 671, 3) := by decide +kernel
theorem d_L_law_420 : decode code 420 = .ok (.aload_n 1, 1) := by decide +kernel
theorem d_L_law_421 : decode code 421 = .ok (.invokevirtual 50, 3) := by decide +kernel
theorem d_L_law_424 : decode code 424 = .ok (.pop, 1) := by decide +kernel
theorem d_L_law_425 : decode code 425 = .ok (.aload_n 2, 1) := by decide +kernel
theorem d_L_law_426 : decode code 426 = .ok (.invokevirtual 53, 3) := by decide +kernel
theorem d_L_law_429 : decode code 429 = .ok (.pop, 1) := by decide +kernel
theorem d_L_law_430 : decode code 430 = .ok (.goto 658, 3) := by decide +kernel
theorem d_L_law_433 : decode code 433 = .ok (.aload_n 1, 1) := by decide +kernel
theorem d_L_law_434 : decode code 434 = .ok (.aload_n 0, 1) := by decide +kernel
theorem d_L_law_435 : decode code 435 = .ok (.iload_n 3, 1) := by decide +kernel
theorem d_L_law_436 : decode code 436 = .ok (.iconst 1, 1) := by decide +kernel
theorem d_L_law_437 : decode code 437 = .ok (.iadd, 1) := by decide +kernel
theorem d_L_law_438 : decode code 438 = .ok (.iaload, 1) := by decide +kernel
theorem d_L_law_439 : decode code 439 = .ok (.aload_n 0, 1) := by decide +kernel
theorem d_L_law_440 : decode code 440 = .ok (.iload_n 3, 1) := by decide +kernel
theorem d_L_law_441 : decode code 441 = .ok (.iconst 2, 1) := by decide +kernel
theorem d_L_law_442 : decode code 442 = .ok (.iadd, 1) := by decide +kernel
theorem d_L_law_443 : decode code 443 = .ok (.iaload, 1) := by decide +kernel
theorem d_L_law_444 : decode code 444 = .ok (.aload_n 0, 1) := by decide +kernel
theorem d_L_law_445 : decode code 445 = .ok (.iload_n 3, 1) := by decide +kernel
theorem d_L_law_446 : decode code 446 = .ok (.iconst 3, 1) := by decide +kernel
theorem d_L_law_447 : decode code 447 = .ok (.iadd, 1) := by decide +kernel
theorem d_L_law_448 : decode code 448 = .ok (.iaload, 1) := by decide +kernel
theorem d_L_law_449 : decode code 449 = .ok (.aload_n 0, 1) := by decide +kernel
theorem d_L_law_450 : decode code 450 = .ok (.iload_n 3, 1) := by decide +kernel
theorem d_L_law_451 : decode code 451 = .ok (.iconst 4, 1) := by decide +kernel
theorem d_L_law_452 : decode code 452 = .ok (.iadd, 1) := by decide +kernel
theorem d_L_law_453 : decode code 453 = .ok (.iaload, 1) := by decide +kernel
theorem d_L_law_454 : decode code 454 = .ok (.ifCond .eq 7, 3) := by decide +kernel
theorem d_L_law_457 : decode code 457 = .ok (.iconst 1, 1) := by decide +kernel
theorem d_L_law_458 : decode code 458 = .ok (.goto 4, 3) := by decide +kernel
theorem d_L_law_461 : decode code 461 = .ok (.iconst 0, 1) := by decide +kernel
theorem d_L_law_462 : decode code 462 = .ok (.invokevirtual 54, 3) := by decide +kernel
theorem d_L_law_465 : decode code 465 = .ok (.pop, 1) := by decide +kernel
theorem d_L_law_466 : decode code 466 = .ok (.aload_n 2, 1) := by decide +kernel
theorem d_L_law_467 : decode code 467 = .ok (.aload_n 0, 1) := by decide +kernel
theorem d_L_law_468 : decode code 468 = .ok (.iload_n 3, 1) := by decide +kernel
theorem d_L_law_469 : decode code 469 = .ok (.iconst 1, 1) := by decide +kernel
theorem d_L_law_470 : decode code 470 = .ok (.iadd, 1) := by decide +kernel
theorem d_L_law_471 : decode code 471 = .ok (.iaload, 1) := by decide +kernel
theorem d_L_law_472 : decode code 472 = .ok (.aload_n 0, 1) := by decide +kernel
theorem d_L_law_473 : decode code 473 = .ok (.iload_n 3, 1) := by decide +kernel
theorem d_L_law_474 : decode code 474 = .ok (.iconst 2, 1) := by decide +kernel
theorem d_L_law_475 : decode code 475 = .ok (.iadd, 1) := by decide +kernel
theorem d_L_law_476 : decode code 476 = .ok (.iaload, 1) := by decide +kernel
theorem d_L_law_477 : decode code 477 = .ok (.aload_n 0, 1) := by decide +kernel
theorem d_L_law_478 : decode code 478 = .ok (.iload_n 3, 1) := by decide +kernel
theorem d_L_law_479 : decode code 479 = .ok (.iconst 3, 1) := by decide +kernel
theorem d_L_law_480 : decode code 480 = .ok (.iadd, 1) := by decide +kernel
theorem d_L_law_481 : decode code 481 = .ok (.iaload, 1) := by decide +kernel
theorem d_L_law_482 : decode code 482 = .ok (.aload_n 0, 1) := by decide +kernel
theorem d_L_law_483 : decode code 483 = .ok (.iload_n 3, 1) := by decide +kernel
theorem d_L_law_484 : decode code 484 = .ok (.iconst 4, 1) := by decide +kernel
theorem d_L_law_485 : decode code 485 = .ok (.iadd, 1) := by decide +kernel
theorem d_L_law_486 : decode code 486 = .ok (.iaload, 1) := by decide +kernel
theorem d_L_law_487 : decode code 487 = .ok (.ifCond .eq 7, 3) := by decide +kernel
theorem d_L_law_490 : decode code 490 = .ok (.iconst 1, 1) := by decide +kernel
theorem d_L_law_491 : decode code 491 = .ok (.goto 4, 3) := by decide +kernel
theorem d_L_law_494 : decode code 494 = .ok (.iconst 0, 1) := by decide +kernel
theorem d_L_law_495 : decode code 495 = .ok (.invokevirtual 58, 3) := by decide +kernel
theorem d_L_law_498 : decode code 498 = .ok (.pop, 1) := by decide +kernel
theorem d_L_law_499 : decode code 499 = .ok (.goto 589, 3) := by decide +kernel
theorem d_L_law_502 : decode code 502 = .ok (.aload_n 1, 1) := by decide +kernel
theorem d_L_law_503 : decode code 503 = .ok (.aload_n 0, 1) := by decide +kernel
theorem d_L_law_504 : decode code 504 = .ok (.iload_n 3, 1) := by decide +kernel
theorem d_L_law_505 : decode code 505 = .ok (.iconst 1, 1) := by decide +kernel
theorem d_L_law_506 : decode code 506 = .ok (.iadd, 1) := by decide +kernel
theorem d_L_law_507 : decode code 507 = .ok (.iaload, 1) := by decide +kernel
theorem d_L_law_508 : decode code 508 = .ok (.aload_n 0, 1) := by decide +kernel
theorem d_L_law_509 : decode code 509 = .ok (.iload_n 3, 1) := by decide +kernel
theorem d_L_law_510 : decode code 510 = .ok (.iconst 2, 1) := by decide +kernel
theorem d_L_law_511 : decode code 511 = .ok (.iadd, 1) := by decide +kernel
theorem d_L_law_512 : decode code 512 = .ok (.iaload, 1) := by decide +kernel
theorem d_L_law_513 : decode code 513 = .ok (.invokevirtual 59, 3) := by decide +kernel
theorem d_L_law_516 : decode code 516 = .ok (.pop, 1) := by decide +kernel
theorem d_L_law_517 : decode code 517 = .ok (.aload_n 2, 1) := by decide +kernel
theorem d_L_law_518 : decode code 518 = .ok (.aload_n 0, 1) := by decide +kernel
theorem d_L_law_519 : decode code 519 = .ok (.iload_n 3, 1) := by decide +kernel
theorem d_L_law_520 : decode code 520 = .ok (.iconst 1, 1) := by decide +kernel
theorem d_L_law_521 : decode code 521 = .ok (.iadd, 1) := by decide +kernel
theorem d_L_law_522 : decode code 522 = .ok (.iaload, 1) := by decide +kernel
theorem d_L_law_523 : decode code 523 = .ok (.aload_n 0, 1) := by decide +kernel
theorem d_L_law_524 : decode code 524 = .ok (.iload_n 3, 1) := by decide +kernel
theorem d_L_law_525 : decode code 525 = .ok (.iconst 2, 1) := by decide +kernel
theorem d_L_law_526 : decode code 526 = .ok (.iadd, 1) := by decide +kernel
theorem d_L_law_527 : decode code 527 = .ok (.iaload, 1) := by decide +kernel
theorem d_L_law_528 : decode code 528 = .ok (.invokevirtual 62, 3) := by decide +kernel
theorem d_L_law_531 : decode code 531 = .ok (.pop, 1) := by decide +kernel
theorem d_L_law_532 : decode code 532 = .ok (.goto 556, 3) := by decide +kernel
theorem d_L_law_535 : decode code 535 = .ok (.aload_n 1, 1) := by decide +kernel
theorem d_L_law_536 : decode code 536 = .ok (.aload_n 0, 1) := by decide +kernel
theorem d_L_law_537 : decode code 537 = .ok (.iload_n 3, 1) := by decide +kernel
theorem d_L_law_538 : decode code 538 = .ok (.iconst 1, 1) := by decide +kernel
theorem d_L_law_539 : decode code 539 = .ok (.iadd, 1) := by decide +kernel
theorem d_L_law_540 : decode code 540 = .ok (.iaload, 1) := by decide +kernel
theorem d_L_law_541 : decode code 541 = .ok (.aload_n 0, 1) := by decide +kernel
theorem d_L_law_542 : decode code 542 = .ok (.iload_n 3, 1) := by decide +kernel
theorem d_L_law_543 : decode code 543 = .ok (.iconst 2, 1) := by decide +kernel
theorem d_L_law_544 : decode code 544 = .ok (.iadd, 1) := by decide +kernel
theorem d_L_law_545 : decode code 545 = .ok (.iaload, 1) := by decide +kernel
theorem d_L_law_546 : decode code 546 = .ok (.invokevirtual 63, 3) := by decide +kernel
theorem d_L_law_549 : decode code 549 = .ok (.pop, 1) := by decide +kernel
theorem d_L_law_550 : decode code 550 = .ok (.aload_n 2, 1) := by decide +kernel
theorem d_L_law_551 : decode code 551 = .ok (.aload_n 0, 1) := by decide +kernel
theorem d_L_law_552 : decode code 552 = .ok (.iload_n 3, 1) := by decide +kernel
theorem d_L_law_553 : decode code 553 = .ok (.iconst 1, 1) := by decide +kernel
theorem d_L_law_554 : decode code 554 = .ok (.iadd, 1) := by decide +kernel
theorem d_L_law_555 : decode code 555 = .ok (.iaload, 1) := by decide +kernel
theorem d_L_law_556 : decode code 556 = .ok (.aload_n 0, 1) := by decide +kernel
theorem d_L_law_557 : decode code 557 = .ok (.iload_n 3, 1) := by decide +kernel
theorem d_L_law_558 : decode code 558 = .ok (.iconst 2, 1) := by decide +kernel
theorem d_L_law_559 : decode code 559 = .ok (.iadd, 1) := by decide +kernel
theorem d_L_law_560 : decode code 560 = .ok (.iaload, 1) := by decide +kernel
theorem d_L_law_561 : decode code 561 = .ok (.invokevirtual 66, 3) := by decide +kernel
theorem d_L_law_564 : decode code 564 = .ok (.pop, 1) := by decide +kernel
theorem d_L_law_565 : decode code 565 = .ok (.goto 523, 3) := by decide +kernel
theorem d_L_law_568 : decode code 568 = .ok (.aload_n 1, 1) := by decide +kernel
theorem d_L_law_569 : decode code 569 = .ok (.aload_n 0, 1) := by decide +kernel
theorem d_L_law_570 : decode code 570 = .ok (.iload_n 3, 1) := by decide +kernel
theorem d_L_law_571 : decode code 571 = .ok (.iconst 1, 1) := by decide +kernel
theorem d_L_law_572 : decode code 572 = .ok (.iadd, 1) := by decide +kernel
theorem d_L_law_573 : decode code 573 = .ok (.iaload, 1) := by decide +kernel
theorem d_L_law_574 : decode code 574 = .ok (.invokevirtual 67, 3) := by decide +kernel
theorem d_L_law_577 : decode code 577 = .ok (.pop, 1) := by decide +kernel
theorem d_L_law_578 : decode code 578 = .ok (.aload_n 2, 1) := by decide +kernel
theorem d_L_law_579 : decode code 579 = .ok (.aload_n 0, 1) := by decide +kernel
theorem d_L_law_580 : decode code 580 = .ok (.iload_n 3, 1) := by decide +kernel
theorem d_L_law_581 : decode code 581 = .ok (.iconst 1, 1) := by decide +kernel
theorem d_L_law_582 : decode code 582 = .ok (.iadd, 1) := by decide +kernel
theorem d_L_law_583 : decode code 583 = .ok (.iaload, 1) := by decide +kernel
theorem d_L_law_584 : decode code 584 = .ok (.invokevirtual 71, 3) := by decide +kernel
theorem d_L_law_587 : decode code 587 = .ok (.pop, 1) := by decide +kernel
theorem d_L_law_588 : decode code 588 = .ok (.goto 500, 3) := by decide +kernel
theorem d_L_law_591 : decode code 591 = .ok (.aload_n 1, 1) := by decide +kernel
theorem d_L_law_592 : decode code 592 = .ok (.invokevirtual 72, 3) := by decide +kernel
theorem d_L_law_595 : decode code 595 = .ok (.pop, 1) := by decide +kernel
theorem d_L_law_596 : decode code 596 = .ok (.aload_n 2, 1) := by decide +kernel
theorem d_L_law_597 : decode code 597 = .ok (.invokevirtual 75, 3) := by decide +kernel
theorem d_L_law_600 : decode code 600 = .ok (.pop, 1) := by decide +kernel
theorem d_L_law_601 : decode code 601 = .ok (.goto 487, 3) := by decide +kernel
theorem d_L_law_604 : decode code 604 = .ok (.aload_n 1, 1) := by decide +kernel
theorem d_L_law_605 : decode code 605 = .ok (.aload_n 0, 1) := by decide +kernel
theorem d_L_law_606 : decode code 606 = .ok (.iload_n 3, 1) := by decide +kernel
theorem d_L_law_607 : decode code 607 = .ok (.iconst 1, 1) := by decide +kernel
theorem d_L_law_608 : decode code 608 = .ok (.iadd, 1) := by decide +kernel
theorem d_L_law_609 : decode code 609 = .ok (.iaload, 1) := by decide +kernel
theorem d_L_law_610 : decode code 610 = .ok (.aload_n 0, 1) := by decide +kernel
theorem d_L_law_611 : decode code 611 = .ok (.iload_n 3, 1) := by decide +kernel
theorem d_L_law_612 : decode code 612 = .ok (.iconst 2, 1) := by decide +kernel
theorem d_L_law_613 : decode code 613 = .ok (.iadd, 1) := by decide +kernel
theorem d_L_law_614 : decode code 614 = .ok (.iaload, 1) := by decide +kernel
theorem d_L_law_615 : decode code 615 = .ok (.invokevirtual 76, 3) := by decide +kernel
theorem d_L_law_618 : decode code 618 = .ok (.pop, 1) := by decide +kernel
theorem d_L_law_619 : decode code 619 = .ok (.aload_n 2, 1) := by decide +kernel
theorem d_L_law_620 : decode code 620 = .ok (.aload_n 0, 1) := by decide +kernel
theorem d_L_law_621 : decode code 621 = .ok (.iload_n 3, 1) := by decide +kernel
theorem d_L_law_622 : decode code 622 = .ok (.iconst 1, 1) := by decide +kernel
theorem d_L_law_623 : decode code 623 = .ok (.iadd, 1) := by decide +kernel
theorem d_L_law_624 : decode code 624 = .ok (.iaload, 1) := by decide +kernel
theorem d_L_law_625 : decode code 625 = .ok (.aload_n 0, 1) := by decide +kernel
theorem d_L_law_626 : decode code 626 = .ok (.iload_n 3, 1) := by decide +kernel
theorem d_L_law_627 : decode code 627 = .ok (.iconst 2, 1) := by decide +kernel
theorem d_L_law_628 : decode code 628 = .ok (.iadd, 1) := by decide +kernel
theorem d_L_law_629 : decode code 629 = .ok (.iaload, 1) := by decide +kernel
theorem d_L_law_630 : decode code 630 = .ok (.invokevirtual 79, 3) := by decide +kernel
theorem d_L_law_633 : decode code 633 = .ok (.pop, 1) := by decide +kernel
theorem d_L_law_634 : decode code 634 = .ok (.goto 454, 3) := by decide +kernel
theorem d_L_law_637 : decode code 637 = .ok (.aload_n 1, 1) := by decide +kernel
theorem d_L_law_638 : decode code 638 = .ok (.aload_n 0, 1) := by decide +kernel
theorem d_L_law_639 : decode code 639 = .ok (.iload_n 3, 1) := by decide +kernel
theorem d_L_law_640 : decode code 640 = .ok (.iconst 1, 1) := by decide +kernel
theorem d_L_law_641 : decode code 641 = .ok (.iadd, 1) := by decide +kernel
theorem d_L_law_642 : decode code 642 = .ok (.iaload, 1) := by decide +kernel
theorem d_L_law_643 : decode code 643 = .ok (.invokevirtual 80, 3) := by decide +kernel
theorem d_L_law_646 : decode code 646 = .ok (.pop, 1) := by decide +kernel
theorem d_L_law_647 : decode code 647 = .ok (.aload_n 2, 1) := by decide +kernel
theorem d_L_law_648 : decode code 648 = .ok (.aload_n 0, 1) := by decide +kernel
theorem d_L_law_649 : decode code 649 = .ok (.iload_n 3, 1) := by decide +kernel
theorem d_L_law_650 : decode code 650 = .ok (.iconst 1, 1) := by decide +kernel
theorem d_L_law_651 : decode code 651 = .ok (.iadd, 1) := by decide +kernel
theorem d_L_law_652 : decode code 652 = .ok (.iaload, 1) := by decide +kernel
theorem d_L_law_653 : decode code 653 = .ok (.invokevirtual 83, 3) := by decide +kernel
theorem d_L_law_656 : decode code 656 = .ok (.pop, 1) := by decide +kernel
theorem d_L_law_657 : decode code 657 = .ok (.goto 431, 3) := by decide +kernel
theorem d_L_law_660 : decode code 660 = .ok (.aload_n 1, 1) := by decide +kernel
theorem d_L_law_661 : decode code 661 = .ok (.aload_n 0, 1) := by decide +kernel
theorem d_L_law_662 : decode code 662 = .ok (.iload_n 3, 1) := by decide +kernel
theorem d_L_law_663 : decode code 663 = .ok (.iconst 1, 1) := by decide +kernel
theorem d_L_law_664 : decode code 664 = .ok (.iadd, 1) := by decide +kernel
theorem d_L_law_665 : decode code 665 = .ok (.iaload, 1) := by decide +kernel
theorem d_L_law_666 : decode code 666 = .ok (.invokevirtual 84, 3) := by decide +kernel
theorem d_L_law_669 : decode code 669 = .ok (.pop, 1) := by decide +kernel
theorem d_L_law_670 : decode code 670 = .ok (.aload_n 2, 1) := by decide +kernel
theorem d_L_law_671 : decode code 671 = .ok (.aload_n 0, 1) := by decide +kernel
theorem d_L_law_672 : decode code 672 = .ok (.iload_n 3, 1) := by decide +kernel
theorem d_L_law_673 : decode code 673 = .ok (.iconst 1, 1) := by decide +kernel
theorem d_L_law_674 : decode code 674 = .ok (.iadd, 1) := by decide +kernel
theorem d_L_law_675 : decode code 675 = .ok (.iaload, 1) := by decide +kernel
theorem d_L_law_676 : decode code 676 = .ok (.invokevirtual 87, 3) := by decide +kernel
theorem d_L_law_679 : decode code 679 = .ok (.pop, 1) := by decide +kernel
theorem d_L_law_680 : decode code 680 = .ok (.goto 408, 3) := by decide +kernel
theorem d_L_law_683 : decode code 683 = .ok (.aload_n 1, 1) := by decide +kernel
theorem d_L_law_684 : decode code 684 = .ok (.invokevirtual 88, 3) := by decide +kernel
theorem d_L_law_687 : decode code 687 = .ok (.pop, 1) := by decide +kernel
theorem d_L_law_688 : decode code 688 = .ok (.aload_n 2, 1) := by decide +kernel
theorem d_L_law_689 : decode code 689 = .ok (.invokevirtual 91, 3) := by decide +kernel
theorem d_L_law_692 : decode code 692 = .ok (.pop, 1) := by decide +kernel
theorem d_L_law_693 : decode code 693 = .ok (.goto 395, 3) := by decide +kernel
theorem d_L_law_696 : decode code 696 = .ok (.aload_n 1, 1) := by decide +kernel
theorem d_L_law_697 : decode code 697 = .ok (.aload_n 0, 1) := by decide +kernel
theorem d_L_law_698 : decode code 698 = .ok (.iload_n 3, 1) := by decide +kernel
theorem d_L_law_699 : decode code 699 = .ok (.iconst 1, 1) := by decide +kernel
theorem d_L_law_700 : decode code 700 = .ok (.iadd, 1) := by decide +kernel
theorem d_L_law_701 : decode code 701 = .ok (.iaload, 1) := by decide +kernel
theorem d_L_law_702 : decode code 702 = .ok (.invokevirtual 92, 3) := by decide +kernel
theorem d_L_law_705 : decode code 705 = .ok (.pop, 1) := by decide +kernel
theorem d_L_law_706 : decode code 706 = .ok (.aload_n 2, 1) := by decide +kernel
theorem d_L_law_707 : decode code 707 = .ok (.aload_n 0, 1) := by decide +kernel
theorem d_L_law_708 : decode code 708 = .ok (.iload_n 3, 1) := by decide +kernel
theorem d_L_law_709 : decode code 709 = .ok (.iconst 1, 1) := by decide +kernel
theorem d_L_law_710 : decode code 710 = .ok (.iadd, 1) := by decide +kernel
theorem d_L_law_711 : decode code 711 = .ok (.iaload, 1) := by decide +kernel
theorem d_L_law_712 : decode code 712 = .ok (.invokevirtual 95, 3) := by decide +kernel
theorem d_L_law_715 : decode code 715 = .ok (.pop, 1) := by decide +kernel
theorem d_L_law_716 : decode code 716 = .ok (.goto 372, 3) := by decide +kernel
theorem d_L_law_719 : decode code 719 = .ok (.aload_n 1, 1) := by decide +kernel
theorem d_L_law_720 : decode code 720 = .ok (.aload_n 0, 1) := by decide +kernel
theorem d_L_law_721 : decode code 721 = .ok (.iload_n 3, 1) := by decide +kernel
theorem d_L_law_722 : decode code 722 = .ok (.iconst 1, 1) := by decide +kernel
theorem d_L_law_723 : decode code 723 = .ok (.iadd, 1) := by decide +kernel
theorem d_L_law_724 : decode code 724 = .ok (.iaload, 1) := by decide +kernel
theorem d_L_law_725 : decode code 725 = .ok (.invokevirtual 96, 3) := by decide +kernel
theorem d_L_law_728 : decode code 728 = .ok (.pop, 1) := by decide +kernel
theorem d_L_law_729 : decode code 729 = .ok (.aload_n 2, 1) := by decide +kernel
theorem d_L_law_730 : decode code 730 = .ok (.aload_n 0, 1) := by decide +kernel
theorem d_L_law_731 : decode code 731 = .ok (.iload_n 3, 1) := by decide +kernel
theorem d_L_law_732 : decode code 732 = .ok (.iconst 1, 1) := by decide +kernel
theorem d_L_law_733 : decode code 733 = .ok (.iadd, 1) := by decide +kernel
theorem d_L_law_734 : decode code 734 = .ok (.iaload, 1) := by decide +kernel
theorem d_L_law_735 : decode code 735 = .ok (.invokevirtual 99, 3) := by decide +kernel
theorem d_L_law_738 : decode code 738 = .ok (.pop, 1) := by decide +kernel
theorem d_L_law_739 : decode code 739 = .ok (.goto 349, 3) := by decide +kernel
theorem d_L_law_742 : decode code 742 = .ok (.aload_n 1, 1) := by decide +kernel
theorem d_L_law_743 : decode code 743 = .ok (.aload_n 0, 1) := by decide +kernel
theorem d_L_law_744 : decode code 744 = .ok (.iload_n 3, 1) := by decide +kernel
theorem d_L_law_745 : decode code 745 = .ok (.iconst 1, 1) := by decide +kernel
theorem d_L_law_746 : decode code 746 = .ok (.iadd, 1) := by decide +kernel
theorem d_L_law_747 : decode code 747 = .ok (.iaload, 1) := by decide +kernel
theorem d_L_law_748 : decode code 748 = .ok (.invokevirtual 100, 3) := by decide +kernel
theorem d_L_law_751 : decode code 751 = .ok (.pop, 1) := by decide +kernel
theorem d_L_law_752 : decode code 752 = .ok (.aload_n 2, 1) := by decide +kernel
theorem d_L_law_753 : decode code 753 = .ok (.aload_n 0, 1) := by decide +kernel
theorem d_L_law_754 : decode code 754 = .ok (.iload_n 3, 1) := by decide +kernel
theorem d_L_law_755 : decode code 755 = .ok (.iconst 1, 1) := by decide +kernel
theorem d_L_law_756 : decode code 756 = .ok (.iadd, 1) := by decide +kernel
theorem d_L_law_757 : decode code 757 = .ok (.iaload, 1) := by decide +kernel
theorem d_L_law_758 : decode code 758 = .ok (.invokevirtual 103, 3) := by decide +kernel
theorem d_L_law_761 : decode code 761 = .ok (.pop, 1) := by decide +kernel
theorem d_L_law_762 : decode code 762 = .ok (.goto 326, 3) := by decide +kernel
theorem d_L_law_765 : decode code 765 = .ok (.aload_n 1, 1) := by decide +kernel
theorem d_L_law_766 : decode code 766 = .ok (.aload_n 0, 1) := by decide +kernel
theorem d_L_law_767 : decode code 767 = .ok (.iload_n 3, 1) := by decide +kernel
theorem d_L_law_768 : decode code 768 = .ok (.iconst 1, 1) := by decide +kernel
theorem d_L_law_769 : decode code 769 = .ok (.iadd, 1) := by decide +kernel
theorem d_L_law_770 : decode code 770 = .ok (.iaload, 1) := by decide +kernel
theorem d_L_law_771 : decode code 771 = .ok (.aload_n 0, 1) := by decide +kernel
theorem d_L_law_772 : decode code 772 = .ok (.iload_n 3, 1) := by decide +kernel
theorem d_L_law_773 : decode code 773 = .ok (.iconst 2, 1) := by decide +kernel
theorem d_L_law_774 : decode code 774 = .ok (.iadd, 1) := by decide +kernel
theorem d_L_law_775 : decode code 775 = .ok (.iaload, 1) := by decide +kernel
theorem d_L_law_776 : decode code 776 = .ok (.invokevirtual 104, 3) := by decide +kernel
theorem d_L_law_779 : decode code 779 = .ok (.pop, 1) := by decide +kernel
theorem d_L_law_780 : decode code 780 = .ok (.aload_n 2, 1) := by decide +kernel
theorem d_L_law_781 : decode code 781 = .ok (.aload_n 0, 1) := by decide +kernel
theorem d_L_law_782 : decode code 782 = .ok (.iload_n 3, 1) := by decide +kernel
theorem d_L_law_783 : decode code 783 = .ok (.iconst 1, 1) := by decide +kernel
theorem d_L_law_784 : decode code 784 = .ok (.iadd, 1) := by decide +kernel
theorem d_L_law_785 : decode code 785 = .ok (.iaload, 1) := by decide +kernel
theorem d_L_law_786 : decode code 786 = .ok (.aload_n 0, 1) := by decide +kernel
theorem d_L_law_787 : decode code 787 = .ok (.iload_n 3, 1) := by decide +kernel
theorem d_L_law_788 : decode code 788 = .ok (.iconst 2, 1) := by decide +kernel
theorem d_L_law_789 : decode code 789 = .ok (.iadd, 1) := by decide +kernel
theorem d_L_law_790 : decode code 790 = .ok (.iaload, 1) := by decide +kernel
theorem d_L_law_791 : decode code 791 = .ok (.invokevirtual 107, 3) := by decide +kernel
theorem d_L_law_794 : decode code 794 = .ok (.pop, 1) := by decide +kernel
theorem d_L_law_795 : decode code 795 = .ok (.goto 293, 3) := by decide +kernel
theorem d_L_law_798 : decode code 798 = .ok (.aload_n 1, 1) := by decide +kernel
theorem d_L_law_799 : decode code 799 = .ok (.aload_n 0, 1) := by decide +kernel
theorem d_L_law_800 : decode code 800 = .ok (.iload_n 3, 1) := by decide +kernel
theorem d_L_law_801 : decode code 801 = .ok (.iconst 1, 1) := by decide +kernel
theorem d_L_law_802 : decode code 802 = .ok (.iadd, 1) := by decide +kernel
theorem d_L_law_803 : decode code 803 = .ok (.iaload, 1) := by decide +kernel
theorem d_L_law_804 : decode code 804 = .ok (.aload_n 0, 1) := by decide +kernel
theorem d_L_law_805 : decode code 805 = .ok (.iload_n 3, 1) := by decide +kernel
theorem d_L_law_806 : decode code 806 = .ok (.iconst 2, 1) := by decide +kernel
theorem d_L_law_807 : decode code 807 = .ok (.iadd, 1) := by decide +kernel
theorem d_L_law_808 : decode code 808 = .ok (.iaload, 1) := by decide +kernel
theorem d_L_law_809 : decode code 809 = .ok (.invokevirtual 108, 3) := by decide +kernel
theorem d_L_law_812 : decode code 812 = .ok (.pop, 1) := by decide +kernel
theorem d_L_law_813 : decode code 813 = .ok (.aload_n 2, 1) := by decide +kernel
theorem d_L_law_814 : decode code 814 = .ok (.aload_n 0, 1) := by decide +kernel
theorem d_L_law_815 : decode code 815 = .ok (.iload_n 3, 1) := by decide +kernel
theorem d_L_law_816 : decode code 816 = .ok (.iconst 1, 1) := by decide +kernel
theorem d_L_law_817 : decode code 817 = .ok (.iadd, 1) := by decide +kernel
theorem d_L_law_818 : decode code 818 = .ok (.iaload, 1) := by decide +kernel
theorem d_L_law_819 : decode code 819 = .ok (.aload_n 0, 1) := by decide +kernel
theorem d_L_law_820 : decode code 820 = .ok (.iload_n 3, 1) := by decide +kernel
theorem d_L_law_821 : decode code 821 = .ok (.iconst 2, 1) := by decide +kernel
theorem d_L_law_822 : decode code 822 = .ok (.iadd, 1) := by decide +kernel
theorem d_L_law_823 : decode code 823 = .ok (.iaload, 1) := by decide +kernel
theorem d_L_law_824 : decode code 824 = .ok (.invokevirtual 111, 3) := by decide +kernel
theorem d_L_law_827 : decode code 827 = .ok (.pop, 1) := by decide +kernel
theorem d_L_law_828 : decode code 828 = .ok (.goto 260, 3) := by decide +kernel
theorem d_L_law_831 : decode code 831 = .ok (.aload_n 1, 1) := by decide +kernel
theorem d_L_law_832 : decode code 832 = .ok (.aload_n 0, 1) := by decide +kernel
theorem d_L_law_833 : decode code 833 = .ok (.iload_n 3, 1) := by decide +kernel
theorem d_L_law_834 : decode code 834 = .ok (.iconst 1, 1) := by decide +kernel
theorem d_L_law_835 : decode code 835 = .ok (.iadd, 1) := by decide +kernel
theorem d_L_law_836 : decode code 836 = .ok (.iaload, 1) := by decide +kernel
theorem d_L_law_837 : decode code 837 = .ok (.invokevirtual 112, 3) := by decide +kernel
theorem d_L_law_840 : decode code 840 = .ok (.pop, 1) := by decide +kernel
theorem d_L_law_841 : decode code 841 = .ok (.aload_n 2, 1) := by decide +kernel
theorem d_L_law_842 : decode code 842 = .ok (.aload_n 0, 1) := by decide +kernel
theorem d_L_law_843 : decode code 843 = .ok (.iload_n 3, 1) := by decide +kernel
theorem d_L_law_844 : decode code 844 = .ok (.iconst 1, 1) := by decide +kernel
theorem d_L_law_845 : decode code 845 = .ok (.iadd, 1) := by decide +kernel
theorem d_L_law_846 : decode code 846 = .ok (.iaload, 1) := by decide +kernel
theorem d_L_law_847 : decode code 847 = .ok (.invokevirtual 115, 3) := by decide +kernel
theorem d_L_law_850 : decode code 850 = .ok (.pop, 1) := by decide +kernel
theorem d_L_law_851 : decode code 851 = .ok (.goto 237, 3) := by decide +kernel
theorem d_L_law_854 : decode code 854 = .ok (.aload_n 1, 1) := by decide +kernel
theorem d_L_law_855 : decode code 855 = .ok (.aload_n 0, 1) := by decide +kernel
theorem d_L_law_856 : decode code 856 = .ok (.iload_n 3, 1) := by decide +kernel
theorem d_L_law_857 : decode code 857 = .ok (.iconst 1, 1) := by decide +kernel
theorem d_L_law_858 : decode code 858 = .ok (.iadd, 1) := by decide +kernel
theorem d_L_law_859 : decode code 859 = .ok (.iaload, 1) := by decide +kernel
theorem d_L_law_860 : decode code 860 = .ok (.aload_n 0, 1) := by decide +kernel
theorem d_L_law_861 : decode code 861 = .ok (.iload_n 3, 1) := by decide +kernel
theorem d_L_law_862 : decode code 862 = .ok (.iconst 2, 1) := by decide +kernel
theorem d_L_law_863 : decode code 863 = .ok (.iadd, 1) := by decide +kernel
theorem d_L_law_864 : decode code 864 = .ok (.iaload, 1) := by decide +kernel
theorem d_L_law_865 : decode code 865 = .ok (.invokevirtual 116, 3) := by decide +kernel
theorem d_L_law_868 : decode code 868 = .ok (.pop, 1) := by decide +kernel
theorem d_L_law_869 : decode code 869 = .ok (.aload_n 2, 1) := by decide +kernel
theorem d_L_law_870 : decode code 870 = .ok (.aload_n 0, 1) := by decide +kernel
theorem d_L_law_871 : decode code 871 = .ok (.iload_n 3, 1) := by decide +kernel
theorem d_L_law_872 : decode code 872 = .ok (.iconst 1, 1) := by decide +kernel
theorem d_L_law_873 : decode code 873 = .ok (.iadd, 1) := by decide +kernel
theorem d_L_law_874 : decode code 874 = .ok (.iaload, 1) := by decide +kernel
theorem d_L_law_875 : decode code 875 = .ok (.aload_n 0, 1) := by decide +kernel
theorem d_L_law_876 : decode code 876 = .ok (.iload_n 3, 1) := by decide +kernel
theorem d_L_law_877 : decode code 877 = .ok (.iconst 2, 1) := by decide +kernel
theorem d_L_law_878 : decode code 878 = .ok (.iadd, 1) := by decide +kernel
theorem d_L_law_879 : decode code 879 = .ok (.iaload, 1) := by decide +kernel
theorem d_L_law_880 : decode code 880 = .ok (.invokevirtual 119, 3) := by decide +kernel
theorem d_L_law_883 : decode code 883 = .ok (.pop, 1) := by decide +kernel
theorem d_L_law_884 : decode code 884 = .ok (.goto 204, 3) := by decide +kernel
theorem d_L_law_887 : decode code 887 = .ok (.aload_n 1, 1) := by decide +kernel
theorem d_L_law_888 : decode code 888 = .ok (.aload_n 0, 1) := by decide +kernel
theorem d_L_law_889 : decode code 889 = .ok (.iload_n 3, 1) := by decide +kernel
theorem d_L_law_890 : decode code 890 = .ok (.iconst 1, 1) := by decide +kernel
theorem d_L_law_891 : decode code 891 = .ok (.iadd, 1) := by decide +kernel
theorem d_L_law_892 : decode code 892 = .ok (.iaload, 1) := by decide +kernel
theorem d_L_law_893 : decode code 893 = .ok (.aload_n 0, 1) := by decide +kernel
theorem d_L_law_894 : decode code 894 = .ok (.iload_n 3, 1) := by decide +kernel
theorem d_L_law_895 : decode code 895 = .ok (.iconst 2, 1) := by decide +kernel
theorem d_L_law_896 : decode code 896 = .ok (.iadd, 1) := by decide +kernel
theorem d_L_law_897 : decode code 897 = .ok (.iaload, 1) := by decide +kernel
theorem d_L_law_898 : decode code 898 = .ok (.aload_n 0, 1) := by decide +kernel
theorem d_L_law_899 : decode code 899 = .ok (.iload_n 3, 1) := by decide +kernel
theorem d_L_law_900 : decode code 900 = .ok (.iconst 3, 1) := by decide +kernel
theorem d_L_law_901 : decode code 901 = .ok (.iadd, 1) := by decide +kernel
theorem d_L_law_902 : decode code 902 = .ok (.iaload, 1) := by decide +kernel
theorem d_L_law_903 : decode code 903 = .ok (.invokevirtual 120, 3) := by decide +kernel
theorem d_L_law_906 : decode code 906 = .ok (.pop, 1) := by decide +kernel
theorem d_L_law_907 : decode code 907 = .ok (.aload_n 2, 1) := by decide +kernel
theorem d_L_law_908 : decode code 908 = .ok (.aload_n 0, 1) := by decide +kernel
theorem d_L_law_909 : decode code 909 = .ok (.iload_n 3, 1) := by decide +kernel
theorem d_L_law_910 : decode code 910 = .ok (.iconst 1, 1) := by decide +kernel
theorem d_L_law_911 : decode code 911 = .ok (.iadd, 1) := by decide +kernel
theorem d_L_law_912 : decode code 912 = .ok (.iaload, 1) := by decide +kernel
theorem d_L_law_913 : decode code 913 = .ok (.aload_n 0, 1) := by decide +kernel
theorem d_L_law_914 : decode code 914 = .ok (.iload_n 3, 1) := by decide +kernel
theorem d_L_law_915 : decode code 915 = .ok (.iconst 2, 1) := by decide +kernel
theorem d_L_law_916 : decode code 916 = .ok (.iadd, 1) := by decide +kernel
theorem d_L_law_917 : decode code 917 = .ok (.iaload, 1) := by decide +kernel
theorem d_L_law_918 : decode code 918 = .ok (.aload_n 0, 1) := by decide +kernel
theorem d_L_law_919 : decode code 919 = .ok (.iload_n 3, 1) := by decide +kernel
theorem d_L_law_920 : decode code 920 = .ok (.iconst 3, 1) := by decide +kernel
theorem d_L_law_921 : decode code 921 = .ok (.iadd, 1) := by decide +kernel
theorem d_L_law_922 : decode code 922 = .ok (.iaload, 1) := by decide +kernel
theorem d_L_law_923 : decode code 923 = .ok (.invokevirtual 123, 3) := by decide +kernel
theorem d_L_law_926 : decode code 926 = .ok (.pop, 1) := by decide +kernel
theorem d_L_law_927 : decode code 927 = .ok (.goto 161, 3) := by decide +kernel
theorem d_L_law_930 : decode code 930 = .ok (.aload_n 1, 1) := by decide +kernel
theorem d_L_law_931 : decode code 931 = .ok (.aload_n 0, 1) := by decide +kernel
theorem d_L_law_932 : decode code 932 = .ok (.iload_n 3, 1) := by decide +kernel
theorem d_L_law_933 : decode code 933 = .ok (.iconst 1, 1) := by decide +kernel
theorem d_L_law_934 : decode code 934 = .ok (.iadd, 1) := by decide +kernel
theorem d_L_law_935 : decode code 935 = .ok (.iaload, 1) := by decide +kernel
theorem d_L_law_936 : decode code 936 = .ok (.invokevirtual 124, 3) := by decide +kernel
theorem d_L_law_939 : decode code 939 = .ok (.pop, 1) := by decide +kernel
theorem d_L_law_940 : decode code 940 = .ok (.aload_n 2, 1) := by decide +kernel
theorem d_L_law_941 : decode code 941 = .ok (.aload_n 0, 1) := by decide +kernel
theorem d_L_law_942 : decode code 942 = .ok (.iload_n 3, 1) := by decide +kernel
theorem d_L_law_943 : decode code 943 = .ok (.iconst 1, 1) := by decide +kernel
theorem d_L_law_944 : decode code 944 = .ok (.iadd, 1) := by decide +kernel
theorem d_L_law_945 : decode code 945 = .ok (.iaload, 1) := by decide +kernel
theorem d_L_law_946 : decode code 946 = .ok (.invokevirtual 127, 3) := by decide +kernel
theorem d_L_law_949 : decode code 949 = .ok (.pop, 1) := by decide +kernel
theorem d_L_law_950 : decode code 950 = .ok (.goto 138, 3) := by decide +kernel
theorem d_L_law_953 : decode code 953 = .ok (.aload_n 1, 1) := by decide +kernel
theorem d_L_law_954 : decode code 954 = .ok (.aload_n 0, 1) := by decide +kernel
theorem d_L_law_955 : decode code 955 = .ok (.iload_n 3, 1) := by decide +kernel
theorem d_L_law_956 : decode code 956 = .ok (.iconst 1, 1) := by decide +kernel
theorem d_L_law_957 : decode code 957 = .ok (.iadd, 1) := by decide +kernel
theorem d_L_law_958 : decode code 958 = .ok (.iaload, 1) := by decide +kernel
theorem d_L_law_959 : decode code 959 = .ok (.invokevirtual 128, 3) := by decide +kernel
theorem d_L_law_962 : decode code 962 = .ok (.pop, 1) := by decide +kernel
theorem d_L_law_963 : decode code 963 = .ok (.aload_n 2, 1) := by decide +kernel
theorem d_L_law_964 : decode code 964 = .ok (.aload_n 0, 1) := by decide +kernel
theorem d_L_law_965 : decode code 965 = .ok (.iload_n 3, 1) := by decide +kernel
theorem d_L_law_966 : decode code 966 = .ok (.iconst 1, 1) := by decide +kernel
theorem d_L_law_967 : decode code 967 = .ok (.iadd, 1) := by decide +kernel
theorem d_L_law_968 : decode code 968 = .ok (.iaload, 1) := by decide +kernel
theorem d_L_law_969 : decode code 969 = .ok (.invokevirtual 131, 3) := by decide +kernel
theorem d_L_law_972 : decode code 972 = .ok (.pop, 1) := by decide +kernel
theorem d_L_law_973 : decode code 973 = .ok (.goto 115, 3) := by decide +kernel
theorem d_L_law_976 : decode code 976 = .ok (.aload_n 1, 1) := by decide +kernel
theorem d_L_law_977 : decode code 977 = .ok (.aload_n 0, 1) := by decide +kernel
theorem d_L_law_978 : decode code 978 = .ok (.iload_n 3, 1) := by decide +kernel
theorem d_L_law_979 : decode code 979 = .ok (.iconst 1, 1) := by decide +kernel
theorem d_L_law_980 : decode code 980 = .ok (.iadd, 1) := by decide +kernel
theorem d_L_law_981 : decode code 981 = .ok (.iaload, 1) := by decide +kernel
theorem d_L_law_982 : decode code 982 = .ok (.aload_n 0, 1) := by decide +kernel
theorem d_L_law_983 : decode code 983 = .ok (.iload_n 3, 1) := by decide +kernel
theorem d_L_law_984 : decode code 984 = .ok (.iconst 2, 1) := by decide +kernel
theorem d_L_law_985 : decode code 985 = .ok (.iadd, 1) := by decide +kernel
theorem d_L_law_986 : decode code 986 = .ok (.iaload, 1) := by decide +kernel
theorem d_L_law_987 : decode code 987 = .ok (.aload_n 0, 1) := by decide +kernel
theorem d_L_law_988 : decode code 988 = .ok (.iload_n 3, 1) := by decide +kernel
theorem d_L_law_989 : decode code 989 = .ok (.iconst 3, 1) := by decide +kernel
theorem d_L_law_990 : decode code 990 = .ok (.iadd, 1) := by decide +kernel
theorem d_L_law_991 : decode code 991 = .ok (.iaload, 1) := by decide +kernel
theorem d_L_law_992 : decode code 992 = .ok (.invokevirtual 132, 3) := by decide +kernel
theorem d_L_law_995 : decode code 995 = .ok (.pop, 1) := by decide +kernel
theorem d_L_law_996 : decode code 996 = .ok (.aload_n 2, 1) := by decide +kernel
theorem d_L_law_997 : decode code 997 = .ok (.aload_n 0, 1) := by decide +kernel
theorem d_L_law_998 : decode code 998 = .ok (.iload_n 3, 1) := by decide +kernel
theorem d_L_law_999 : decode code 999 = .ok (.iconst 1, 1) := by decide +kernel
theorem d_L_law_1000 : decode code 1000 = .ok (.iadd, 1) := by decide +kernel
theorem d_L_law_1001 : decode code 1001 = .ok (.iaload, 1) := by decide +kernel
theorem d_L_law_1002 : decode code 1002 = .ok (.aload_n 0, 1) := by decide +kernel
theorem d_L_law_1003 : decode code 1003 = .ok (.iload_n 3, 1) := by decide +kernel
theorem d_L_law_1004 : decode code 1004 = .ok (.iconst 2, 1) := by decide +kernel
theorem d_L_law_1005 : decode code 1005 = .ok (.iadd, 1) := by decide +kernel
theorem d_L_law_1006 : decode code 1006 = .ok (.iaload, 1) := by decide +kernel
theorem d_L_law_1007 : decode code 1007 = .ok (.aload_n 0, 1) := by decide +kernel
theorem d_L_law_1008 : decode code 1008 = .ok (.iload_n 3, 1) := by decide +kernel
theorem d_L_law_1009 : decode code 1009 = .ok (.iconst 3, 1) := by decide +kernel
theorem d_L_law_1010 : decode code 1010 = .ok (.iadd, 1) := by decide +kernel
theorem d_L_law_1011 : decode code 1011 = .ok (.iaload, 1) := by decide +kernel
theorem d_L_law_1012 : decode code 1012 = .ok (.invokevirtual 135, 3) := by decide +kernel
theorem d_L_law_1015 : decode code 1015 = .ok (.pop, 1) := by decide +kernel
theorem d_L_law_1016 : decode code 1016 = .ok (.goto 72, 3) := by decide +kernel
theorem d_L_law_1019 : decode code 1019 = .ok (.aload_n 1, 1) := by decide +kernel
theorem d_L_law_1020 : decode code 1020 = .ok (.aload_n 0, 1) := by decide +kernel
theorem d_L_law_1021 : decode code 1021 = .ok (.iload_n 3, 1) := by decide +kernel
theorem d_L_law_1022 : decode code 1022 = .ok (.iconst 1, 1) := by decide +kernel
theorem d_L_law_1023 : decode code 1023 = .ok (.iadd, 1) := by decide +kernel
theorem d_L_law_1024 : decode code 1024 = .ok (.iaload, 1) := by decide +kernel
theorem d_L_law_1025 : decode code 1025 = .ok (.invokevirtual 136, 3) := by decide +kernel
theorem d_L_law_1028 : decode code 1028 = .ok (.pop, 1) := by decide +kernel
theorem d_L_law_1029 : decode code 1029 = .ok (.aload_n 2, 1) := by decide +kernel
theorem d_L_law_1030 : decode code 1030 = .ok (.aload_n 0, 1) := by decide +kernel
theorem d_L_law_1031 : decode code 1031 = .ok (.iload_n 3, 1) := by decide +kernel
theorem d_L_law_1032 : decode code 1032 = .ok (.iconst 1, 1) := by decide +kernel
theorem d_L_law_1033 : decode code 1033 = .ok (.iadd, 1) := by decide +kernel
theorem d_L_law_1034 : decode code 1034 = .ok (.iaload, 1) := by decide +kernel
theorem d_L_law_1035 : decode code 1035 = .ok (.invokevirtual 139, 3) := by decide +kernel
theorem d_L_law_1038 : decode code 1038 = .ok (.pop, 1) := by decide +kernel
theorem d_L_law_1039 : decode code 1039 = .ok (.goto 49, 3) := by decide +kernel
theorem d_L_law_1042 : decode code 1042 = .ok (.aload_n 1, 1) := by decide +kernel
theorem d_L_law_1043 : decode code 1043 = .ok (.aload_n 0, 1) := by decide +kernel
theorem d_L_law_1044 : decode code 1044 = .ok (.iload_n 3, 1) := by decide +kernel
theorem d_L_law_1045 : decode code 1045 = .ok (.iconst 1, 1) := by decide +kernel
theorem d_L_law_1046 : decode code 1046 = .ok (.iadd, 1) := by decide +kernel
theorem d_L_law_1047 : decode code 1047 = .ok (.iaload, 1) := by decide +kernel
theorem d_L_law_1048 : decode code 1048 = .ok (.invokevirtual 140, 3) := by decide +kernel
theorem d_L_law_1051 : decode code 1051 = .ok (.pop, 1) := by decide +kernel
theorem d_L_law_1052 : decode code 1052 = .ok (.aload_n 2, 1) := by decide +kernel
theorem d_L_law_1053 : decode code 1053 = .ok (.aload_n 0, 1) := by decide +kernel
theorem d_L_law_1054 : decode code 1054 = .ok (.iload_n 3, 1) := by decide +kernel
theorem d_L_law_1055 : decode code 1055 = .ok (.iconst 1, 1) := by decide +kernel
theorem d_L_law_1056 : decode code 1056 = .ok (.iadd, 1) := by decide +kernel
theorem d_L_law_1057 : decode code 1057 = .ok (.iaload, 1) := by decide +kernel
theorem d_L_law_1058 : decode code 1058 = .ok (.invokevirtual 143, 3) := by decide +kernel
theorem d_L_law_1061 : decode code 1061 = .ok (.pop, 1) := by decide +kernel
theorem d_L_law_1062 : decode code 1062 = .ok (.goto 26, 3) := by decide +kernel
theorem d_L_law_1065 : decode code 1065 = .ok (.aload_n 1, 1) := by decide +kernel
theorem d_L_law_1066 : decode code 1066 = .ok (.aload_n 0, 1) := by decide +kernel
theorem d_L_law_1067 : decode code 1067 = .ok (.iload_n 3, 1) := by decide +kernel
theorem d_L_law_1068 : decode code 1068 = .ok (.iconst 1, 1) := by decide +kernel
theorem d_L_law_1069 : decode code 1069 = .ok (.iadd, 1) := by decide +kernel
theorem d_L_law_1070 : decode code 1070 = .ok (.iaload, 1) := by decide +kernel
theorem d_L_law_1071 : decode code 1071 = .ok (.invokevirtual 144, 3) := by decide +kernel
theorem d_L_law_1074 : decode code 1074 = .ok (.aload_n 2, 1) := by decide +kernel
theorem d_L_law_1075 : decode code 1075 = .ok (.aload_n 0, 1) := by decide +kernel
theorem d_L_law_1076 : decode code 1076 = .ok (.iload_n 3, 1) := by decide +kernel
theorem d_L_law_1077 : decode code 1077 = .ok (.iconst 1, 1) := by decide +kernel
theorem d_L_law_1078 : decode code 1078 = .ok (.iadd, 1) := by decide +kernel
theorem d_L_law_1079 : decode code 1079 = .ok (.iaload, 1) := by decide +kernel
theorem d_L_law_1080 : decode code 1080 = .ok (.invokevirtual 147, 3) := by decide +kernel
theorem d_L_law_1083 : decode code 1083 = .ok (.if_icmp .eq 5, 3) := by decide +kernel
theorem d_L_law_1086 : decode code 1086 = .ok (.iconst 0, 1) := by decide +kernel
theorem d_L_law_1087 : decode code 1087 = .ok (.ireturn, 1) := by decide +kernel
theorem d_L_law_1088 : decode code 1088 = .ok (.iinc 3 6, 3) := by decide +kernel
theorem d_L_law_1091 : decode code 1091 = .ok (.goto (-1073), 3) := by decide +kernel
theorem d_L_law_1094 : decode code 1094 = .ok (.iconst 1, 1) := by decide +kernel
theorem d_L_law_1095 : decode code 1095 = .ok (.ireturn, 1) := by decide +kernel
abbrev X_L_law : gX := (R_law, code, 4, (some .boolean), false)
def F_L_law_b1088 (k18 : Option Nat → Option Nat → Int32 → gM → Option (Int32 × gM)) (l1 : Option Nat) (l2 : Option Nat) (l3 : Int32) (M : gM) : Option (Int32 × gM) :=
  k18 l1 l2 (l3 + 6) M
theorem T_L_law_b1088 (bcK bsK : Nat) (k18 : Option Nat → Option Nat → Int32 → gM → Option (Int32 × gM)) (r : (Int32 × gM)) (hk18 : ∀ (l1 : Option Nat) (l2 : Option Nat) (l3 : Int32) (M : gM), k18 l1 l2 l3 M = some r → GW 67 bcK bsK X_L_law 18 [(0, vr (some 0)), (1, vr l1), (2, vr l2), (3, vi l3)] [] M (some (vi r.1), r.2)) (l1 : Option Nat) (l2 : Option Nat) (l3 : Int32) (M : gM) (h : F_L_law_b1088 k18 l1 l2 l3 M = some r) : GW 67 (bcK + 0) (bsK + 0) X_L_law 1088 [(0, vr (some 0)), (1, vr l1), (2, vr l2), (3, vi l3)] [] M (some (vi r.1), r.2) := by
  delta F_L_law_b1088 at h
  refine GW_iinc (j := 3) (X := X_L_law) (pc := 1088) d_L_law_1088 rfl (congrArg (fun z => _ + z) (by decide : Int32.ofInt 6 = (6 : Int32))) (Nat.le_of_ble_eq_true rfl) (lv2 := [(3, vi (l3 + 6)), (0, vr (some 0)), (1, vr l1), (2, vr l2)]) rfl ?_
  refine GW_goto (X := X_L_law) (pc := 1091) 18 d_L_law_1091 (by decide) ?_
  refine GW_widen (Nat.le_refl _) (bc' := bcK) (bs' := bsK) (by omega) (by omega) ?_
  refine GW_sub [1, 2, 3, 0] rfl ?_
  exact hk18 l1 l2 (l3 + 6) M h
def F_L_law_b176 (k18 : Option Nat → Option Nat → Int32 → gM → Option (Int32 × gM)) (l1 : Option Nat) (l2 : Option Nat) (l3 : Int32) (M : gM) : Option (Int32 × gM) :=
  (xI M (some 0) (l3 + (1 : Int32))).bind fun v1 => (xI M (some 0) (l3 + (2 : Int32))).bind fun v2 => (xI M (some 0) (l3 + (3 : Int32))).bind fun v3 => (xI M (some 0) (l3 + (4 : Int32))).bind fun v4 => (xI M (some 0) (l3 + (5 : Int32))).bind fun v5 => (gO 11 M l1).bind fun i6 => (F_X11_feed (some i6) v1 v2 v3 v4 v5 M).bind fun (v7, M8) => (xI M8 (some 0) (l3 + (1 : Int32))).bind fun v9 => (xI M8 (some 0) (l3 + (2 : Int32))).bind fun v10 => (xI M8 (some 0) (l3 + (3 : Int32))).bind fun v11 => (xI M8 (some 0) (l3 + (4 : Int32))).bind fun v12 => (xI M8 (some 0) (l3 + (5 : Int32))).bind fun v13 => (gO 12 M8 l2).bind fun i14 => (F_X12_feed (some i14) v9 v10 v11 v12 v13 M8).bind fun (v15, M16) => F_L_law_b1088 k18 (some i6) (some i14) l3 M16
set_option maxHeartbeats 1000000 in
theorem T_L_law_b176 (bcK bsK : Nat) (k18 : Option Nat → Option Nat → Int32 → gM → Option (Int32 × gM)) (r : (Int32 × gM)) (hk18 : ∀ (l1 : Option Nat) (l2 : Option Nat) (l3 : Int32) (M : gM), k18 l1 l2 l3 M = some r → GW 67 bcK bsK X_L_law 18 [(0, vr (some 0)), (1, vr l1), (2, vr l2), (3, vi l3)] [] M (some (vi r.1), r.2)) (l1 : Option Nat) (l2 : Option Nat) (l3 : Int32) (M : gM) (h : F_L_law_b176 k18 l1 l2 l3 M = some r) : GW 67 (bcK + 0) (bsK + 0) X_L_law 176 [(0, vr (some 0)), (1, vr l1), (2, vr l2), (3, vi l3)] [] M (some (vi r.1), r.2) := by
  delta F_L_law_b176 at h
  refine GW_aload_n (X := X_L_law) (pc := 176) d_L_law_176 rfl 1 rfl ?_
  refine GW_aload_n (X := X_L_law) (pc := 177) d_L_law_177 rfl 0 rfl ?_
  refine GW_iload_n (X := X_L_law) (pc := 178) d_L_law_178 rfl 3 rfl ?_
  refine GW_iconst (X := X_L_law) (pc := 179) (v := 1) d_L_law_179 (by decide) ?_
  refine GW_iadd (X := X_L_law) (pc := 180) d_L_law_180 ?_
  replace h := g_bd h
  obtain ⟨v1, hv1, h⟩ := h
  refine GW_sald (X := X_L_law) (pc := 181) d_L_law_181 rfl hv1 ?_
  refine GW_aload_n (X := X_L_law) (pc := 182) d_L_law_182 rfl 0 rfl ?_
  refine GW_iload_n (X := X_L_law) (pc := 183) d_L_law_183 rfl 3 rfl ?_
  refine GW_iconst (X := X_L_law) (pc := 184) (v := 2) d_L_law_184 (by decide) ?_
  refine GW_iadd (X := X_L_law) (pc := 185) d_L_law_185 ?_
  replace h := g_bd h
  obtain ⟨v2, hv2, h⟩ := h
  refine GW_sald (X := X_L_law) (pc := 186) d_L_law_186 rfl hv2 ?_
  refine GW_aload_n (X := X_L_law) (pc := 187) d_L_law_187 rfl 0 rfl ?_
  refine GW_iload_n (X := X_L_law) (pc := 188) d_L_law_188 rfl 3 rfl ?_
  refine GW_iconst (X := X_L_law) (pc := 189) (v := 3) d_L_law_189 (by decide) ?_
  refine GW_iadd (X := X_L_law) (pc := 190) d_L_law_190 ?_
  replace h := g_bd h
  obtain ⟨v3, hv3, h⟩ := h
  refine GW_sald (X := X_L_law) (pc := 191) d_L_law_191 rfl hv3 ?_
  refine GW_aload_n (X := X_L_law) (pc := 192) d_L_law_192 rfl 0 rfl ?_
  refine GW_iload_n (X := X_L_law) (pc := 193) d_L_law_193 rfl 3 rfl ?_
  refine GW_iconst (X := X_L_law) (pc := 194) (v := 4) d_L_law_194 (by decide) ?_
  refine GW_iadd (X := X_L_law) (pc := 195) d_L_law_195 ?_
  replace h := g_bd h
  obtain ⟨v4, hv4, h⟩ := h
  refine GW_sald (X := X_L_law) (pc := 196) d_L_law_196 rfl hv4 ?_
  refine GW_aload_n (X := X_L_law) (pc := 197) d_L_law_197 rfl 0 rfl ?_
  refine GW_iload_n (X := X_L_law) (pc := 198) d_L_law_198 rfl 3 rfl ?_
  refine GW_iconst (X := X_L_law) (pc := 199) (v := 5) d_L_law_199 (by decide) ?_
  refine GW_iadd (X := X_L_law) (pc := 200) d_L_law_200 ?_
  replace h := g_bd h
  obtain ⟨v5, hv5, h⟩ := h
  refine GW_sald (X := X_L_law) (pc := 201) d_L_law_201 rfl hv5 ?_
  replace h := g_bd h
  obtain ⟨i6, hi6, h⟩ := h
  obtain ⟨rfl, ki6⟩ := g_gO hi6
  replace h := g_bd h
  obtain ⟨⟨v7, M8⟩, hv7, h⟩ := h
  dsimp only at h
  refine GW_callV (X := X_L_law) (pc := 202) (bc0 := bcK + 0) (bs0 := bsK + 0) (r := some (vi v7)) (M2 := M8) (c0 := 11) (T_X11_feed (some i6) v1 v2 v3 v4 v5 M (v7, M8) hv7) (Nat.le_of_ble_eq_true rfl) (Nat.le_of_ble_eq_true rfl) rfl g_cok11 ki6 yc_X11_feed ⟨m_482, m_483, m_484, m_116, m_485⟩ d_L_law_202 rfl (st := []) rfl (Nat.le_of_ble_eq_true rfl) (by omega) (by omega) (st2 := [vi v7]) rfl ?_
  refine GW_pop (X := X_L_law) (pc := 205) d_L_law_205 rfl ?_
  refine GW_aload_n (X := X_L_law) (pc := 206) d_L_law_206 rfl 2 rfl ?_
  refine GW_aload_n (X := X_L_law) (pc := 207) d_L_law_207 rfl 0 rfl ?_
  refine GW_iload_n (X := X_L_law) (pc := 208) d_L_law_208 rfl 3 rfl ?_
  refine GW_iconst (X := X_L_law) (pc := 209) (v := 1) d_L_law_209 (by decide) ?_
  refine GW_iadd (X := X_L_law) (pc := 210) d_L_law_210 ?_
  replace h := g_bd h
  obtain ⟨v9, hv9, h⟩ := h
  refine GW_sald (X := X_L_law) (pc := 211) d_L_law_211 rfl hv9 ?_
  refine GW_aload_n (X := X_L_law) (pc := 212) d_L_law_212 rfl 0 rfl ?_
  refine GW_iload_n (X := X_L_law) (pc := 213) d_L_law_213 rfl 3 rfl ?_
  refine GW_iconst (X := X_L_law) (pc := 214) (v := 2) d_L_law_214 (by decide) ?_
  refine GW_iadd (X := X_L_law) (pc := 215) d_L_law_215 ?_
  replace h := g_bd h
  obtain ⟨v10, hv10, h⟩ := h
  refine GW_sald (X := X_L_law) (pc := 216) d_L_law_216 rfl hv10 ?_
  refine GW_aload_n (X := X_L_law) (pc := 217) d_L_law_217 rfl 0 rfl ?_
  refine GW_iload_n (X := X_L_law) (pc := 218) d_L_law_218 rfl 3 rfl ?_
  refine GW_iconst (X := X_L_law) (pc := 219) (v := 3) d_L_law_219 (by decide) ?_
  refine GW_iadd (X := X_L_law) (pc := 220) d_L_law_220 ?_
  replace h := g_bd h
  obtain ⟨v11, hv11, h⟩ := h
  refine GW_sald (X := X_L_law) (pc := 221) d_L_law_221 rfl hv11 ?_
  refine GW_aload_n (X := X_L_law) (pc := 222) d_L_law_222 rfl 0 rfl ?_
  refine GW_iload_n (X := X_L_law) (pc := 223) d_L_law_223 rfl 3 rfl ?_
  refine GW_iconst (X := X_L_law) (pc := 224) (v := 4) d_L_law_224 (by decide) ?_
  refine GW_iadd (X := X_L_law) (pc := 225) d_L_law_225 ?_
  replace h := g_bd h
  obtain ⟨v12, hv12, h⟩ := h
  refine GW_sald (X := X_L_law) (pc := 226) d_L_law_226 rfl hv12 ?_
  refine GW_aload_n (X := X_L_law) (pc := 227) d_L_law_227 rfl 0 rfl ?_
  refine GW_iload_n (X := X_L_law) (pc := 228) d_L_law_228 rfl 3 rfl ?_
  refine GW_iconst (X := X_L_law) (pc := 229) (v := 5) d_L_law_229 (by decide) ?_
  refine GW_iadd (X := X_L_law) (pc := 230) d_L_law_230 ?_
  replace h := g_bd h
  obtain ⟨v13, hv13, h⟩ := h
  refine GW_sald (X := X_L_law) (pc := 231) d_L_law_231 rfl hv13 ?_
  replace h := g_bd h
  obtain ⟨i14, hi14, h⟩ := h
  obtain ⟨rfl, ki14⟩ := g_gO hi14
  replace h := g_bd h
  obtain ⟨⟨v15, M16⟩, hv15, h⟩ := h
  dsimp only at h
  refine GW_callV (X := X_L_law) (pc := 232) (bc0 := bcK + 0) (bs0 := bsK + 0) (r := some (vi v15)) (M2 := M16) (c0 := 12) (T_X12_feed (some i14) v9 v10 v11 v12 v13 M8 (v15, M16) hv15) (Nat.le_of_ble_eq_true rfl) (Nat.le_of_ble_eq_true rfl) rfl g_cok12 ki14 yc_X12_feed ⟨m_1215, m_1216, m_1217, m_127, m_1218⟩ d_L_law_232 rfl (st := []) rfl (Nat.le_of_ble_eq_true rfl) (by omega) (by omega) (st2 := [vi v15]) rfl ?_
  refine GW_pop (X := X_L_law) (pc := 235) d_L_law_235 rfl ?_
  refine GW_goto (X := X_L_law) (pc := 236) 1088 d_L_law_236 (by decide) ?_
  exact T_L_law_b1088 bcK bsK k18 r hk18 (some i6) (some i14) l3 M16 h
def F_L_law_b239 (k18 : Option Nat → Option Nat → Int32 → gM → Option (Int32 × gM)) (l1 : Option Nat) (l2 : Option Nat) (l3 : Int32) (M : gM) : Option (Int32 × gM) :=
  (xI M (some 0) (l3 + (1 : Int32))).bind fun v1 => (gO 11 M l1).bind fun i2 => (F_X11_end (some i2) v1 M).bind fun (v3, M4) => (xI M4 (some 0) (l3 + (1 : Int32))).bind fun v5 => (gO 12 M4 l2).bind fun i6 => (F_X12_end (some i6) v5 M4).bind fun (v7, M8) => F_L_law_b1088 k18 (some i2) (some i6) l3 M8
theorem T_L_law_b239 (bcK bsK : Nat) (k18 : Option Nat → Option Nat → Int32 → gM → Option (Int32 × gM)) (r : (Int32 × gM)) (hk18 : ∀ (l1 : Option Nat) (l2 : Option Nat) (l3 : Int32) (M : gM), k18 l1 l2 l3 M = some r → GW 67 bcK bsK X_L_law 18 [(0, vr (some 0)), (1, vr l1), (2, vr l2), (3, vi l3)] [] M (some (vi r.1), r.2)) (l1 : Option Nat) (l2 : Option Nat) (l3 : Int32) (M : gM) (h : F_L_law_b239 k18 l1 l2 l3 M = some r) : GW 67 (bcK + 0) (bsK + 0) X_L_law 239 [(0, vr (some 0)), (1, vr l1), (2, vr l2), (3, vi l3)] [] M (some (vi r.1), r.2) := by
  delta F_L_law_b239 at h
  refine GW_aload_n (X := X_L_law) (pc := 239) d_L_law_239 rfl 1 rfl ?_
  refine GW_aload_n (X := X_L_law) (pc := 240) d_L_law_240 rfl 0 rfl ?_
  refine GW_iload_n (X := X_L_law) (pc := 241) d_L_law_241 rfl 3 rfl ?_
  refine GW_iconst (X := X_L_law) (pc := 242) (v := 1) d_L_law_242 (by decide) ?_
  refine GW_iadd (X := X_L_law) (pc := 243) d_L_law_243 ?_
  replace h := g_bd h
  obtain ⟨v1, hv1, h⟩ := h
  refine GW_sald (X := X_L_law) (pc := 244) d_L_law_244 rfl hv1 ?_
  replace h := g_bd h
  obtain ⟨i2, hi2, h⟩ := h
  obtain ⟨rfl, ki2⟩ := g_gO hi2
  replace h := g_bd h
  obtain ⟨⟨v3, M4⟩, hv3, h⟩ := h
  dsimp only at h
  refine GW_callV (X := X_L_law) (pc := 245) (bc0 := bcK + 0) (bs0 := bsK + 0) (r := some (vi v3)) (M2 := M4) (c0 := 11) (T_X11_end (some i2) v1 M (v3, M4) hv3) (Nat.le_of_ble_eq_true rfl) (Nat.le_of_ble_eq_true rfl) rfl g_cok11 ki2 yc_X11_end ⟨m_490, m_491, m_492, m_116, m_493⟩ d_L_law_245 rfl (st := []) rfl (Nat.le_of_ble_eq_true rfl) (by omega) (by omega) (st2 := [vi v3]) rfl ?_
  refine GW_pop (X := X_L_law) (pc := 248) d_L_law_248 rfl ?_
  refine GW_aload_n (X := X_L_law) (pc := 249) d_L_law_249 rfl 2 rfl ?_
  refine GW_aload_n (X := X_L_law) (pc := 250) d_L_law_250 rfl 0 rfl ?_
  refine GW_iload_n (X := X_L_law) (pc := 251) d_L_law_251 rfl 3 rfl ?_
  refine GW_iconst (X := X_L_law) (pc := 252) (v := 1) d_L_law_252 (by decide) ?_
  refine GW_iadd (X := X_L_law) (pc := 253) d_L_law_253 ?_
  replace h := g_bd h
  obtain ⟨v5, hv5, h⟩ := h
  refine GW_sald (X := X_L_law) (pc := 254) d_L_law_254 rfl hv5 ?_
  replace h := g_bd h
  obtain ⟨i6, hi6, h⟩ := h
  obtain ⟨rfl, ki6⟩ := g_gO hi6
  replace h := g_bd h
  obtain ⟨⟨v7, M8⟩, hv7, h⟩ := h
  dsimp only at h
  refine GW_callV (X := X_L_law) (pc := 255) (bc0 := bcK + 0) (bs0 := bsK + 0) (r := some (vi v7)) (M2 := M8) (c0 := 12) (T_X12_end (some i6) v5 M4 (v7, M8) hv7) (Nat.le_of_ble_eq_true rfl) (Nat.le_of_ble_eq_true rfl) rfl g_cok12 ki6 yc_X12_end ⟨m_1223, m_1224, m_1225, m_127, m_1226⟩ d_L_law_255 rfl (st := []) rfl (Nat.le_of_ble_eq_true rfl) (by omega) (by omega) (st2 := [vi v7]) rfl ?_
  refine GW_pop (X := X_L_law) (pc := 258) d_L_law_258 rfl ?_
  refine GW_goto (X := X_L_law) (pc := 259) 1088 d_L_law_259 (by decide) ?_
  exact T_L_law_b1088 bcK bsK k18 r hk18 (some i2) (some i6) l3 M8 h
def F_L_law_b262 (k18 : Option Nat → Option Nat → Int32 → gM → Option (Int32 × gM)) (l1 : Option Nat) (l2 : Option Nat) (l3 : Int32) (M : gM) : Option (Int32 × gM) :=
  (gO 11 M l1).bind fun i1 => (F_X11_house (some i1) M).bind fun (v2, M3) => (gO 12 M3 l2).bind fun i4 => (F_X12_house (some i4) M3).bind fun (v5, M6) => F_L_law_b1088 k18 (some i1) (some i4) l3 M6
theorem T_L_law_b262 (bcK bsK : Nat) (k18 : Option Nat → Option Nat → Int32 → gM → Option (Int32 × gM)) (r : (Int32 × gM)) (hk18 : ∀ (l1 : Option Nat) (l2 : Option Nat) (l3 : Int32) (M : gM), k18 l1 l2 l3 M = some r → GW 67 bcK bsK X_L_law 18 [(0, vr (some 0)), (1, vr l1), (2, vr l2), (3, vi l3)] [] M (some (vi r.1), r.2)) (l1 : Option Nat) (l2 : Option Nat) (l3 : Int32) (M : gM) (h : F_L_law_b262 k18 l1 l2 l3 M = some r) : GW 67 (bcK + 6) (bsK + 46) X_L_law 262 [(0, vr (some 0)), (1, vr l1), (2, vr l2), (3, vi l3)] [] M (some (vi r.1), r.2) := by
  delta F_L_law_b262 at h
  refine GW_aload_n (X := X_L_law) (pc := 262) d_L_law_262 rfl 1 rfl ?_
  replace h := g_bd h
  obtain ⟨i1, hi1, h⟩ := h
  obtain ⟨rfl, ki1⟩ := g_gO hi1
  replace h := g_bd h
  obtain ⟨⟨v2, M3⟩, hv2, h⟩ := h
  dsimp only at h
  refine GW_callV (X := X_L_law) (pc := 263) (bc0 := bcK + 0) (bs0 := bsK + 0) (r := some (vi v2)) (M2 := M3) (c0 := 11) (T_X11_house (some i1) M (v2, M3) hv2) (Nat.le_of_ble_eq_true rfl) (Nat.le_of_ble_eq_true rfl) rfl g_cok11 ki1 yc_X11_house ⟨m_494, m_495, m_496, m_116, m_497⟩ d_L_law_263 rfl (st := []) rfl (Nat.le_of_ble_eq_true rfl) (by omega) (by omega) (st2 := [vi v2]) rfl ?_
  refine GW_pop (X := X_L_law) (pc := 266) d_L_law_266 rfl ?_
  refine GW_aload_n (X := X_L_law) (pc := 267) d_L_law_267 rfl 2 rfl ?_
  replace h := g_bd h
  obtain ⟨i4, hi4, h⟩ := h
  obtain ⟨rfl, ki4⟩ := g_gO hi4
  replace h := g_bd h
  obtain ⟨⟨v5, M6⟩, hv5, h⟩ := h
  dsimp only at h
  refine GW_callV (X := X_L_law) (pc := 268) (bc0 := bcK + 0) (bs0 := bsK + 0) (r := some (vi v5)) (M2 := M6) (c0 := 12) (T_X12_house (some i4) M3 (v5, M6) hv5) (Nat.le_of_ble_eq_true rfl) (Nat.le_of_ble_eq_true rfl) rfl g_cok12 ki4 yc_X12_house ⟨m_1399, m_1400, m_1401, m_127, m_1402⟩ d_L_law_268 rfl (st := []) rfl (Nat.le_of_ble_eq_true rfl) (by omega) (by omega) (st2 := [vi v5]) rfl ?_
  refine GW_pop (X := X_L_law) (pc := 271) d_L_law_271 rfl ?_
  refine GW_goto (X := X_L_law) (pc := 272) 1088 d_L_law_272 (by decide) ?_
  exact T_L_law_b1088 bcK bsK k18 r hk18 (some i1) (some i4) l3 M6 h
def F_L_law_b275 (k18 : Option Nat → Option Nat → Int32 → gM → Option (Int32 × gM)) (l1 : Option Nat) (l2 : Option Nat) (l3 : Int32) (M : gM) : Option (Int32 × gM) :=
  (gO 11 M l1).bind fun i1 => (F_X11_rule (some i1) M).bind fun (v2, M3) => (gO 12 M3 l2).bind fun i4 => (F_X12_rule (some i4) M3).bind fun (v5, M6) => F_L_law_b1088 k18 (some i1) (some i4) l3 M6
theorem T_L_law_b275 (bcK bsK : Nat) (k18 : Option Nat → Option Nat → Int32 → gM → Option (Int32 × gM)) (r : (Int32 × gM)) (hk18 : ∀ (l1 : Option Nat) (l2 : Option Nat) (l3 : Int32) (M : gM), k18 l1 l2 l3 M = some r → GW 67 bcK bsK X_L_law 18 [(0, vr (some 0)), (1, vr l1), (2, vr l2), (3, vi l3)] [] M (some (vi r.1), r.2)) (l1 : Option Nat) (l2 : Option Nat) (l3 : Int32) (M : gM) (h : F_L_law_b275 k18 l1 l2 l3 M = some r) : GW 67 (bcK + 3) (bsK + 802) X_L_law 275 [(0, vr (some 0)), (1, vr l1), (2, vr l2), (3, vi l3)] [] M (some (vi r.1), r.2) := by
  delta F_L_law_b275 at h
  refine GW_aload_n (X := X_L_law) (pc := 275) d_L_law_275 rfl 1 rfl ?_
  replace h := g_bd h
  obtain ⟨i1, hi1, h⟩ := h
  obtain ⟨rfl, ki1⟩ := g_gO hi1
  replace h := g_bd h
  obtain ⟨⟨v2, M3⟩, hv2, h⟩ := h
  dsimp only at h
  refine GW_callV (X := X_L_law) (pc := 276) (bc0 := bcK + 0) (bs0 := bsK + 0) (r := some (vi v2)) (M2 := M3) (c0 := 11) (T_X11_rule (some i1) M (v2, M3) hv2) (Nat.le_of_ble_eq_true rfl) (Nat.le_of_ble_eq_true rfl) rfl g_cok11 ki1 yc_X11_rule ⟨m_675, m_676, m_677, m_116, m_678⟩ d_L_law_276 rfl (st := []) rfl (Nat.le_of_ble_eq_true rfl) (by omega) (by omega) (st2 := [vi v2]) rfl ?_
  refine GW_pop (X := X_L_law) (pc := 279) d_L_law_279 rfl ?_
  refine GW_aload_n (X := X_L_law) (pc := 280) d_L_law_280 rfl 2 rfl ?_
  replace h := g_bd h
  obtain ⟨i4, hi4, h⟩ := h
  obtain ⟨rfl, ki4⟩ := g_gO hi4
  replace h := g_bd h
  obtain ⟨⟨v5, M6⟩, hv5, h⟩ := h
  dsimp only at h
  refine GW_callV (X := X_L_law) (pc := 281) (bc0 := bcK + 0) (bs0 := bsK + 0) (r := some (vi v5)) (M2 := M6) (c0 := 12) (T_X12_rule (some i4) M3 (v5, M6) hv5) (Nat.le_of_ble_eq_true rfl) (Nat.le_of_ble_eq_true rfl) rfl g_cok12 ki4 yc_X12_rule ⟨m_1227, m_1228, m_1229, m_127, m_1230⟩ d_L_law_281 rfl (st := []) rfl (Nat.le_of_ble_eq_true rfl) (by omega) (by omega) (st2 := [vi v5]) rfl ?_
  refine GW_pop (X := X_L_law) (pc := 284) d_L_law_284 rfl ?_
  refine GW_goto (X := X_L_law) (pc := 285) 1088 d_L_law_285 (by decide) ?_
  exact T_L_law_b1088 bcK bsK k18 r hk18 (some i1) (some i4) l3 M6 h
def F_L_law_b288 (k18 : Option Nat → Option Nat → Int32 → gM → Option (Int32 × gM)) (l1 : Option Nat) (l2 : Option Nat) (l3 : Int32) (M : gM) : Option (Int32 × gM) :=
  (xI M (some 0) (l3 + (1 : Int32))).bind fun v1 => (gO 11 M l1).bind fun i2 => (F_X11_force (some i2) v1 M).bind fun (v3, M4) => (xI M4 (some 0) (l3 + (1 : Int32))).bind fun v5 => (gO 12 M4 l2).bind fun i6 => (F_X12_force (some i6) v5 M4).bind fun (v7, M8) => F_L_law_b1088 k18 (some i2) (some i6) l3 M8
theorem T_L_law_b288 (bcK bsK : Nat) (k18 : Option Nat → Option Nat → Int32 → gM → Option (Int32 × gM)) (r : (Int32 × gM)) (hk18 : ∀ (l1 : Option Nat) (l2 : Option Nat) (l3 : Int32) (M : gM), k18 l1 l2 l3 M = some r → GW 67 bcK bsK X_L_law 18 [(0, vr (some 0)), (1, vr l1), (2, vr l2), (3, vi l3)] [] M (some (vi r.1), r.2)) (l1 : Option Nat) (l2 : Option Nat) (l3 : Int32) (M : gM) (h : F_L_law_b288 k18 l1 l2 l3 M = some r) : GW 67 (bcK + 0) (bsK + 0) X_L_law 288 [(0, vr (some 0)), (1, vr l1), (2, vr l2), (3, vi l3)] [] M (some (vi r.1), r.2) := by
  delta F_L_law_b288 at h
  refine GW_aload_n (X := X_L_law) (pc := 288) d_L_law_288 rfl 1 rfl ?_
  refine GW_aload_n (X := X_L_law) (pc := 289) d_L_law_289 rfl 0 rfl ?_
  refine GW_iload_n (X := X_L_law) (pc := 290) d_L_law_290 rfl 3 rfl ?_
  refine GW_iconst (X := X_L_law) (pc := 291) (v := 1) d_L_law_291 (by decide) ?_
  refine GW_iadd (X := X_L_law) (pc := 292) d_L_law_292 ?_
  replace h := g_bd h
  obtain ⟨v1, hv1, h⟩ := h
  refine GW_sald (X := X_L_law) (pc := 293) d_L_law_293 rfl hv1 ?_
  replace h := g_bd h
  obtain ⟨i2, hi2, h⟩ := h
  obtain ⟨rfl, ki2⟩ := g_gO hi2
  replace h := g_bd h
  obtain ⟨⟨v3, M4⟩, hv3, h⟩ := h
  dsimp only at h
  refine GW_callV (X := X_L_law) (pc := 294) (bc0 := bcK + 0) (bs0 := bsK + 0) (r := some (vi v3)) (M2 := M4) (c0 := 11) (T_X11_force (some i2) v1 M (v3, M4) hv3) (Nat.le_of_ble_eq_true rfl) (Nat.le_of_ble_eq_true rfl) rfl g_cok11 ki2 yc_X11_force ⟨m_760, m_761, m_762, m_116, m_763⟩ d_L_law_294 rfl (st := []) rfl (Nat.le_of_ble_eq_true rfl) (by omega) (by omega) (st2 := [vi v3]) rfl ?_
  refine GW_pop (X := X_L_law) (pc := 297) d_L_law_297 rfl ?_
  refine GW_aload_n (X := X_L_law) (pc := 298) d_L_law_298 rfl 2 rfl ?_
  refine GW_aload_n (X := X_L_law) (pc := 299) d_L_law_299 rfl 0 rfl ?_
  refine GW_iload_n (X := X_L_law) (pc := 300) d_L_law_300 rfl 3 rfl ?_
  refine GW_iconst (X := X_L_law) (pc := 301) (v := 1) d_L_law_301 (by decide) ?_
  refine GW_iadd (X := X_L_law) (pc := 302) d_L_law_302 ?_
  replace h := g_bd h
  obtain ⟨v5, hv5, h⟩ := h
  refine GW_sald (X := X_L_law) (pc := 303) d_L_law_303 rfl hv5 ?_
  replace h := g_bd h
  obtain ⟨i6, hi6, h⟩ := h
  obtain ⟨rfl, ki6⟩ := g_gO hi6
  replace h := g_bd h
  obtain ⟨⟨v7, M8⟩, hv7, h⟩ := h
  dsimp only at h
  refine GW_callV (X := X_L_law) (pc := 304) (bc0 := bcK + 0) (bs0 := bsK + 0) (r := some (vi v7)) (M2 := M8) (c0 := 12) (T_X12_force (some i6) v5 M4 (v7, M8) hv7) (Nat.le_of_ble_eq_true rfl) (Nat.le_of_ble_eq_true rfl) rfl g_cok12 ki6 yc_X12_force ⟨m_1403, m_1404, m_1405, m_127, m_1406⟩ d_L_law_304 rfl (st := []) rfl (Nat.le_of_ble_eq_true rfl) (by omega) (by omega) (st2 := [vi v7]) rfl ?_
  refine GW_pop (X := X_L_law) (pc := 307) d_L_law_307 rfl ?_
  refine GW_goto (X := X_L_law) (pc := 308) 1088 d_L_law_308 (by decide) ?_
  exact T_L_law_b1088 bcK bsK k18 r hk18 (some i2) (some i6) l3 M8 h
def F_L_law_b311 (k18 : Option Nat → Option Nat → Int32 → gM → Option (Int32 × gM)) (l1 : Option Nat) (l2 : Option Nat) (l3 : Int32) (M : gM) : Option (Int32 × gM) :=
  (xI M (some 0) (l3 + (1 : Int32))).bind fun v1 => (xI M (some 0) (l3 + (2 : Int32))).bind fun v2 => (gO 11 M l1).bind fun i3 => (F_X11_heir (some i3) v1 v2 M).bind fun v4 => (xI M (some 0) (l3 + (1 : Int32))).bind fun v5 => (xI M (some 0) (l3 + (2 : Int32))).bind fun v6 => (gO 12 M l2).bind fun i7 => (F_X12_heir (some i7) v5 v6 M).bind fun v8 => F_L_law_b1088 k18 (some i3) (some i7) l3 M
set_option maxHeartbeats 1000000 in
theorem T_L_law_b311 (bcK bsK : Nat) (k18 : Option Nat → Option Nat → Int32 → gM → Option (Int32 × gM)) (r : (Int32 × gM)) (hk18 : ∀ (l1 : Option Nat) (l2 : Option Nat) (l3 : Int32) (M : gM), k18 l1 l2 l3 M = some r → GW 67 bcK bsK X_L_law 18 [(0, vr (some 0)), (1, vr l1), (2, vr l2), (3, vi l3)] [] M (some (vi r.1), r.2)) (l1 : Option Nat) (l2 : Option Nat) (l3 : Int32) (M : gM) (h : F_L_law_b311 k18 l1 l2 l3 M = some r) : GW 67 (bcK + 0) (bsK + 0) X_L_law 311 [(0, vr (some 0)), (1, vr l1), (2, vr l2), (3, vi l3)] [] M (some (vi r.1), r.2) := by
  delta F_L_law_b311 at h
  refine GW_aload_n (X := X_L_law) (pc := 311) d_L_law_311 rfl 1 rfl ?_
  refine GW_aload_n (X := X_L_law) (pc := 312) d_L_law_312 rfl 0 rfl ?_
  refine GW_iload_n (X := X_L_law) (pc := 313) d_L_law_313 rfl 3 rfl ?_
  refine GW_iconst (X := X_L_law) (pc := 314) (v := 1) d_L_law_314 (by decide) ?_
  refine GW_iadd (X := X_L_law) (pc := 315) d_L_law_315 ?_
  replace h := g_bd h
  obtain ⟨v1, hv1, h⟩ := h
  refine GW_sald (X := X_L_law) (pc := 316) d_L_law_316 rfl hv1 ?_
  refine GW_aload_n (X := X_L_law) (pc := 317) d_L_law_317 rfl 0 rfl ?_
  refine GW_iload_n (X := X_L_law) (pc := 318) d_L_law_318 rfl 3 rfl ?_
  refine GW_iconst (X := X_L_law) (pc := 319) (v := 2) d_L_law_319 (by decide) ?_
  refine GW_iadd (X := X_L_law) (pc := 320) d_L_law_320 ?_
  replace h := g_bd h
  obtain ⟨v2, hv2, h⟩ := h
  refine GW_sald (X := X_L_law) (pc := 321) d_L_law_321 rfl hv2 ?_
  replace h := g_bd h
  obtain ⟨i3, hi3, h⟩ := h
  obtain ⟨rfl, ki3⟩ := g_gO hi3
  replace h := g_bd h
  obtain ⟨v4, hv4, h⟩ := h
  refine GW_callV (X := X_L_law) (pc := 322) (bc0 := bcK + 0) (bs0 := bsK + 0) (r := some (vi v4)) (M2 := M) (c0 := 11) (T_X11_heir (some i3) v1 v2 M v4 hv4) (Nat.le_of_ble_eq_true rfl) (Nat.le_of_ble_eq_true rfl) rfl g_cok11 ki3 yc_X11_heir ⟨m_764, m_765, m_766, m_116, m_767⟩ d_L_law_322 rfl (st := []) rfl (Nat.le_of_ble_eq_true rfl) (by omega) (by omega) (st2 := [vi v4]) rfl ?_
  refine GW_pop (X := X_L_law) (pc := 325) d_L_law_325 rfl ?_
  refine GW_aload_n (X := X_L_law) (pc := 326) d_L_law_326 rfl 2 rfl ?_
  refine GW_aload_n (X := X_L_law) (pc := 327) d_L_law_327 rfl 0 rfl ?_
  refine GW_iload_n (X := X_L_law) (pc := 328) d_L_law_328 rfl 3 rfl ?_
  refine GW_iconst (X := X_L_law) (pc := 329) (v := 1) d_L_law_329 (by decide) ?_
  refine GW_iadd (X := X_L_law) (pc := 330) d_L_law_330 ?_
  replace h := g_bd h
  obtain ⟨v5, hv5, h⟩ := h
  refine GW_sald (X := X_L_law) (pc := 331) d_L_law_331 rfl hv5 ?_
  refine GW_aload_n (X := X_L_law) (pc := 332) d_L_law_332 rfl 0 rfl ?_
  refine GW_iload_n (X := X_L_law) (pc := 333) d_L_law_333 rfl 3 rfl ?_
  refine GW_iconst (X := X_L_law) (pc := 334) (v := 2) d_L_law_334 (by decide) ?_
  refine GW_iadd (X := X_L_law) (pc := 335) d_L_law_335 ?_
  replace h := g_bd h
  obtain ⟨v6, hv6, h⟩ := h
  refine GW_sald (X := X_L_law) (pc := 336) d_L_law_336 rfl hv6 ?_
  replace h := g_bd h
  obtain ⟨i7, hi7, h⟩ := h
  obtain ⟨rfl, ki7⟩ := g_gO hi7
  replace h := g_bd h
  obtain ⟨v8, hv8, h⟩ := h
  refine GW_callV (X := X_L_law) (pc := 337) (bc0 := bcK + 0) (bs0 := bsK + 0) (r := some (vi v8)) (M2 := M) (c0 := 12) (T_X12_heir (some i7) v5 v6 M v8 hv8) (Nat.le_of_ble_eq_true rfl) (Nat.le_of_ble_eq_true rfl) rfl g_cok12 ki7 yc_X12_heir ⟨m_1411, m_1412, m_1413, m_127, m_1414⟩ d_L_law_337 rfl (st := []) rfl (Nat.le_of_ble_eq_true rfl) (by omega) (by omega) (st2 := [vi v8]) rfl ?_
  refine GW_pop (X := X_L_law) (pc := 340) d_L_law_340 rfl ?_
  refine GW_goto (X := X_L_law) (pc := 341) 1088 d_L_law_341 (by decide) ?_
  exact T_L_law_b1088 bcK bsK k18 r hk18 (some i3) (some i7) l3 M h
def F_L_law_b344 (k18 : Option Nat → Option Nat → Int32 → gM → Option (Int32 × gM)) (l1 : Option Nat) (l2 : Option Nat) (l3 : Int32) (M : gM) : Option (Int32 × gM) :=
  (xI M (some 0) (l3 + (1 : Int32))).bind fun v1 => (xI M (some 0) (l3 + (2 : Int32))).bind fun v2 => (gO 11 M l1).bind fun i3 => (F_X11_thing (some i3) v1 v2 M).bind fun v4 => (xI M (some 0) (l3 + (1 : Int32))).bind fun v5 => (xI M (some 0) (l3 + (2 : Int32))).bind fun v6 => (gO 12 M l2).bind fun i7 => (F_X12_thing (some i7) v5 v6 M).bind fun v8 => F_L_law_b1088 k18 (some i3) (some i7) l3 M
set_option maxHeartbeats 1000000 in
theorem T_L_law_b344 (bcK bsK : Nat) (k18 : Option Nat → Option Nat → Int32 → gM → Option (Int32 × gM)) (r : (Int32 × gM)) (hk18 : ∀ (l1 : Option Nat) (l2 : Option Nat) (l3 : Int32) (M : gM), k18 l1 l2 l3 M = some r → GW 67 bcK bsK X_L_law 18 [(0, vr (some 0)), (1, vr l1), (2, vr l2), (3, vi l3)] [] M (some (vi r.1), r.2)) (l1 : Option Nat) (l2 : Option Nat) (l3 : Int32) (M : gM) (h : F_L_law_b344 k18 l1 l2 l3 M = some r) : GW 67 (bcK + 0) (bsK + 0) X_L_law 344 [(0, vr (some 0)), (1, vr l1), (2, vr l2), (3, vi l3)] [] M (some (vi r.1), r.2) := by
  delta F_L_law_b344 at h
  refine GW_aload_n (X := X_L_law) (pc := 344) d_L_law_344 rfl 1 rfl ?_
  refine GW_aload_n (X := X_L_law) (pc := 345) d_L_law_345 rfl 0 rfl ?_
  refine GW_iload_n (X := X_L_law) (pc := 346) d_L_law_346 rfl 3 rfl ?_
  refine GW_iconst (X := X_L_law) (pc := 347) (v := 1) d_L_law_347 (by decide) ?_
  refine GW_iadd (X := X_L_law) (pc := 348) d_L_law_348 ?_
  replace h := g_bd h
  obtain ⟨v1, hv1, h⟩ := h
  refine GW_sald (X := X_L_law) (pc := 349) d_L_law_349 rfl hv1 ?_
  refine GW_aload_n (X := X_L_law) (pc := 350) d_L_law_350 rfl 0 rfl ?_
  refine GW_iload_n (X := X_L_law) (pc := 351) d_L_law_351 rfl 3 rfl ?_
  refine GW_iconst (X := X_L_law) (pc := 352) (v := 2) d_L_law_352 (by decide) ?_
  refine GW_iadd (X := X_L_law) (pc := 353) d_L_law_353 ?_
  replace h := g_bd h
  obtain ⟨v2, hv2, h⟩ := h
  refine GW_sald (X := X_L_law) (pc := 354) d_L_law_354 rfl hv2 ?_
  replace h := g_bd h
  obtain ⟨i3, hi3, h⟩ := h
  obtain ⟨rfl, ki3⟩ := g_gO hi3
  replace h := g_bd h
  obtain ⟨v4, hv4, h⟩ := h
  refine GW_callV (X := X_L_law) (pc := 355) (bc0 := bcK + 0) (bs0 := bsK + 0) (r := some (vi v4)) (M2 := M) (c0 := 11) (T_X11_thing (some i3) v1 v2 M v4 hv4) (Nat.le_of_ble_eq_true rfl) (Nat.le_of_ble_eq_true rfl) rfl g_cok11 ki3 yc_X11_thing ⟨m_790, m_791, m_792, m_116, m_793⟩ d_L_law_355 rfl (st := []) rfl (Nat.le_of_ble_eq_true rfl) (by omega) (by omega) (st2 := [vi v4]) rfl ?_
  refine GW_pop (X := X_L_law) (pc := 358) d_L_law_358 rfl ?_
  refine GW_aload_n (X := X_L_law) (pc := 359) d_L_law_359 rfl 2 rfl ?_
  refine GW_aload_n (X := X_L_law) (pc := 360) d_L_law_360 rfl 0 rfl ?_
  refine GW_iload_n (X := X_L_law) (pc := 361) d_L_law_361 rfl 3 rfl ?_
  refine GW_iconst (X := X_L_law) (pc := 362) (v := 1) d_L_law_362 (by decide) ?_
  refine GW_iadd (X := X_L_law) (pc := 363) d_L_law_363 ?_
  replace h := g_bd h
  obtain ⟨v5, hv5, h⟩ := h
  refine GW_sald (X := X_L_law) (pc := 364) d_L_law_364 rfl hv5 ?_
  refine GW_aload_n (X := X_L_law) (pc := 365) d_L_law_365 rfl 0 rfl ?_
  refine GW_iload_n (X := X_L_law) (pc := 366) d_L_law_366 rfl 3 rfl ?_
  refine GW_iconst (X := X_L_law) (pc := 367) (v := 2) d_L_law_367 (by decide) ?_
  refine GW_iadd (X := X_L_law) (pc := 368) d_L_law_368 ?_
  replace h := g_bd h
  obtain ⟨v6, hv6, h⟩ := h
  refine GW_sald (X := X_L_law) (pc := 369) d_L_law_369 rfl hv6 ?_
  replace h := g_bd h
  obtain ⟨i7, hi7, h⟩ := h
  obtain ⟨rfl, ki7⟩ := g_gO hi7
  replace h := g_bd h
  obtain ⟨v8, hv8, h⟩ := h
  refine GW_callV (X := X_L_law) (pc := 370) (bc0 := bcK + 0) (bs0 := bsK + 0) (r := some (vi v8)) (M2 := M) (c0 := 12) (T_X12_thing (some i7) v5 v6 M v8 hv8) (Nat.le_of_ble_eq_true rfl) (Nat.le_of_ble_eq_true rfl) rfl g_cok12 ki7 yc_X12_thing ⟨m_1444, m_1445, m_1446, m_127, m_1447⟩ d_L_law_370 rfl (st := []) rfl (Nat.le_of_ble_eq_true rfl) (by omega) (by omega) (st2 := [vi v8]) rfl ?_
  refine GW_pop (X := X_L_law) (pc := 373) d_L_law_373 rfl ?_
  refine GW_goto (X := X_L_law) (pc := 374) 1088 d_L_law_374 (by decide) ?_
  exact T_L_law_b1088 bcK bsK k18 r hk18 (some i3) (some i7) l3 M h
def F_L_law_b377 (k18 : Option Nat → Option Nat → Int32 → gM → Option (Int32 × gM)) (l1 : Option Nat) (l2 : Option Nat) (l3 : Int32) (M : gM) : Option (Int32 × gM) :=
  (xI M (some 0) (l3 + (1 : Int32))).bind fun v1 => (xI M (some 0) (l3 + (2 : Int32))).bind fun v2 => (xI M (some 0) (l3 + (3 : Int32))).bind fun v3 => (gO 11 M l1).bind fun i4 => (F_X11_knows (some i4) v1 v2 v3 M).bind fun v5 => (xI M (some 0) (l3 + (1 : Int32))).bind fun v6 => (xI M (some 0) (l3 + (2 : Int32))).bind fun v7 => (xI M (some 0) (l3 + (3 : Int32))).bind fun v8 => (gO 12 M l2).bind fun i9 => (F_X12_knows (some i9) v6 v7 v8 M).bind fun v10 => F_L_law_b1088 k18 (some i4) (some i9) l3 M
set_option maxHeartbeats 1000000 in
theorem T_L_law_b377 (bcK bsK : Nat) (k18 : Option Nat → Option Nat → Int32 → gM → Option (Int32 × gM)) (r : (Int32 × gM)) (hk18 : ∀ (l1 : Option Nat) (l2 : Option Nat) (l3 : Int32) (M : gM), k18 l1 l2 l3 M = some r → GW 67 bcK bsK X_L_law 18 [(0, vr (some 0)), (1, vr l1), (2, vr l2), (3, vi l3)] [] M (some (vi r.1), r.2)) (l1 : Option Nat) (l2 : Option Nat) (l3 : Int32) (M : gM) (h : F_L_law_b377 k18 l1 l2 l3 M = some r) : GW 67 (bcK + 0) (bsK + 0) X_L_law 377 [(0, vr (some 0)), (1, vr l1), (2, vr l2), (3, vi l3)] [] M (some (vi r.1), r.2) := by
  delta F_L_law_b377 at h
  refine GW_aload_n (X := X_L_law) (pc := 377) d_L_law_377 rfl 1 rfl ?_
  refine GW_aload_n (X := X_L_law) (pc := 378) d_L_law_378 rfl 0 rfl ?_
  refine GW_iload_n (X := X_L_law) (pc := 379) d_L_law_379 rfl 3 rfl ?_
  refine GW_iconst (X := X_L_law) (pc := 380) (v := 1) d_L_law_380 (by decide) ?_
  refine GW_iadd (X := X_L_law) (pc := 381) d_L_law_381 ?_
  replace h := g_bd h
  obtain ⟨v1, hv1, h⟩ := h
  refine GW_sald (X := X_L_law) (pc := 382) d_L_law_382 rfl hv1 ?_
  refine GW_aload_n (X := X_L_law) (pc := 383) d_L_law_383 rfl 0 rfl ?_
  refine GW_iload_n (X := X_L_law) (pc := 384) d_L_law_384 rfl 3 rfl ?_
  refine GW_iconst (X := X_L_law) (pc := 385) (v := 2) d_L_law_385 (by decide) ?_
  refine GW_iadd (X := X_L_law) (pc := 386) d_L_law_386 ?_
  replace h := g_bd h
  obtain ⟨v2, hv2, h⟩ := h
  refine GW_sald (X := X_L_law) (pc := 387) d_L_law_387 rfl hv2 ?_
  refine GW_aload_n (X := X_L_law) (pc := 388) d_L_law_388 rfl 0 rfl ?_
  refine GW_iload_n (X := X_L_law) (pc := 389) d_L_law_389 rfl 3 rfl ?_
  refine GW_iconst (X := X_L_law) (pc := 390) (v := 3) d_L_law_390 (by decide) ?_
  refine GW_iadd (X := X_L_law) (pc := 391) d_L_law_391 ?_
  replace h := g_bd h
  obtain ⟨v3, hv3, h⟩ := h
  refine GW_sald (X := X_L_law) (pc := 392) d_L_law_392 rfl hv3 ?_
  replace h := g_bd h
  obtain ⟨i4, hi4, h⟩ := h
  obtain ⟨rfl, ki4⟩ := g_gO hi4
  replace h := g_bd h
  obtain ⟨v5, hv5, h⟩ := h
  refine GW_callV (X := X_L_law) (pc := 393) (bc0 := bcK + 0) (bs0 := bsK + 0) (r := some (vi v5)) (M2 := M) (c0 := 11) (T_X11_knows (some i4) v1 v2 v3 M v5 hv5) (Nat.le_of_ble_eq_true rfl) (Nat.le_of_ble_eq_true rfl) rfl g_cok11 ki4 yc_X11_knows ⟨m_799, m_800, m_801, m_116, m_802⟩ d_L_law_393 rfl (st := []) rfl (Nat.le_of_ble_eq_true rfl) (by omega) (by omega) (st2 := [vi v5]) rfl ?_
  refine GW_pop (X := X_L_law) (pc := 396) d_L_law_396 rfl ?_
  refine GW_aload_n (X := X_L_law) (pc := 397) d_L_law_397 rfl 2 rfl ?_
  refine GW_aload_n (X := X_L_law) (pc := 398) d_L_law_398 rfl 0 rfl ?_
  refine GW_iload_n (X := X_L_law) (pc := 399) d_L_law_399 rfl 3 rfl ?_
  refine GW_iconst (X := X_L_law) (pc := 400) (v := 1) d_L_law_400 (by decide) ?_
  refine GW_iadd (X := X_L_law) (pc := 401) d_L_law_401 ?_
  replace h := g_bd h
  obtain ⟨v6, hv6, h⟩ := h
  refine GW_sald (X := X_L_law) (pc := 402) d_L_law_402 rfl hv6 ?_
  refine GW_aload_n (X := X_L_law) (pc := 403) d_L_law_403 rfl 0 rfl ?_
  refine GW_iload_n (X := X_L_law) (pc := 404) d_L_law_404 rfl 3 rfl ?_
  refine GW_iconst (X := X_L_law) (pc := 405) (v := 2) d_L_law_405 (by decide) ?_
  refine GW_iadd (X := X_L_law) (pc := 406) d_L_law_406 ?_
  replace h := g_bd h
  obtain ⟨v7, hv7, h⟩ := h
  refine GW_sald (X := X_L_law) (pc := 407) d_L_law_407 rfl hv7 ?_
  refine GW_aload_n (X := X_L_law) (pc := 408) d_L_law_408 rfl 0 rfl ?_
  refine GW_iload_n (X := X_L_law) (pc := 409) d_L_law_409 rfl 3 rfl ?_
  refine GW_iconst (X := X_L_law) (pc := 410) (v := 3) d_L_law_410 (by decide) ?_
  refine GW_iadd (X := X_L_law) (pc := 411) d_L_law_411 ?_
  replace h := g_bd h
  obtain ⟨v8, hv8, h⟩ := h
  refine GW_sald (X := X_L_law) (pc := 412) d_L_law_412 rfl hv8 ?_
  replace h := g_bd h
  obtain ⟨i9, hi9, h⟩ := h
  obtain ⟨rfl, ki9⟩ := g_gO hi9
  replace h := g_bd h
  obtain ⟨v10, hv10, h⟩ := h
  refine GW_callV (X := X_L_law) (pc := 413) (bc0 := bcK + 0) (bs0 := bsK + 0) (r := some (vi v10)) (M2 := M) (c0 := 12) (T_X12_knows (some i9) v6 v7 v8 M v10 hv10) (Nat.le_of_ble_eq_true rfl) (Nat.le_of_ble_eq_true rfl) rfl g_cok12 ki9 yc_X12_knows ⟨m_1457, m_1458, m_1459, m_127, m_1460⟩ d_L_law_413 rfl (st := []) rfl (Nat.le_of_ble_eq_true rfl) (by omega) (by omega) (st2 := [vi v10]) rfl ?_
  refine GW_pop (X := X_L_law) (pc := 416) d_L_law_416 rfl ?_
  refine GW_goto (X := X_L_law) (pc := 417) 1088 d_L_law_417 (by decide) ?_
  exact T_L_law_b1088 bcK bsK k18 r hk18 (some i4) (some i9) l3 M h
def F_L_law_b420 (k18 : Option Nat → Option Nat → Int32 → gM → Option (Int32 × gM)) (l1 : Option Nat) (l2 : Option Nat) (l3 : Int32) (M : gM) : Option (Int32 × gM) :=
  (gO 11 M l1).bind fun i1 => (F_X11_year (some i1) M).bind fun (v2, M3) => (gO 12 M3 l2).bind fun i4 => (F_X12_year (some i4) M3).bind fun (v5, M6) => F_L_law_b1088 k18 (some i1) (some i4) l3 M6
theorem T_L_law_b420 (bcK bsK : Nat) (k18 : Option Nat → Option Nat → Int32 → gM → Option (Int32 × gM)) (r : (Int32 × gM)) (hk18 : ∀ (l1 : Option Nat) (l2 : Option Nat) (l3 : Int32) (M : gM), k18 l1 l2 l3 M = some r → GW 67 bcK bsK X_L_law 18 [(0, vr (some 0)), (1, vr l1), (2, vr l2), (3, vi l3)] [] M (some (vi r.1), r.2)) (l1 : Option Nat) (l2 : Option Nat) (l3 : Int32) (M : gM) (h : F_L_law_b420 k18 l1 l2 l3 M = some r) : GW 67 (bcK + 0) (bsK + 0) X_L_law 420 [(0, vr (some 0)), (1, vr l1), (2, vr l2), (3, vi l3)] [] M (some (vi r.1), r.2) := by
  delta F_L_law_b420 at h
  refine GW_aload_n (X := X_L_law) (pc := 420) d_L_law_420 rfl 1 rfl ?_
  replace h := g_bd h
  obtain ⟨i1, hi1, h⟩ := h
  obtain ⟨rfl, ki1⟩ := g_gO hi1
  replace h := g_bd h
  obtain ⟨⟨v2, M3⟩, hv2, h⟩ := h
  dsimp only at h
  refine GW_callV (X := X_L_law) (pc := 421) (bc0 := bcK + 0) (bs0 := bsK + 0) (r := some (vi v2)) (M2 := M3) (c0 := 11) (T_X11_year (some i1) M (v2, M3) hv2) (Nat.le_of_ble_eq_true rfl) (Nat.le_of_ble_eq_true rfl) rfl g_cok11 ki1 yc_X11_year ⟨m_821, m_822, m_823, m_116, m_824⟩ d_L_law_421 rfl (st := []) rfl (Nat.le_of_ble_eq_true rfl) (by omega) (by omega) (st2 := [vi v2]) rfl ?_
  refine GW_pop (X := X_L_law) (pc := 424) d_L_law_424 rfl ?_
  refine GW_aload_n (X := X_L_law) (pc := 425) d_L_law_425 rfl 2 rfl ?_
  replace h := g_bd h
  obtain ⟨i4, hi4, h⟩ := h
  obtain ⟨rfl, ki4⟩ := g_gO hi4
  replace h := g_bd h
  obtain ⟨⟨v5, M6⟩, hv5, h⟩ := h
  dsimp only at h
  refine GW_callV (X := X_L_law) (pc := 426) (bc0 := bcK + 0) (bs0 := bsK + 0) (r := some (vi v5)) (M2 := M6) (c0 := 12) (T_X12_year (some i4) M3 (v5, M6) hv5) (Nat.le_of_ble_eq_true rfl) (Nat.le_of_ble_eq_true rfl) rfl g_cok12 ki4 yc_X12_year ⟨m_1465, m_1466, m_1467, m_127, m_1468⟩ d_L_law_426 rfl (st := []) rfl (Nat.le_of_ble_eq_true rfl) (by omega) (by omega) (st2 := [vi v5]) rfl ?_
  refine GW_pop (X := X_L_law) (pc := 429) d_L_law_429 rfl ?_
  refine GW_goto (X := X_L_law) (pc := 430) 1088 d_L_law_430 (by decide) ?_
  exact T_L_law_b1088 bcK bsK k18 r hk18 (some i1) (some i4) l3 M6 h
def F_L_law_b495 (k18 : Option Nat → Option Nat → Int32 → gM → Option (Int32 × gM)) (l1 : Option Nat) (l2 : Option Nat) (l3 : Int32) (s0 : Option Nat) (s1 : Int32) (s2 : Int32) (s3 : Int32) (s4 : Int32) (M : gM) : Option (Int32 × gM) :=
  (gO 12 M s0).bind fun i1 => (F_X12_tell (some i1) s1 s2 s3 s4 M).bind fun (v2, M3) => F_L_law_b1088 k18 l1 l2 l3 M3
theorem T_L_law_b495 (bcK bsK : Nat) (k18 : Option Nat → Option Nat → Int32 → gM → Option (Int32 × gM)) (r : (Int32 × gM)) (hk18 : ∀ (l1 : Option Nat) (l2 : Option Nat) (l3 : Int32) (M : gM), k18 l1 l2 l3 M = some r → GW 67 bcK bsK X_L_law 18 [(0, vr (some 0)), (1, vr l1), (2, vr l2), (3, vi l3)] [] M (some (vi r.1), r.2)) (l1 : Option Nat) (l2 : Option Nat) (l3 : Int32) (s0 : Option Nat) (s1 : Int32) (s2 : Int32) (s3 : Int32) (s4 : Int32) (M : gM) (h : F_L_law_b495 k18 l1 l2 l3 s0 s1 s2 s3 s4 M = some r) : GW 67 (bcK + 0) (bsK + 0) X_L_law 495 [(0, vr (some 0)), (1, vr l1), (2, vr l2), (3, vi l3)] [vi s4, vi s3, vi s2, vi s1, vr s0] M (some (vi r.1), r.2) := by
  delta F_L_law_b495 at h
  replace h := g_bd h
  obtain ⟨i1, hi1, h⟩ := h
  obtain ⟨rfl, ki1⟩ := g_gO hi1
  replace h := g_bd h
  obtain ⟨⟨v2, M3⟩, hv2, h⟩ := h
  dsimp only at h
  refine GW_callV (X := X_L_law) (pc := 495) (bc0 := bcK + 0) (bs0 := bsK + 0) (r := some (vi v2)) (M2 := M3) (c0 := 12) (T_X12_tell (some i1) s1 s2 s3 s4 M (v2, M3) hv2) (Nat.le_of_ble_eq_true rfl) (Nat.le_of_ble_eq_true rfl) rfl g_cok12 ki1 yc_X12_tell ⟨m_1521, m_1522, m_1523, m_127, m_1524⟩ d_L_law_495 rfl (st := []) rfl (Nat.le_of_ble_eq_true rfl) (by omega) (by omega) (st2 := [vi v2]) rfl ?_
  refine GW_pop (X := X_L_law) (pc := 498) d_L_law_498 rfl ?_
  refine GW_goto (X := X_L_law) (pc := 499) 1088 d_L_law_499 (by decide) ?_
  exact T_L_law_b1088 bcK bsK k18 r hk18 l1 l2 l3 M3 h
def F_L_law_b462 (k18 : Option Nat → Option Nat → Int32 → gM → Option (Int32 × gM)) (l1 : Option Nat) (l2 : Option Nat) (l3 : Int32) (s0 : Option Nat) (s1 : Int32) (s2 : Int32) (s3 : Int32) (s4 : Int32) (M : gM) : Option (Int32 × gM) :=
  (gO 11 M s0).bind fun i1 => (F_X11_tell (some i1) s1 s2 s3 s4 M).bind fun (v2, M3) => (xI M3 (some 0) (l3 + (1 : Int32))).bind fun v4 => (xI M3 (some 0) (l3 + (2 : Int32))).bind fun v5 => (xI M3 (some 0) (l3 + (3 : Int32))).bind fun v6 => (xI M3 (some 0) (l3 + (4 : Int32))).bind fun v7 => if v7 = 0 then (F_L_law_b495 k18 l1 l2 l3 l2 v4 v5 v6 (0 : Int32) M3) else (F_L_law_b495 k18 l1 l2 l3 l2 v4 v5 v6 (1 : Int32) M3)
set_option maxHeartbeats 1000000 in
theorem T_L_law_b462 (bcK bsK : Nat) (k18 : Option Nat → Option Nat → Int32 → gM → Option (Int32 × gM)) (r : (Int32 × gM)) (hk18 : ∀ (l1 : Option Nat) (l2 : Option Nat) (l3 : Int32) (M : gM), k18 l1 l2 l3 M = some r → GW 67 bcK bsK X_L_law 18 [(0, vr (some 0)), (1, vr l1), (2, vr l2), (3, vi l3)] [] M (some (vi r.1), r.2)) (l1 : Option Nat) (l2 : Option Nat) (l3 : Int32) (s0 : Option Nat) (s1 : Int32) (s2 : Int32) (s3 : Int32) (s4 : Int32) (M : gM) (h : F_L_law_b462 k18 l1 l2 l3 s0 s1 s2 s3 s4 M = some r) : GW 67 (bcK + 0) (bsK + 0) X_L_law 462 [(0, vr (some 0)), (1, vr l1), (2, vr l2), (3, vi l3)] [vi s4, vi s3, vi s2, vi s1, vr s0] M (some (vi r.1), r.2) := by
  delta F_L_law_b462 at h
  replace h := g_bd h
  obtain ⟨i1, hi1, h⟩ := h
  obtain ⟨rfl, ki1⟩ := g_gO hi1
  replace h := g_bd h
  obtain ⟨⟨v2, M3⟩, hv2, h⟩ := h
  dsimp only at h
  refine GW_callV (X := X_L_law) (pc := 462) (bc0 := bcK + 0) (bs0 := bsK + 0) (r := some (vi v2)) (M2 := M3) (c0 := 11) (T_X11_tell (some i1) s1 s2 s3 s4 M (v2, M3) hv2) (Nat.le_of_ble_eq_true rfl) (Nat.le_of_ble_eq_true rfl) rfl g_cok11 ki1 yc_X11_tell ⟨m_900, m_901, m_902, m_116, m_903⟩ d_L_law_462 rfl (st := []) rfl (Nat.le_of_ble_eq_true rfl) (by omega) (by omega) (st2 := [vi v2]) rfl ?_
  refine GW_pop (X := X_L_law) (pc := 465) d_L_law_465 rfl ?_
  refine GW_aload_n (X := X_L_law) (pc := 466) d_L_law_466 rfl 2 rfl ?_
  refine GW_aload_n (X := X_L_law) (pc := 467) d_L_law_467 rfl 0 rfl ?_
  refine GW_iload_n (X := X_L_law) (pc := 468) d_L_law_468 rfl 3 rfl ?_
  refine GW_iconst (X := X_L_law) (pc := 469) (v := 1) d_L_law_469 (by decide) ?_
  refine GW_iadd (X := X_L_law) (pc := 470) d_L_law_470 ?_
  replace h := g_bd h
  obtain ⟨v4, hv4, h⟩ := h
  refine GW_sald (X := X_L_law) (pc := 471) d_L_law_471 rfl hv4 ?_
  refine GW_aload_n (X := X_L_law) (pc := 472) d_L_law_472 rfl 0 rfl ?_
  refine GW_iload_n (X := X_L_law) (pc := 473) d_L_law_473 rfl 3 rfl ?_
  refine GW_iconst (X := X_L_law) (pc := 474) (v := 2) d_L_law_474 (by decide) ?_
  refine GW_iadd (X := X_L_law) (pc := 475) d_L_law_475 ?_
  replace h := g_bd h
  obtain ⟨v5, hv5, h⟩ := h
  refine GW_sald (X := X_L_law) (pc := 476) d_L_law_476 rfl hv5 ?_
  refine GW_aload_n (X := X_L_law) (pc := 477) d_L_law_477 rfl 0 rfl ?_
  refine GW_iload_n (X := X_L_law) (pc := 478) d_L_law_478 rfl 3 rfl ?_
  refine GW_iconst (X := X_L_law) (pc := 479) (v := 3) d_L_law_479 (by decide) ?_
  refine GW_iadd (X := X_L_law) (pc := 480) d_L_law_480 ?_
  replace h := g_bd h
  obtain ⟨v6, hv6, h⟩ := h
  refine GW_sald (X := X_L_law) (pc := 481) d_L_law_481 rfl hv6 ?_
  refine GW_aload_n (X := X_L_law) (pc := 482) d_L_law_482 rfl 0 rfl ?_
  refine GW_iload_n (X := X_L_law) (pc := 483) d_L_law_483 rfl 3 rfl ?_
  refine GW_iconst (X := X_L_law) (pc := 484) (v := 4) d_L_law_484 (by decide) ?_
  refine GW_iadd (X := X_L_law) (pc := 485) d_L_law_485 ?_
  replace h := g_bd h
  obtain ⟨v7, hv7, h⟩ := h
  refine GW_sald (X := X_L_law) (pc := 486) d_L_law_486 rfl hv7 ?_
  refine GW_if_eq (X := X_L_law) (pc := 487) 494 d_L_law_487 (by decide) (fun c => ?_) (fun c => ?_)
  · replace h := g_ip c h
    refine GW_iconst (X := X_L_law) (pc := 494) (v := 0) d_L_law_494 (by decide) ?_
    exact T_L_law_b495 bcK bsK k18 r hk18 l1 l2 l3 l2 v4 v5 v6 (0 : Int32) M3 h
  · replace h := g_ie c h
    refine GW_iconst (X := X_L_law) (pc := 490) (v := 1) d_L_law_490 (by decide) ?_
    refine GW_goto (X := X_L_law) (pc := 491) 495 d_L_law_491 (by decide) ?_
    exact T_L_law_b495 bcK bsK k18 r hk18 l1 l2 l3 l2 v4 v5 v6 (1 : Int32) M3 h
def F_L_law_b433 (k18 : Option Nat → Option Nat → Int32 → gM → Option (Int32 × gM)) (l1 : Option Nat) (l2 : Option Nat) (l3 : Int32) (M : gM) : Option (Int32 × gM) :=
  (xI M (some 0) (l3 + (1 : Int32))).bind fun v1 => (xI M (some 0) (l3 + (2 : Int32))).bind fun v2 => (xI M (some 0) (l3 + (3 : Int32))).bind fun v3 => (xI M (some 0) (l3 + (4 : Int32))).bind fun v4 => if v4 = 0 then (F_L_law_b462 k18 l1 l2 l3 l1 v1 v2 v3 (0 : Int32) M) else (F_L_law_b462 k18 l1 l2 l3 l1 v1 v2 v3 (1 : Int32) M)
theorem T_L_law_b433 (bcK bsK : Nat) (k18 : Option Nat → Option Nat → Int32 → gM → Option (Int32 × gM)) (r : (Int32 × gM)) (hk18 : ∀ (l1 : Option Nat) (l2 : Option Nat) (l3 : Int32) (M : gM), k18 l1 l2 l3 M = some r → GW 67 bcK bsK X_L_law 18 [(0, vr (some 0)), (1, vr l1), (2, vr l2), (3, vi l3)] [] M (some (vi r.1), r.2)) (l1 : Option Nat) (l2 : Option Nat) (l3 : Int32) (M : gM) (h : F_L_law_b433 k18 l1 l2 l3 M = some r) : GW 67 (bcK + 0) (bsK + 0) X_L_law 433 [(0, vr (some 0)), (1, vr l1), (2, vr l2), (3, vi l3)] [] M (some (vi r.1), r.2) := by
  delta F_L_law_b433 at h
  refine GW_aload_n (X := X_L_law) (pc := 433) d_L_law_433 rfl 1 rfl ?_
  refine GW_aload_n (X := X_L_law) (pc := 434) d_L_law_434 rfl 0 rfl ?_
  refine GW_iload_n (X := X_L_law) (pc := 435) d_L_law_435 rfl 3 rfl ?_
  refine GW_iconst (X := X_L_law) (pc := 436) (v := 1) d_L_law_436 (by decide) ?_
  refine GW_iadd (X := X_L_law) (pc := 437) d_L_law_437 ?_
  replace h := g_bd h
  obtain ⟨v1, hv1, h⟩ := h
  refine GW_sald (X := X_L_law) (pc := 438) d_L_law_438 rfl hv1 ?_
  refine GW_aload_n (X := X_L_law) (pc := 439) d_L_law_439 rfl 0 rfl ?_
  refine GW_iload_n (X := X_L_law) (pc := 440) d_L_law_440 rfl 3 rfl ?_
  refine GW_iconst (X := X_L_law) (pc := 441) (v := 2) d_L_law_441 (by decide) ?_
  refine GW_iadd (X := X_L_law) (pc := 442) d_L_law_442 ?_
  replace h := g_bd h
  obtain ⟨v2, hv2, h⟩ := h
  refine GW_sald (X := X_L_law) (pc := 443) d_L_law_443 rfl hv2 ?_
  refine GW_aload_n (X := X_L_law) (pc := 444) d_L_law_444 rfl 0 rfl ?_
  refine GW_iload_n (X := X_L_law) (pc := 445) d_L_law_445 rfl 3 rfl ?_
  refine GW_iconst (X := X_L_law) (pc := 446) (v := 3) d_L_law_446 (by decide) ?_
  refine GW_iadd (X := X_L_law) (pc := 447) d_L_law_447 ?_
  replace h := g_bd h
  obtain ⟨v3, hv3, h⟩ := h
  refine GW_sald (X := X_L_law) (pc := 448) d_L_law_448 rfl hv3 ?_
  refine GW_aload_n (X := X_L_law) (pc := 449) d_L_law_449 rfl 0 rfl ?_
  refine GW_iload_n (X := X_L_law) (pc := 450) d_L_law_450 rfl 3 rfl ?_
  refine GW_iconst (X := X_L_law) (pc := 451) (v := 4) d_L_law_451 (by decide) ?_
  refine GW_iadd (X := X_L_law) (pc := 452) d_L_law_452 ?_
  replace h := g_bd h
  obtain ⟨v4, hv4, h⟩ := h
  refine GW_sald (X := X_L_law) (pc := 453) d_L_law_453 rfl hv4 ?_
  refine GW_if_eq (X := X_L_law) (pc := 454) 461 d_L_law_454 (by decide) (fun c => ?_) (fun c => ?_)
  · replace h := g_ip c h
    refine GW_iconst (X := X_L_law) (pc := 461) (v := 0) d_L_law_461 (by decide) ?_
    exact T_L_law_b462 bcK bsK k18 r hk18 l1 l2 l3 l1 v1 v2 v3 (0 : Int32) M h
  · replace h := g_ie c h
    refine GW_iconst (X := X_L_law) (pc := 457) (v := 1) d_L_law_457 (by decide) ?_
    refine GW_goto (X := X_L_law) (pc := 458) 462 d_L_law_458 (by decide) ?_
    exact T_L_law_b462 bcK bsK k18 r hk18 l1 l2 l3 l1 v1 v2 v3 (1 : Int32) M h
def F_L_law_b502 (k18 : Option Nat → Option Nat → Int32 → gM → Option (Int32 × gM)) (l1 : Option Nat) (l2 : Option Nat) (l3 : Int32) (M : gM) : Option (Int32 × gM) :=
  (xI M (some 0) (l3 + (1 : Int32))).bind fun v1 => (xI M (some 0) (l3 + (2 : Int32))).bind fun v2 => (gO 11 M l1).bind fun i3 => (F_X11_prompt (some i3) v1 v2 M).bind fun (v4, M5) => (xI M5 (some 0) (l3 + (1 : Int32))).bind fun v6 => (xI M5 (some 0) (l3 + (2 : Int32))).bind fun v7 => (gO 12 M5 l2).bind fun i8 => (F_X12_prompt (some i8) v6 v7 M5).bind fun (v9, M10) => F_L_law_b1088 k18 (some i3) (some i8) l3 M10
set_option maxHeartbeats 1000000 in
theorem T_L_law_b502 (bcK bsK : Nat) (k18 : Option Nat → Option Nat → Int32 → gM → Option (Int32 × gM)) (r : (Int32 × gM)) (hk18 : ∀ (l1 : Option Nat) (l2 : Option Nat) (l3 : Int32) (M : gM), k18 l1 l2 l3 M = some r → GW 67 bcK bsK X_L_law 18 [(0, vr (some 0)), (1, vr l1), (2, vr l2), (3, vi l3)] [] M (some (vi r.1), r.2)) (l1 : Option Nat) (l2 : Option Nat) (l3 : Int32) (M : gM) (h : F_L_law_b502 k18 l1 l2 l3 M = some r) : GW 67 (bcK + 0) (bsK + 0) X_L_law 502 [(0, vr (some 0)), (1, vr l1), (2, vr l2), (3, vi l3)] [] M (some (vi r.1), r.2) := by
  delta F_L_law_b502 at h
  refine GW_aload_n (X := X_L_law) (pc := 502) d_L_law_502 rfl 1 rfl ?_
  refine GW_aload_n (X := X_L_law) (pc := 503) d_L_law_503 rfl 0 rfl ?_
  refine GW_iload_n (X := X_L_law) (pc := 504) d_L_law_504 rfl 3 rfl ?_
  refine GW_iconst (X := X_L_law) (pc := 505) (v := 1) d_L_law_505 (by decide) ?_
  refine GW_iadd (X := X_L_law) (pc := 506) d_L_law_506 ?_
  replace h := g_bd h
  obtain ⟨v1, hv1, h⟩ := h
  refine GW_sald (X := X_L_law) (pc := 507) d_L_law_507 rfl hv1 ?_
  refine GW_aload_n (X := X_L_law) (pc := 508) d_L_law_508 rfl 0 rfl ?_
  refine GW_iload_n (X := X_L_law) (pc := 509) d_L_law_509 rfl 3 rfl ?_
  refine GW_iconst (X := X_L_law) (pc := 510) (v := 2) d_L_law_510 (by decide) ?_
  refine GW_iadd (X := X_L_law) (pc := 511) d_L_law_511 ?_
  replace h := g_bd h
  obtain ⟨v2, hv2, h⟩ := h
  refine GW_sald (X := X_L_law) (pc := 512) d_L_law_512 rfl hv2 ?_
  replace h := g_bd h
  obtain ⟨i3, hi3, h⟩ := h
  obtain ⟨rfl, ki3⟩ := g_gO hi3
  replace h := g_bd h
  obtain ⟨⟨v4, M5⟩, hv4, h⟩ := h
  dsimp only at h
  refine GW_callV (X := X_L_law) (pc := 513) (bc0 := bcK + 0) (bs0 := bsK + 0) (r := some (vi v4)) (M2 := M5) (c0 := 11) (T_X11_prompt (some i3) v1 v2 M (v4, M5) hv4) (Nat.le_of_ble_eq_true rfl) (Nat.le_of_ble_eq_true rfl) rfl g_cok11 ki3 yc_X11_prompt ⟨m_919, m_920, m_921, m_116, m_922⟩ d_L_law_513 rfl (st := []) rfl (Nat.le_of_ble_eq_true rfl) (by omega) (by omega) (st2 := [vi v4]) rfl ?_
  refine GW_pop (X := X_L_law) (pc := 516) d_L_law_516 rfl ?_
  refine GW_aload_n (X := X_L_law) (pc := 517) d_L_law_517 rfl 2 rfl ?_
  refine GW_aload_n (X := X_L_law) (pc := 518) d_L_law_518 rfl 0 rfl ?_
  refine GW_iload_n (X := X_L_law) (pc := 519) d_L_law_519 rfl 3 rfl ?_
  refine GW_iconst (X := X_L_law) (pc := 520) (v := 1) d_L_law_520 (by decide) ?_
  refine GW_iadd (X := X_L_law) (pc := 521) d_L_law_521 ?_
  replace h := g_bd h
  obtain ⟨v6, hv6, h⟩ := h
  refine GW_sald (X := X_L_law) (pc := 522) d_L_law_522 rfl hv6 ?_
  refine GW_aload_n (X := X_L_law) (pc := 523) d_L_law_523 rfl 0 rfl ?_
  refine GW_iload_n (X := X_L_law) (pc := 524) d_L_law_524 rfl 3 rfl ?_
  refine GW_iconst (X := X_L_law) (pc := 525) (v := 2) d_L_law_525 (by decide) ?_
  refine GW_iadd (X := X_L_law) (pc := 526) d_L_law_526 ?_
  replace h := g_bd h
  obtain ⟨v7, hv7, h⟩ := h
  refine GW_sald (X := X_L_law) (pc := 527) d_L_law_527 rfl hv7 ?_
  replace h := g_bd h
  obtain ⟨i8, hi8, h⟩ := h
  obtain ⟨rfl, ki8⟩ := g_gO hi8
  replace h := g_bd h
  obtain ⟨⟨v9, M10⟩, hv9, h⟩ := h
  dsimp only at h
  refine GW_callV (X := X_L_law) (pc := 528) (bc0 := bcK + 0) (bs0 := bsK + 0) (r := some (vi v9)) (M2 := M10) (c0 := 12) (T_X12_prompt (some i8) v6 v7 M5 (v9, M10) hv9) (Nat.le_of_ble_eq_true rfl) (Nat.le_of_ble_eq_true rfl) rfl g_cok12 ki8 yc_X12_prompt ⟨m_1533, m_1534, m_1535, m_127, m_1536⟩ d_L_law_528 rfl (st := []) rfl (Nat.le_of_ble_eq_true rfl) (by omega) (by omega) (st2 := [vi v9]) rfl ?_
  refine GW_pop (X := X_L_law) (pc := 531) d_L_law_531 rfl ?_
  refine GW_goto (X := X_L_law) (pc := 532) 1088 d_L_law_532 (by decide) ?_
  exact T_L_law_b1088 bcK bsK k18 r hk18 (some i3) (some i8) l3 M10 h
def F_L_law_b535 (k18 : Option Nat → Option Nat → Int32 → gM → Option (Int32 × gM)) (l1 : Option Nat) (l2 : Option Nat) (l3 : Int32) (M : gM) : Option (Int32 × gM) :=
  (xI M (some 0) (l3 + (1 : Int32))).bind fun v1 => (xI M (some 0) (l3 + (2 : Int32))).bind fun v2 => (gO 11 M l1).bind fun i3 => (F_X11_ask (some i3) v1 v2 M).bind fun (v4, M5) => (xI M5 (some 0) (l3 + (1 : Int32))).bind fun v6 => (xI M5 (some 0) (l3 + (2 : Int32))).bind fun v7 => (gO 12 M5 l2).bind fun i8 => (F_X12_ask (some i8) v6 v7 M5).bind fun (v9, M10) => F_L_law_b1088 k18 (some i3) (some i8) l3 M10
set_option maxHeartbeats 1000000 in
theorem T_L_law_b535 (bcK bsK : Nat) (k18 : Option Nat → Option Nat → Int32 → gM → Option (Int32 × gM)) (r : (Int32 × gM)) (hk18 : ∀ (l1 : Option Nat) (l2 : Option Nat) (l3 : Int32) (M : gM), k18 l1 l2 l3 M = some r → GW 67 bcK bsK X_L_law 18 [(0, vr (some 0)), (1, vr l1), (2, vr l2), (3, vi l3)] [] M (some (vi r.1), r.2)) (l1 : Option Nat) (l2 : Option Nat) (l3 : Int32) (M : gM) (h : F_L_law_b535 k18 l1 l2 l3 M = some r) : GW 67 (bcK + 0) (bsK + 0) X_L_law 535 [(0, vr (some 0)), (1, vr l1), (2, vr l2), (3, vi l3)] [] M (some (vi r.1), r.2) := by
  delta F_L_law_b535 at h
  refine GW_aload_n (X := X_L_law) (pc := 535) d_L_law_535 rfl 1 rfl ?_
  refine GW_aload_n (X := X_L_law) (pc := 536) d_L_law_536 rfl 0 rfl ?_
  refine GW_iload_n (X := X_L_law) (pc := 537) d_L_law_537 rfl 3 rfl ?_
  refine GW_iconst (X := X_L_law) (pc := 538) (v := 1) d_L_law_538 (by decide) ?_
  refine GW_iadd (X := X_L_law) (pc := 539) d_L_law_539 ?_
  replace h := g_bd h
  obtain ⟨v1, hv1, h⟩ := h
  refine GW_sald (X := X_L_law) (pc := 540) d_L_law_540 rfl hv1 ?_
  refine GW_aload_n (X := X_L_law) (pc := 541) d_L_law_541 rfl 0 rfl ?_
  refine GW_iload_n (X := X_L_law) (pc := 542) d_L_law_542 rfl 3 rfl ?_
  refine GW_iconst (X := X_L_law) (pc := 543) (v := 2) d_L_law_543 (by decide) ?_
  refine GW_iadd (X := X_L_law) (pc := 544) d_L_law_544 ?_
  replace h := g_bd h
  obtain ⟨v2, hv2, h⟩ := h
  refine GW_sald (X := X_L_law) (pc := 545) d_L_law_545 rfl hv2 ?_
  replace h := g_bd h
  obtain ⟨i3, hi3, h⟩ := h
  obtain ⟨rfl, ki3⟩ := g_gO hi3
  replace h := g_bd h
  obtain ⟨⟨v4, M5⟩, hv4, h⟩ := h
  dsimp only at h
  refine GW_callV (X := X_L_law) (pc := 546) (bc0 := bcK + 0) (bs0 := bsK + 0) (r := some (vi v4)) (M2 := M5) (c0 := 11) (T_X11_ask (some i3) v1 v2 M (v4, M5) hv4) (Nat.le_of_ble_eq_true rfl) (Nat.le_of_ble_eq_true rfl) rfl g_cok11 ki3 yc_X11_ask ⟨m_927, m_928, m_929, m_116, m_930⟩ d_L_law_546 rfl (st := []) rfl (Nat.le_of_ble_eq_true rfl) (by omega) (by omega) (st2 := [vi v4]) rfl ?_
  refine GW_pop (X := X_L_law) (pc := 549) d_L_law_549 rfl ?_
  refine GW_aload_n (X := X_L_law) (pc := 550) d_L_law_550 rfl 2 rfl ?_
  refine GW_aload_n (X := X_L_law) (pc := 551) d_L_law_551 rfl 0 rfl ?_
  refine GW_iload_n (X := X_L_law) (pc := 552) d_L_law_552 rfl 3 rfl ?_
  refine GW_iconst (X := X_L_law) (pc := 553) (v := 1) d_L_law_553 (by decide) ?_
  refine GW_iadd (X := X_L_law) (pc := 554) d_L_law_554 ?_
  replace h := g_bd h
  obtain ⟨v6, hv6, h⟩ := h
  refine GW_sald (X := X_L_law) (pc := 555) d_L_law_555 rfl hv6 ?_
  refine GW_aload_n (X := X_L_law) (pc := 556) d_L_law_556 rfl 0 rfl ?_
  refine GW_iload_n (X := X_L_law) (pc := 557) d_L_law_557 rfl 3 rfl ?_
  refine GW_iconst (X := X_L_law) (pc := 558) (v := 2) d_L_law_558 (by decide) ?_
  refine GW_iadd (X := X_L_law) (pc := 559) d_L_law_559 ?_
  replace h := g_bd h
  obtain ⟨v7, hv7, h⟩ := h
  refine GW_sald (X := X_L_law) (pc := 560) d_L_law_560 rfl hv7 ?_
  replace h := g_bd h
  obtain ⟨i8, hi8, h⟩ := h
  obtain ⟨rfl, ki8⟩ := g_gO hi8
  replace h := g_bd h
  obtain ⟨⟨v9, M10⟩, hv9, h⟩ := h
  dsimp only at h
  refine GW_callV (X := X_L_law) (pc := 561) (bc0 := bcK + 0) (bs0 := bsK + 0) (r := some (vi v9)) (M2 := M10) (c0 := 12) (T_X12_ask (some i8) v6 v7 M5 (v9, M10) hv9) (Nat.le_of_ble_eq_true rfl) (Nat.le_of_ble_eq_true rfl) rfl g_cok12 ki8 yc_X12_ask ⟨m_1537, m_1538, m_1539, m_127, m_1540⟩ d_L_law_561 rfl (st := []) rfl (Nat.le_of_ble_eq_true rfl) (by omega) (by omega) (st2 := [vi v9]) rfl ?_
  refine GW_pop (X := X_L_law) (pc := 564) d_L_law_564 rfl ?_
  refine GW_goto (X := X_L_law) (pc := 565) 1088 d_L_law_565 (by decide) ?_
  exact T_L_law_b1088 bcK bsK k18 r hk18 (some i3) (some i8) l3 M10 h
def F_L_law_b568 (k18 : Option Nat → Option Nat → Int32 → gM → Option (Int32 × gM)) (l1 : Option Nat) (l2 : Option Nat) (l3 : Int32) (M : gM) : Option (Int32 × gM) :=
  (xI M (some 0) (l3 + (1 : Int32))).bind fun v1 => (gO 11 M l1).bind fun i2 => (F_X11_burn (some i2) v1 M).bind fun (v3, M4) => (xI M4 (some 0) (l3 + (1 : Int32))).bind fun v5 => (gO 12 M4 l2).bind fun i6 => (F_X12_burn (some i6) v5 M4).bind fun (v7, M8) => F_L_law_b1088 k18 (some i2) (some i6) l3 M8
theorem T_L_law_b568 (bcK bsK : Nat) (k18 : Option Nat → Option Nat → Int32 → gM → Option (Int32 × gM)) (r : (Int32 × gM)) (hk18 : ∀ (l1 : Option Nat) (l2 : Option Nat) (l3 : Int32) (M : gM), k18 l1 l2 l3 M = some r → GW 67 bcK bsK X_L_law 18 [(0, vr (some 0)), (1, vr l1), (2, vr l2), (3, vi l3)] [] M (some (vi r.1), r.2)) (l1 : Option Nat) (l2 : Option Nat) (l3 : Int32) (M : gM) (h : F_L_law_b568 k18 l1 l2 l3 M = some r) : GW 67 (bcK + 0) (bsK + 0) X_L_law 568 [(0, vr (some 0)), (1, vr l1), (2, vr l2), (3, vi l3)] [] M (some (vi r.1), r.2) := by
  delta F_L_law_b568 at h
  refine GW_aload_n (X := X_L_law) (pc := 568) d_L_law_568 rfl 1 rfl ?_
  refine GW_aload_n (X := X_L_law) (pc := 569) d_L_law_569 rfl 0 rfl ?_
  refine GW_iload_n (X := X_L_law) (pc := 570) d_L_law_570 rfl 3 rfl ?_
  refine GW_iconst (X := X_L_law) (pc := 571) (v := 1) d_L_law_571 (by decide) ?_
  refine GW_iadd (X := X_L_law) (pc := 572) d_L_law_572 ?_
  replace h := g_bd h
  obtain ⟨v1, hv1, h⟩ := h
  refine GW_sald (X := X_L_law) (pc := 573) d_L_law_573 rfl hv1 ?_
  replace h := g_bd h
  obtain ⟨i2, hi2, h⟩ := h
  obtain ⟨rfl, ki2⟩ := g_gO hi2
  replace h := g_bd h
  obtain ⟨⟨v3, M4⟩, hv3, h⟩ := h
  dsimp only at h
  refine GW_callV (X := X_L_law) (pc := 574) (bc0 := bcK + 0) (bs0 := bsK + 0) (r := some (vi v3)) (M2 := M4) (c0 := 11) (T_X11_burn (some i2) v1 M (v3, M4) hv3) (Nat.le_of_ble_eq_true rfl) (Nat.le_of_ble_eq_true rfl) rfl g_cok11 ki2 yc_X11_burn ⟨m_940, m_941, m_942, m_116, m_943⟩ d_L_law_574 rfl (st := []) rfl (Nat.le_of_ble_eq_true rfl) (by omega) (by omega) (st2 := [vi v3]) rfl ?_
  refine GW_pop (X := X_L_law) (pc := 577) d_L_law_577 rfl ?_
  refine GW_aload_n (X := X_L_law) (pc := 578) d_L_law_578 rfl 2 rfl ?_
  refine GW_aload_n (X := X_L_law) (pc := 579) d_L_law_579 rfl 0 rfl ?_
  refine GW_iload_n (X := X_L_law) (pc := 580) d_L_law_580 rfl 3 rfl ?_
  refine GW_iconst (X := X_L_law) (pc := 581) (v := 1) d_L_law_581 (by decide) ?_
  refine GW_iadd (X := X_L_law) (pc := 582) d_L_law_582 ?_
  replace h := g_bd h
  obtain ⟨v5, hv5, h⟩ := h
  refine GW_sald (X := X_L_law) (pc := 583) d_L_law_583 rfl hv5 ?_
  replace h := g_bd h
  obtain ⟨i6, hi6, h⟩ := h
  obtain ⟨rfl, ki6⟩ := g_gO hi6
  replace h := g_bd h
  obtain ⟨⟨v7, M8⟩, hv7, h⟩ := h
  dsimp only at h
  refine GW_callV (X := X_L_law) (pc := 584) (bc0 := bcK + 0) (bs0 := bsK + 0) (r := some (vi v7)) (M2 := M8) (c0 := 12) (T_X12_burn (some i6) v5 M4 (v7, M8) hv7) (Nat.le_of_ble_eq_true rfl) (Nat.le_of_ble_eq_true rfl) rfl g_cok12 ki6 yc_X12_burn ⟨m_1545, m_1546, m_1547, m_127, m_1548⟩ d_L_law_584 rfl (st := []) rfl (Nat.le_of_ble_eq_true rfl) (by omega) (by omega) (st2 := [vi v7]) rfl ?_
  refine GW_pop (X := X_L_law) (pc := 587) d_L_law_587 rfl ?_
  refine GW_goto (X := X_L_law) (pc := 588) 1088 d_L_law_588 (by decide) ?_
  exact T_L_law_b1088 bcK bsK k18 r hk18 (some i2) (some i6) l3 M8 h
def F_L_law_b591 (k18 : Option Nat → Option Nat → Int32 → gM → Option (Int32 × gM)) (l1 : Option Nat) (l2 : Option Nat) (l3 : Int32) (M : gM) : Option (Int32 × gM) :=
  (gO 11 M l1).bind fun i1 => (F_X11_undo (some i1) M).bind fun (v2, M3) => (gO 12 M3 l2).bind fun i4 => (F_X12_undo (some i4) M3).bind fun (v5, M6) => F_L_law_b1088 k18 (some i1) (some i4) l3 M6
theorem T_L_law_b591 (bcK bsK : Nat) (k18 : Option Nat → Option Nat → Int32 → gM → Option (Int32 × gM)) (r : (Int32 × gM)) (hk18 : ∀ (l1 : Option Nat) (l2 : Option Nat) (l3 : Int32) (M : gM), k18 l1 l2 l3 M = some r → GW 67 bcK bsK X_L_law 18 [(0, vr (some 0)), (1, vr l1), (2, vr l2), (3, vi l3)] [] M (some (vi r.1), r.2)) (l1 : Option Nat) (l2 : Option Nat) (l3 : Int32) (M : gM) (h : F_L_law_b591 k18 l1 l2 l3 M = some r) : GW 67 (bcK + 0) (bsK + 0) X_L_law 591 [(0, vr (some 0)), (1, vr l1), (2, vr l2), (3, vi l3)] [] M (some (vi r.1), r.2) := by
  delta F_L_law_b591 at h
  refine GW_aload_n (X := X_L_law) (pc := 591) d_L_law_591 rfl 1 rfl ?_
  replace h := g_bd h
  obtain ⟨i1, hi1, h⟩ := h
  obtain ⟨rfl, ki1⟩ := g_gO hi1
  replace h := g_bd h
  obtain ⟨⟨v2, M3⟩, hv2, h⟩ := h
  dsimp only at h
  refine GW_callV (X := X_L_law) (pc := 592) (bc0 := bcK + 0) (bs0 := bsK + 0) (r := some (vi v2)) (M2 := M3) (c0 := 11) (T_X11_undo (some i1) M (v2, M3) hv2) (Nat.le_of_ble_eq_true rfl) (Nat.le_of_ble_eq_true rfl) rfl g_cok11 ki1 yc_X11_undo ⟨m_944, m_945, m_946, m_116, m_947⟩ d_L_law_592 rfl (st := []) rfl (Nat.le_of_ble_eq_true rfl) (by omega) (by omega) (st2 := [vi v2]) rfl ?_
  refine GW_pop (X := X_L_law) (pc := 595) d_L_law_595 rfl ?_
  refine GW_aload_n (X := X_L_law) (pc := 596) d_L_law_596 rfl 2 rfl ?_
  replace h := g_bd h
  obtain ⟨i4, hi4, h⟩ := h
  obtain ⟨rfl, ki4⟩ := g_gO hi4
  replace h := g_bd h
  obtain ⟨⟨v5, M6⟩, hv5, h⟩ := h
  dsimp only at h
  refine GW_callV (X := X_L_law) (pc := 597) (bc0 := bcK + 0) (bs0 := bsK + 0) (r := some (vi v5)) (M2 := M6) (c0 := 12) (T_X12_undo (some i4) M3 (v5, M6) hv5) (Nat.le_of_ble_eq_true rfl) (Nat.le_of_ble_eq_true rfl) rfl g_cok12 ki4 yc_X12_undo ⟨m_1461, m_1462, m_1463, m_127, m_1464⟩ d_L_law_597 rfl (st := []) rfl (Nat.le_of_ble_eq_true rfl) (by omega) (by omega) (st2 := [vi v5]) rfl ?_
  refine GW_pop (X := X_L_law) (pc := 600) d_L_law_600 rfl ?_
  refine GW_goto (X := X_L_law) (pc := 601) 1088 d_L_law_601 (by decide) ?_
  exact T_L_law_b1088 bcK bsK k18 r hk18 (some i1) (some i4) l3 M6 h
def F_L_law_b604 (k18 : Option Nat → Option Nat → Int32 → gM → Option (Int32 × gM)) (l1 : Option Nat) (l2 : Option Nat) (l3 : Int32) (M : gM) : Option (Int32 × gM) :=
  (xI M (some 0) (l3 + (1 : Int32))).bind fun v1 => (xI M (some 0) (l3 + (2 : Int32))).bind fun v2 => (gO 11 M l1).bind fun i3 => (F_X11_ahead (some i3) v1 v2 M).bind fun (v4, M5) => (xI M5 (some 0) (l3 + (1 : Int32))).bind fun v6 => (xI M5 (some 0) (l3 + (2 : Int32))).bind fun v7 => (gO 12 M5 l2).bind fun i8 => (F_X12_ahead (some i8) v6 v7 M5).bind fun (v9, M10) => F_L_law_b1088 k18 (some i3) (some i8) l3 M10
set_option maxHeartbeats 1000000 in
theorem T_L_law_b604 (bcK bsK : Nat) (k18 : Option Nat → Option Nat → Int32 → gM → Option (Int32 × gM)) (r : (Int32 × gM)) (hk18 : ∀ (l1 : Option Nat) (l2 : Option Nat) (l3 : Int32) (M : gM), k18 l1 l2 l3 M = some r → GW 67 bcK bsK X_L_law 18 [(0, vr (some 0)), (1, vr l1), (2, vr l2), (3, vi l3)] [] M (some (vi r.1), r.2)) (l1 : Option Nat) (l2 : Option Nat) (l3 : Int32) (M : gM) (h : F_L_law_b604 k18 l1 l2 l3 M = some r) : GW 67 (bcK + 0) (bsK + 0) X_L_law 604 [(0, vr (some 0)), (1, vr l1), (2, vr l2), (3, vi l3)] [] M (some (vi r.1), r.2) := by
  delta F_L_law_b604 at h
  refine GW_aload_n (X := X_L_law) (pc := 604) d_L_law_604 rfl 1 rfl ?_
  refine GW_aload_n (X := X_L_law) (pc := 605) d_L_law_605 rfl 0 rfl ?_
  refine GW_iload_n (X := X_L_law) (pc := 606) d_L_law_606 rfl 3 rfl ?_
  refine GW_iconst (X := X_L_law) (pc := 607) (v := 1) d_L_law_607 (by decide) ?_
  refine GW_iadd (X := X_L_law) (pc := 608) d_L_law_608 ?_
  replace h := g_bd h
  obtain ⟨v1, hv1, h⟩ := h
  refine GW_sald (X := X_L_law) (pc := 609) d_L_law_609 rfl hv1 ?_
  refine GW_aload_n (X := X_L_law) (pc := 610) d_L_law_610 rfl 0 rfl ?_
  refine GW_iload_n (X := X_L_law) (pc := 611) d_L_law_611 rfl 3 rfl ?_
  refine GW_iconst (X := X_L_law) (pc := 612) (v := 2) d_L_law_612 (by decide) ?_
  refine GW_iadd (X := X_L_law) (pc := 613) d_L_law_613 ?_
  replace h := g_bd h
  obtain ⟨v2, hv2, h⟩ := h
  refine GW_sald (X := X_L_law) (pc := 614) d_L_law_614 rfl hv2 ?_
  replace h := g_bd h
  obtain ⟨i3, hi3, h⟩ := h
  obtain ⟨rfl, ki3⟩ := g_gO hi3
  replace h := g_bd h
  obtain ⟨⟨v4, M5⟩, hv4, h⟩ := h
  dsimp only at h
  refine GW_callV (X := X_L_law) (pc := 615) (bc0 := bcK + 0) (bs0 := bsK + 0) (r := some (vi v4)) (M2 := M5) (c0 := 11) (T_X11_ahead (some i3) v1 v2 M (v4, M5) hv4) (Nat.le_of_ble_eq_true rfl) (Nat.le_of_ble_eq_true rfl) rfl g_cok11 ki3 yc_X11_ahead ⟨m_952, m_953, m_954, m_116, m_955⟩ d_L_law_615 rfl (st := []) rfl (Nat.le_of_ble_eq_true rfl) (by omega) (by omega) (st2 := [vi v4]) rfl ?_
  refine GW_pop (X := X_L_law) (pc := 618) d_L_law_618 rfl ?_
  refine GW_aload_n (X := X_L_law) (pc := 619) d_L_law_619 rfl 2 rfl ?_
  refine GW_aload_n (X := X_L_law) (pc := 620) d_L_law_620 rfl 0 rfl ?_
  refine GW_iload_n (X := X_L_law) (pc := 621) d_L_law_621 rfl 3 rfl ?_
  refine GW_iconst (X := X_L_law) (pc := 622) (v := 1) d_L_law_622 (by decide) ?_
  refine GW_iadd (X := X_L_law) (pc := 623) d_L_law_623 ?_
  replace h := g_bd h
  obtain ⟨v6, hv6, h⟩ := h
  refine GW_sald (X := X_L_law) (pc := 624) d_L_law_624 rfl hv6 ?_
  refine GW_aload_n (X := X_L_law) (pc := 625) d_L_law_625 rfl 0 rfl ?_
  refine GW_iload_n (X := X_L_law) (pc := 626) d_L_law_626 rfl 3 rfl ?_
  refine GW_iconst (X := X_L_law) (pc := 627) (v := 2) d_L_law_627 (by decide) ?_
  refine GW_iadd (X := X_L_law) (pc := 628) d_L_law_628 ?_
  replace h := g_bd h
  obtain ⟨v7, hv7, h⟩ := h
  refine GW_sald (X := X_L_law) (pc := 629) d_L_law_629 rfl hv7 ?_
  replace h := g_bd h
  obtain ⟨i8, hi8, h⟩ := h
  obtain ⟨rfl, ki8⟩ := g_gO hi8
  replace h := g_bd h
  obtain ⟨⟨v9, M10⟩, hv9, h⟩ := h
  dsimp only at h
  refine GW_callV (X := X_L_law) (pc := 630) (bc0 := bcK + 0) (bs0 := bsK + 0) (r := some (vi v9)) (M2 := M10) (c0 := 12) (T_X12_ahead (some i8) v6 v7 M5 (v9, M10) hv9) (Nat.le_of_ble_eq_true rfl) (Nat.le_of_ble_eq_true rfl) rfl g_cok12 ki8 yc_X12_ahead ⟨m_1549, m_1550, m_1551, m_127, m_1552⟩ d_L_law_630 rfl (st := []) rfl (Nat.le_of_ble_eq_true rfl) (by omega) (by omega) (st2 := [vi v9]) rfl ?_
  refine GW_pop (X := X_L_law) (pc := 633) d_L_law_633 rfl ?_
  refine GW_goto (X := X_L_law) (pc := 634) 1088 d_L_law_634 (by decide) ?_
  exact T_L_law_b1088 bcK bsK k18 r hk18 (some i3) (some i8) l3 M10 h
def F_L_law_b637 (k18 : Option Nat → Option Nat → Int32 → gM → Option (Int32 × gM)) (l1 : Option Nat) (l2 : Option Nat) (l3 : Int32) (M : gM) : Option (Int32 × gM) :=
  (xI M (some 0) (l3 + (1 : Int32))).bind fun v1 => (gO 11 M l1).bind fun i2 => (F_X11_strike (some i2) v1 M).bind fun (v3, M4) => (xI M4 (some 0) (l3 + (1 : Int32))).bind fun v5 => (gO 12 M4 l2).bind fun i6 => (F_X12_strike (some i6) v5 M4).bind fun (v7, M8) => F_L_law_b1088 k18 (some i2) (some i6) l3 M8
theorem T_L_law_b637 (bcK bsK : Nat) (k18 : Option Nat → Option Nat → Int32 → gM → Option (Int32 × gM)) (r : (Int32 × gM)) (hk18 : ∀ (l1 : Option Nat) (l2 : Option Nat) (l3 : Int32) (M : gM), k18 l1 l2 l3 M = some r → GW 67 bcK bsK X_L_law 18 [(0, vr (some 0)), (1, vr l1), (2, vr l2), (3, vi l3)] [] M (some (vi r.1), r.2)) (l1 : Option Nat) (l2 : Option Nat) (l3 : Int32) (M : gM) (h : F_L_law_b637 k18 l1 l2 l3 M = some r) : GW 67 (bcK + 0) (bsK + 0) X_L_law 637 [(0, vr (some 0)), (1, vr l1), (2, vr l2), (3, vi l3)] [] M (some (vi r.1), r.2) := by
  delta F_L_law_b637 at h
  refine GW_aload_n (X := X_L_law) (pc := 637) d_L_law_637 rfl 1 rfl ?_
  refine GW_aload_n (X := X_L_law) (pc := 638) d_L_law_638 rfl 0 rfl ?_
  refine GW_iload_n (X := X_L_law) (pc := 639) d_L_law_639 rfl 3 rfl ?_
  refine GW_iconst (X := X_L_law) (pc := 640) (v := 1) d_L_law_640 (by decide) ?_
  refine GW_iadd (X := X_L_law) (pc := 641) d_L_law_641 ?_
  replace h := g_bd h
  obtain ⟨v1, hv1, h⟩ := h
  refine GW_sald (X := X_L_law) (pc := 642) d_L_law_642 rfl hv1 ?_
  replace h := g_bd h
  obtain ⟨i2, hi2, h⟩ := h
  obtain ⟨rfl, ki2⟩ := g_gO hi2
  replace h := g_bd h
  obtain ⟨⟨v3, M4⟩, hv3, h⟩ := h
  dsimp only at h
  refine GW_callV (X := X_L_law) (pc := 643) (bc0 := bcK + 0) (bs0 := bsK + 0) (r := some (vi v3)) (M2 := M4) (c0 := 11) (T_X11_strike (some i2) v1 M (v3, M4) hv3) (Nat.le_of_ble_eq_true rfl) (Nat.le_of_ble_eq_true rfl) rfl g_cok11 ki2 yc_X11_strike ⟨m_960, m_961, m_962, m_116, m_963⟩ d_L_law_643 rfl (st := []) rfl (Nat.le_of_ble_eq_true rfl) (by omega) (by omega) (st2 := [vi v3]) rfl ?_
  refine GW_pop (X := X_L_law) (pc := 646) d_L_law_646 rfl ?_
  refine GW_aload_n (X := X_L_law) (pc := 647) d_L_law_647 rfl 2 rfl ?_
  refine GW_aload_n (X := X_L_law) (pc := 648) d_L_law_648 rfl 0 rfl ?_
  refine GW_iload_n (X := X_L_law) (pc := 649) d_L_law_649 rfl 3 rfl ?_
  refine GW_iconst (X := X_L_law) (pc := 650) (v := 1) d_L_law_650 (by decide) ?_
  refine GW_iadd (X := X_L_law) (pc := 651) d_L_law_651 ?_
  replace h := g_bd h
  obtain ⟨v5, hv5, h⟩ := h
  refine GW_sald (X := X_L_law) (pc := 652) d_L_law_652 rfl hv5 ?_
  replace h := g_bd h
  obtain ⟨i6, hi6, h⟩ := h
  obtain ⟨rfl, ki6⟩ := g_gO hi6
  replace h := g_bd h
  obtain ⟨⟨v7, M8⟩, hv7, h⟩ := h
  dsimp only at h
  refine GW_callV (X := X_L_law) (pc := 653) (bc0 := bcK + 0) (bs0 := bsK + 0) (r := some (vi v7)) (M2 := M8) (c0 := 12) (T_X12_strike (some i6) v5 M4 (v7, M8) hv7) (Nat.le_of_ble_eq_true rfl) (Nat.le_of_ble_eq_true rfl) rfl g_cok12 ki6 yc_X12_strike ⟨m_1562, m_1563, m_1564, m_127, m_1565⟩ d_L_law_653 rfl (st := []) rfl (Nat.le_of_ble_eq_true rfl) (by omega) (by omega) (st2 := [vi v7]) rfl ?_
  refine GW_pop (X := X_L_law) (pc := 656) d_L_law_656 rfl ?_
  refine GW_goto (X := X_L_law) (pc := 657) 1088 d_L_law_657 (by decide) ?_
  exact T_L_law_b1088 bcK bsK k18 r hk18 (some i2) (some i6) l3 M8 h
def F_L_law_b660 (k18 : Option Nat → Option Nat → Int32 → gM → Option (Int32 × gM)) (l1 : Option Nat) (l2 : Option Nat) (l3 : Int32) (M : gM) : Option (Int32 × gM) :=
  (xI M (some 0) (l3 + (1 : Int32))).bind fun v1 => (gO 11 M l1).bind fun i2 => (F_X11_inherits (some i2) v1 M).bind fun (v3, M4) => (xI M4 (some 0) (l3 + (1 : Int32))).bind fun v5 => (gO 12 M4 l2).bind fun i6 => (F_X12_inherits (some i6) v5 M4).bind fun (v7, M8) => F_L_law_b1088 k18 (some i2) (some i6) l3 M8
theorem T_L_law_b660 (bcK bsK : Nat) (k18 : Option Nat → Option Nat → Int32 → gM → Option (Int32 × gM)) (r : (Int32 × gM)) (hk18 : ∀ (l1 : Option Nat) (l2 : Option Nat) (l3 : Int32) (M : gM), k18 l1 l2 l3 M = some r → GW 67 bcK bsK X_L_law 18 [(0, vr (some 0)), (1, vr l1), (2, vr l2), (3, vi l3)] [] M (some (vi r.1), r.2)) (l1 : Option Nat) (l2 : Option Nat) (l3 : Int32) (M : gM) (h : F_L_law_b660 k18 l1 l2 l3 M = some r) : GW 67 (bcK + 0) (bsK + 0) X_L_law 660 [(0, vr (some 0)), (1, vr l1), (2, vr l2), (3, vi l3)] [] M (some (vi r.1), r.2) := by
  delta F_L_law_b660 at h
  refine GW_aload_n (X := X_L_law) (pc := 660) d_L_law_660 rfl 1 rfl ?_
  refine GW_aload_n (X := X_L_law) (pc := 661) d_L_law_661 rfl 0 rfl ?_
  refine GW_iload_n (X := X_L_law) (pc := 662) d_L_law_662 rfl 3 rfl ?_
  refine GW_iconst (X := X_L_law) (pc := 663) (v := 1) d_L_law_663 (by decide) ?_
  refine GW_iadd (X := X_L_law) (pc := 664) d_L_law_664 ?_
  replace h := g_bd h
  obtain ⟨v1, hv1, h⟩ := h
  refine GW_sald (X := X_L_law) (pc := 665) d_L_law_665 rfl hv1 ?_
  replace h := g_bd h
  obtain ⟨i2, hi2, h⟩ := h
  obtain ⟨rfl, ki2⟩ := g_gO hi2
  replace h := g_bd h
  obtain ⟨⟨v3, M4⟩, hv3, h⟩ := h
  dsimp only at h
  refine GW_callV (X := X_L_law) (pc := 666) (bc0 := bcK + 0) (bs0 := bsK + 0) (r := some (vi v3)) (M2 := M4) (c0 := 11) (T_X11_inherits (some i2) v1 M (v3, M4) hv3) (Nat.le_of_ble_eq_true rfl) (Nat.le_of_ble_eq_true rfl) rfl g_cok11 ki2 yc_X11_inherits ⟨m_968, m_969, m_970, m_116, m_971⟩ d_L_law_666 rfl (st := []) rfl (Nat.le_of_ble_eq_true rfl) (by omega) (by omega) (st2 := [vi v3]) rfl ?_
  refine GW_pop (X := X_L_law) (pc := 669) d_L_law_669 rfl ?_
  refine GW_aload_n (X := X_L_law) (pc := 670) d_L_law_670 rfl 2 rfl ?_
  refine GW_aload_n (X := X_L_law) (pc := 671) d_L_law_671 rfl 0 rfl ?_
  refine GW_iload_n (X := X_L_law) (pc := 672) d_L_law_672 rfl 3 rfl ?_
  refine GW_iconst (X := X_L_law) (pc := 673) (v := 1) d_L_law_673 (by decide) ?_
  refine GW_iadd (X := X_L_law) (pc := 674) d_L_law_674 ?_
  replace h := g_bd h
  obtain ⟨v5, hv5, h⟩ := h
  refine GW_sald (X := X_L_law) (pc := 675) d_L_law_675 rfl hv5 ?_
  replace h := g_bd h
  obtain ⟨i6, hi6, h⟩ := h
  obtain ⟨rfl, ki6⟩ := g_gO hi6
  replace h := g_bd h
  obtain ⟨⟨v7, M8⟩, hv7, h⟩ := h
  dsimp only at h
  refine GW_callV (X := X_L_law) (pc := 676) (bc0 := bcK + 0) (bs0 := bsK + 0) (r := some (vi v7)) (M2 := M8) (c0 := 12) (T_X12_inherits (some i6) v5 M4 (v7, M8) hv7) (Nat.le_of_ble_eq_true rfl) (Nat.le_of_ble_eq_true rfl) rfl g_cok12 ki6 yc_X12_inherits ⟨m_1570, m_1571, m_1572, m_127, m_1573⟩ d_L_law_676 rfl (st := []) rfl (Nat.le_of_ble_eq_true rfl) (by omega) (by omega) (st2 := [vi v7]) rfl ?_
  refine GW_pop (X := X_L_law) (pc := 679) d_L_law_679 rfl ?_
  refine GW_goto (X := X_L_law) (pc := 680) 1088 d_L_law_680 (by decide) ?_
  exact T_L_law_b1088 bcK bsK k18 r hk18 (some i2) (some i6) l3 M8 h
def F_L_law_b683 (k18 : Option Nat → Option Nat → Int32 → gM → Option (Int32 × gM)) (l1 : Option Nat) (l2 : Option Nat) (l3 : Int32) (M : gM) : Option (Int32 × gM) :=
  (gO 11 M l1).bind fun i1 => (F_X11_longest (some i1) M).bind fun (v2, M3) => (gO 12 M3 l2).bind fun i4 => (F_X12_longest (some i4) M3).bind fun (v5, M6) => F_L_law_b1088 k18 (some i1) (some i4) l3 M6
theorem T_L_law_b683 (bcK bsK : Nat) (k18 : Option Nat → Option Nat → Int32 → gM → Option (Int32 × gM)) (r : (Int32 × gM)) (hk18 : ∀ (l1 : Option Nat) (l2 : Option Nat) (l3 : Int32) (M : gM), k18 l1 l2 l3 M = some r → GW 67 bcK bsK X_L_law 18 [(0, vr (some 0)), (1, vr l1), (2, vr l2), (3, vi l3)] [] M (some (vi r.1), r.2)) (l1 : Option Nat) (l2 : Option Nat) (l3 : Int32) (M : gM) (h : F_L_law_b683 k18 l1 l2 l3 M = some r) : GW 67 (bcK + 0) (bsK + 0) X_L_law 683 [(0, vr (some 0)), (1, vr l1), (2, vr l2), (3, vi l3)] [] M (some (vi r.1), r.2) := by
  delta F_L_law_b683 at h
  refine GW_aload_n (X := X_L_law) (pc := 683) d_L_law_683 rfl 1 rfl ?_
  replace h := g_bd h
  obtain ⟨i1, hi1, h⟩ := h
  obtain ⟨rfl, ki1⟩ := g_gO hi1
  replace h := g_bd h
  obtain ⟨⟨v2, M3⟩, hv2, h⟩ := h
  dsimp only at h
  refine GW_callV (X := X_L_law) (pc := 684) (bc0 := bcK + 0) (bs0 := bsK + 0) (r := some (vi v2)) (M2 := M3) (c0 := 11) (T_X11_longest (some i1) M (v2, M3) hv2) (Nat.le_of_ble_eq_true rfl) (Nat.le_of_ble_eq_true rfl) rfl g_cok11 ki1 yc_X11_longest ⟨m_981, m_982, m_983, m_116, m_984⟩ d_L_law_684 rfl (st := []) rfl (Nat.le_of_ble_eq_true rfl) (by omega) (by omega) (st2 := [vi v2]) rfl ?_
  refine GW_pop (X := X_L_law) (pc := 687) d_L_law_687 rfl ?_
  refine GW_aload_n (X := X_L_law) (pc := 688) d_L_law_688 rfl 2 rfl ?_
  replace h := g_bd h
  obtain ⟨i4, hi4, h⟩ := h
  obtain ⟨rfl, ki4⟩ := g_gO hi4
  replace h := g_bd h
  obtain ⟨⟨v5, M6⟩, hv5, h⟩ := h
  dsimp only at h
  refine GW_callV (X := X_L_law) (pc := 689) (bc0 := bcK + 0) (bs0 := bsK + 0) (r := some (vi v5)) (M2 := M6) (c0 := 12) (T_X12_longest (some i4) M3 (v5, M6) hv5) (Nat.le_of_ble_eq_true rfl) (Nat.le_of_ble_eq_true rfl) rfl g_cok12 ki4 yc_X12_longest ⟨m_1581, m_1582, m_1583, m_127, m_1584⟩ d_L_law_689 rfl (st := []) rfl (Nat.le_of_ble_eq_true rfl) (by omega) (by omega) (st2 := [vi v5]) rfl ?_
  refine GW_pop (X := X_L_law) (pc := 692) d_L_law_692 rfl ?_
  refine GW_goto (X := X_L_law) (pc := 693) 1088 d_L_law_693 (by decide) ?_
  exact T_L_law_b1088 bcK bsK k18 r hk18 (some i1) (some i4) l3 M6 h
def F_L_law_b696 (k18 : Option Nat → Option Nat → Int32 → gM → Option (Int32 × gM)) (l1 : Option Nat) (l2 : Option Nat) (l3 : Int32) (M : gM) : Option (Int32 × gM) :=
  (xI M (some 0) (l3 + (1 : Int32))).bind fun v1 => (gO 11 M l1).bind fun i2 => (F_X11_fields (some i2) v1 M).bind fun (v3, M4) => (xI M4 (some 0) (l3 + (1 : Int32))).bind fun v5 => (gO 12 M4 l2).bind fun i6 => (F_X12_fields (some i6) v5 M4).bind fun (v7, M8) => F_L_law_b1088 k18 (some i2) (some i6) l3 M8
theorem T_L_law_b696 (bcK bsK : Nat) (k18 : Option Nat → Option Nat → Int32 → gM → Option (Int32 × gM)) (r : (Int32 × gM)) (hk18 : ∀ (l1 : Option Nat) (l2 : Option Nat) (l3 : Int32) (M : gM), k18 l1 l2 l3 M = some r → GW 67 bcK bsK X_L_law 18 [(0, vr (some 0)), (1, vr l1), (2, vr l2), (3, vi l3)] [] M (some (vi r.1), r.2)) (l1 : Option Nat) (l2 : Option Nat) (l3 : Int32) (M : gM) (h : F_L_law_b696 k18 l1 l2 l3 M = some r) : GW 67 (bcK + 0) (bsK + 0) X_L_law 696 [(0, vr (some 0)), (1, vr l1), (2, vr l2), (3, vi l3)] [] M (some (vi r.1), r.2) := by
  delta F_L_law_b696 at h
  refine GW_aload_n (X := X_L_law) (pc := 696) d_L_law_696 rfl 1 rfl ?_
  refine GW_aload_n (X := X_L_law) (pc := 697) d_L_law_697 rfl 0 rfl ?_
  refine GW_iload_n (X := X_L_law) (pc := 698) d_L_law_698 rfl 3 rfl ?_
  refine GW_iconst (X := X_L_law) (pc := 699) (v := 1) d_L_law_699 (by decide) ?_
  refine GW_iadd (X := X_L_law) (pc := 700) d_L_law_700 ?_
  replace h := g_bd h
  obtain ⟨v1, hv1, h⟩ := h
  refine GW_sald (X := X_L_law) (pc := 701) d_L_law_701 rfl hv1 ?_
  replace h := g_bd h
  obtain ⟨i2, hi2, h⟩ := h
  obtain ⟨rfl, ki2⟩ := g_gO hi2
  replace h := g_bd h
  obtain ⟨⟨v3, M4⟩, hv3, h⟩ := h
  dsimp only at h
  refine GW_callV (X := X_L_law) (pc := 702) (bc0 := bcK + 0) (bs0 := bsK + 0) (r := some (vi v3)) (M2 := M4) (c0 := 11) (T_X11_fields (some i2) v1 M (v3, M4) hv3) (Nat.le_of_ble_eq_true rfl) (Nat.le_of_ble_eq_true rfl) rfl g_cok11 ki2 yc_X11_fields ⟨m_990, m_991, m_992, m_116, m_993⟩ d_L_law_702 rfl (st := []) rfl (Nat.le_of_ble_eq_true rfl) (by omega) (by omega) (st2 := [vi v3]) rfl ?_
  refine GW_pop (X := X_L_law) (pc := 705) d_L_law_705 rfl ?_
  refine GW_aload_n (X := X_L_law) (pc := 706) d_L_law_706 rfl 2 rfl ?_
  refine GW_aload_n (X := X_L_law) (pc := 707) d_L_law_707 rfl 0 rfl ?_
  refine GW_iload_n (X := X_L_law) (pc := 708) d_L_law_708 rfl 3 rfl ?_
  refine GW_iconst (X := X_L_law) (pc := 709) (v := 1) d_L_law_709 (by decide) ?_
  refine GW_iadd (X := X_L_law) (pc := 710) d_L_law_710 ?_
  replace h := g_bd h
  obtain ⟨v5, hv5, h⟩ := h
  refine GW_sald (X := X_L_law) (pc := 711) d_L_law_711 rfl hv5 ?_
  replace h := g_bd h
  obtain ⟨i6, hi6, h⟩ := h
  obtain ⟨rfl, ki6⟩ := g_gO hi6
  replace h := g_bd h
  obtain ⟨⟨v7, M8⟩, hv7, h⟩ := h
  dsimp only at h
  refine GW_callV (X := X_L_law) (pc := 712) (bc0 := bcK + 0) (bs0 := bsK + 0) (r := some (vi v7)) (M2 := M8) (c0 := 12) (T_X12_fields (some i6) v5 M4 (v7, M8) hv7) (Nat.le_of_ble_eq_true rfl) (Nat.le_of_ble_eq_true rfl) rfl g_cok12 ki6 yc_X12_fields ⟨m_1586, m_1587, m_1588, m_127, m_1589⟩ d_L_law_712 rfl (st := []) rfl (Nat.le_of_ble_eq_true rfl) (by omega) (by omega) (st2 := [vi v7]) rfl ?_
  refine GW_pop (X := X_L_law) (pc := 715) d_L_law_715 rfl ?_
  refine GW_goto (X := X_L_law) (pc := 716) 1088 d_L_law_716 (by decide) ?_
  exact T_L_law_b1088 bcK bsK k18 r hk18 (some i2) (some i6) l3 M8 h
def F_L_law_b719 (k18 : Option Nat → Option Nat → Int32 → gM → Option (Int32 × gM)) (l1 : Option Nat) (l2 : Option Nat) (l3 : Int32) (M : gM) : Option (Int32 × gM) :=
  (xI M (some 0) (l3 + (1 : Int32))).bind fun v1 => (gO 11 M l1).bind fun i2 => (F_X11_falls (some i2) v1 M).bind fun (v3, M4) => (xI M4 (some 0) (l3 + (1 : Int32))).bind fun v5 => (gO 12 M4 l2).bind fun i6 => (F_X12_falls (some i6) v5 M4).bind fun (v7, M8) => F_L_law_b1088 k18 (some i2) (some i6) l3 M8
theorem T_L_law_b719 (bcK bsK : Nat) (k18 : Option Nat → Option Nat → Int32 → gM → Option (Int32 × gM)) (r : (Int32 × gM)) (hk18 : ∀ (l1 : Option Nat) (l2 : Option Nat) (l3 : Int32) (M : gM), k18 l1 l2 l3 M = some r → GW 67 bcK bsK X_L_law 18 [(0, vr (some 0)), (1, vr l1), (2, vr l2), (3, vi l3)] [] M (some (vi r.1), r.2)) (l1 : Option Nat) (l2 : Option Nat) (l3 : Int32) (M : gM) (h : F_L_law_b719 k18 l1 l2 l3 M = some r) : GW 67 (bcK + 0) (bsK + 0) X_L_law 719 [(0, vr (some 0)), (1, vr l1), (2, vr l2), (3, vi l3)] [] M (some (vi r.1), r.2) := by
  delta F_L_law_b719 at h
  refine GW_aload_n (X := X_L_law) (pc := 719) d_L_law_719 rfl 1 rfl ?_
  refine GW_aload_n (X := X_L_law) (pc := 720) d_L_law_720 rfl 0 rfl ?_
  refine GW_iload_n (X := X_L_law) (pc := 721) d_L_law_721 rfl 3 rfl ?_
  refine GW_iconst (X := X_L_law) (pc := 722) (v := 1) d_L_law_722 (by decide) ?_
  refine GW_iadd (X := X_L_law) (pc := 723) d_L_law_723 ?_
  replace h := g_bd h
  obtain ⟨v1, hv1, h⟩ := h
  refine GW_sald (X := X_L_law) (pc := 724) d_L_law_724 rfl hv1 ?_
  replace h := g_bd h
  obtain ⟨i2, hi2, h⟩ := h
  obtain ⟨rfl, ki2⟩ := g_gO hi2
  replace h := g_bd h
  obtain ⟨⟨v3, M4⟩, hv3, h⟩ := h
  dsimp only at h
  refine GW_callV (X := X_L_law) (pc := 725) (bc0 := bcK + 0) (bs0 := bsK + 0) (r := some (vi v3)) (M2 := M4) (c0 := 11) (T_X11_falls (some i2) v1 M (v3, M4) hv3) (Nat.le_of_ble_eq_true rfl) (Nat.le_of_ble_eq_true rfl) rfl g_cok11 ki2 yc_X11_falls ⟨m_1003, m_1004, m_1005, m_116, m_1006⟩ d_L_law_725 rfl (st := []) rfl (Nat.le_of_ble_eq_true rfl) (by omega) (by omega) (st2 := [vi v3]) rfl ?_
  refine GW_pop (X := X_L_law) (pc := 728) d_L_law_728 rfl ?_
  refine GW_aload_n (X := X_L_law) (pc := 729) d_L_law_729 rfl 2 rfl ?_
  refine GW_aload_n (X := X_L_law) (pc := 730) d_L_law_730 rfl 0 rfl ?_
  refine GW_iload_n (X := X_L_law) (pc := 731) d_L_law_731 rfl 3 rfl ?_
  refine GW_iconst (X := X_L_law) (pc := 732) (v := 1) d_L_law_732 (by decide) ?_
  refine GW_iadd (X := X_L_law) (pc := 733) d_L_law_733 ?_
  replace h := g_bd h
  obtain ⟨v5, hv5, h⟩ := h
  refine GW_sald (X := X_L_law) (pc := 734) d_L_law_734 rfl hv5 ?_
  replace h := g_bd h
  obtain ⟨i6, hi6, h⟩ := h
  obtain ⟨rfl, ki6⟩ := g_gO hi6
  replace h := g_bd h
  obtain ⟨⟨v7, M8⟩, hv7, h⟩ := h
  dsimp only at h
  refine GW_callV (X := X_L_law) (pc := 735) (bc0 := bcK + 0) (bs0 := bsK + 0) (r := some (vi v7)) (M2 := M8) (c0 := 12) (T_X12_falls (some i6) v5 M4 (v7, M8) hv7) (Nat.le_of_ble_eq_true rfl) (Nat.le_of_ble_eq_true rfl) rfl g_cok12 ki6 yc_X12_falls ⟨m_1590, m_1591, m_1592, m_127, m_1593⟩ d_L_law_735 rfl (st := []) rfl (Nat.le_of_ble_eq_true rfl) (by omega) (by omega) (st2 := [vi v7]) rfl ?_
  refine GW_pop (X := X_L_law) (pc := 738) d_L_law_738 rfl ?_
  refine GW_goto (X := X_L_law) (pc := 739) 1088 d_L_law_739 (by decide) ?_
  exact T_L_law_b1088 bcK bsK k18 r hk18 (some i2) (some i6) l3 M8 h
def F_L_law_b742 (k18 : Option Nat → Option Nat → Int32 → gM → Option (Int32 × gM)) (l1 : Option Nat) (l2 : Option Nat) (l3 : Int32) (M : gM) : Option (Int32 × gM) :=
  (xI M (some 0) (l3 + (1 : Int32))).bind fun v1 => (gO 11 M l1).bind fun i2 => (F_X11_examine (some i2) v1 M).bind fun (v3, M4) => (xI M4 (some 0) (l3 + (1 : Int32))).bind fun v5 => (gO 12 M4 l2).bind fun i6 => (F_X12_examine (some i6) v5 M4).bind fun (v7, M8) => F_L_law_b1088 k18 (some i2) (some i6) l3 M8
theorem T_L_law_b742 (bcK bsK : Nat) (k18 : Option Nat → Option Nat → Int32 → gM → Option (Int32 × gM)) (r : (Int32 × gM)) (hk18 : ∀ (l1 : Option Nat) (l2 : Option Nat) (l3 : Int32) (M : gM), k18 l1 l2 l3 M = some r → GW 67 bcK bsK X_L_law 18 [(0, vr (some 0)), (1, vr l1), (2, vr l2), (3, vi l3)] [] M (some (vi r.1), r.2)) (l1 : Option Nat) (l2 : Option Nat) (l3 : Int32) (M : gM) (h : F_L_law_b742 k18 l1 l2 l3 M = some r) : GW 67 (bcK + 0) (bsK + 0) X_L_law 742 [(0, vr (some 0)), (1, vr l1), (2, vr l2), (3, vi l3)] [] M (some (vi r.1), r.2) := by
  delta F_L_law_b742 at h
  refine GW_aload_n (X := X_L_law) (pc := 742) d_L_law_742 rfl 1 rfl ?_
  refine GW_aload_n (X := X_L_law) (pc := 743) d_L_law_743 rfl 0 rfl ?_
  refine GW_iload_n (X := X_L_law) (pc := 744) d_L_law_744 rfl 3 rfl ?_
  refine GW_iconst (X := X_L_law) (pc := 745) (v := 1) d_L_law_745 (by decide) ?_
  refine GW_iadd (X := X_L_law) (pc := 746) d_L_law_746 ?_
  replace h := g_bd h
  obtain ⟨v1, hv1, h⟩ := h
  refine GW_sald (X := X_L_law) (pc := 747) d_L_law_747 rfl hv1 ?_
  replace h := g_bd h
  obtain ⟨i2, hi2, h⟩ := h
  obtain ⟨rfl, ki2⟩ := g_gO hi2
  replace h := g_bd h
  obtain ⟨⟨v3, M4⟩, hv3, h⟩ := h
  dsimp only at h
  refine GW_callV (X := X_L_law) (pc := 748) (bc0 := bcK + 0) (bs0 := bsK + 0) (r := some (vi v3)) (M2 := M4) (c0 := 11) (T_X11_examine (some i2) v1 M (v3, M4) hv3) (Nat.le_of_ble_eq_true rfl) (Nat.le_of_ble_eq_true rfl) rfl g_cok11 ki2 yc_X11_examine ⟨m_1008, m_1009, m_1010, m_116, m_1011⟩ d_L_law_748 rfl (st := []) rfl (Nat.le_of_ble_eq_true rfl) (by omega) (by omega) (st2 := [vi v3]) rfl ?_
  refine GW_pop (X := X_L_law) (pc := 751) d_L_law_751 rfl ?_
  refine GW_aload_n (X := X_L_law) (pc := 752) d_L_law_752 rfl 2 rfl ?_
  refine GW_aload_n (X := X_L_law) (pc := 753) d_L_law_753 rfl 0 rfl ?_
  refine GW_iload_n (X := X_L_law) (pc := 754) d_L_law_754 rfl 3 rfl ?_
  refine GW_iconst (X := X_L_law) (pc := 755) (v := 1) d_L_law_755 (by decide) ?_
  refine GW_iadd (X := X_L_law) (pc := 756) d_L_law_756 ?_
  replace h := g_bd h
  obtain ⟨v5, hv5, h⟩ := h
  refine GW_sald (X := X_L_law) (pc := 757) d_L_law_757 rfl hv5 ?_
  replace h := g_bd h
  obtain ⟨i6, hi6, h⟩ := h
  obtain ⟨rfl, ki6⟩ := g_gO hi6
  replace h := g_bd h
  obtain ⟨⟨v7, M8⟩, hv7, h⟩ := h
  dsimp only at h
  refine GW_callV (X := X_L_law) (pc := 758) (bc0 := bcK + 0) (bs0 := bsK + 0) (r := some (vi v7)) (M2 := M8) (c0 := 12) (T_X12_examine (some i6) v5 M4 (v7, M8) hv7) (Nat.le_of_ble_eq_true rfl) (Nat.le_of_ble_eq_true rfl) rfl g_cok12 ki6 yc_X12_examine ⟨m_1594, m_1595, m_1596, m_127, m_1597⟩ d_L_law_758 rfl (st := []) rfl (Nat.le_of_ble_eq_true rfl) (by omega) (by omega) (st2 := [vi v7]) rfl ?_
  refine GW_pop (X := X_L_law) (pc := 761) d_L_law_761 rfl ?_
  refine GW_goto (X := X_L_law) (pc := 762) 1088 d_L_law_762 (by decide) ?_
  exact T_L_law_b1088 bcK bsK k18 r hk18 (some i2) (some i6) l3 M8 h
def F_L_law_b765 (k18 : Option Nat → Option Nat → Int32 → gM → Option (Int32 × gM)) (l1 : Option Nat) (l2 : Option Nat) (l3 : Int32) (M : gM) : Option (Int32 × gM) :=
  (xI M (some 0) (l3 + (1 : Int32))).bind fun v1 => (xI M (some 0) (l3 + (2 : Int32))).bind fun v2 => (gO 11 M l1).bind fun i3 => (F_X11_likeliest (some i3) v1 v2 M).bind fun v4 => (xI M (some 0) (l3 + (1 : Int32))).bind fun v5 => (xI M (some 0) (l3 + (2 : Int32))).bind fun v6 => (gO 12 M l2).bind fun i7 => (F_X12_likeliest (some i7) v5 v6 M).bind fun v8 => F_L_law_b1088 k18 (some i3) (some i7) l3 M
set_option maxHeartbeats 1000000 in
theorem T_L_law_b765 (bcK bsK : Nat) (k18 : Option Nat → Option Nat → Int32 → gM → Option (Int32 × gM)) (r : (Int32 × gM)) (hk18 : ∀ (l1 : Option Nat) (l2 : Option Nat) (l3 : Int32) (M : gM), k18 l1 l2 l3 M = some r → GW 67 bcK bsK X_L_law 18 [(0, vr (some 0)), (1, vr l1), (2, vr l2), (3, vi l3)] [] M (some (vi r.1), r.2)) (l1 : Option Nat) (l2 : Option Nat) (l3 : Int32) (M : gM) (h : F_L_law_b765 k18 l1 l2 l3 M = some r) : GW 67 (bcK + 0) (bsK + 0) X_L_law 765 [(0, vr (some 0)), (1, vr l1), (2, vr l2), (3, vi l3)] [] M (some (vi r.1), r.2) := by
  delta F_L_law_b765 at h
  refine GW_aload_n (X := X_L_law) (pc := 765) d_L_law_765 rfl 1 rfl ?_
  refine GW_aload_n (X := X_L_law) (pc := 766) d_L_law_766 rfl 0 rfl ?_
  refine GW_iload_n (X := X_L_law) (pc := 767) d_L_law_767 rfl 3 rfl ?_
  refine GW_iconst (X := X_L_law) (pc := 768) (v := 1) d_L_law_768 (by decide) ?_
  refine GW_iadd (X := X_L_law) (pc := 769) d_L_law_769 ?_
  replace h := g_bd h
  obtain ⟨v1, hv1, h⟩ := h
  refine GW_sald (X := X_L_law) (pc := 770) d_L_law_770 rfl hv1 ?_
  refine GW_aload_n (X := X_L_law) (pc := 771) d_L_law_771 rfl 0 rfl ?_
  refine GW_iload_n (X := X_L_law) (pc := 772) d_L_law_772 rfl 3 rfl ?_
  refine GW_iconst (X := X_L_law) (pc := 773) (v := 2) d_L_law_773 (by decide) ?_
  refine GW_iadd (X := X_L_law) (pc := 774) d_L_law_774 ?_
  replace h := g_bd h
  obtain ⟨v2, hv2, h⟩ := h
  refine GW_sald (X := X_L_law) (pc := 775) d_L_law_775 rfl hv2 ?_
  replace h := g_bd h
  obtain ⟨i3, hi3, h⟩ := h
  obtain ⟨rfl, ki3⟩ := g_gO hi3
  replace h := g_bd h
  obtain ⟨v4, hv4, h⟩ := h
  refine GW_callV (X := X_L_law) (pc := 776) (bc0 := bcK + 0) (bs0 := bsK + 0) (r := some (vi v4)) (M2 := M) (c0 := 11) (T_X11_likeliest (some i3) v1 v2 M v4 hv4) (Nat.le_of_ble_eq_true rfl) (Nat.le_of_ble_eq_true rfl) rfl g_cok11 ki3 yc_X11_likeliest ⟨m_1016, m_1017, m_1018, m_116, m_1019⟩ d_L_law_776 rfl (st := []) rfl (Nat.le_of_ble_eq_true rfl) (by omega) (by omega) (st2 := [vi v4]) rfl ?_
  refine GW_pop (X := X_L_law) (pc := 779) d_L_law_779 rfl ?_
  refine GW_aload_n (X := X_L_law) (pc := 780) d_L_law_780 rfl 2 rfl ?_
  refine GW_aload_n (X := X_L_law) (pc := 781) d_L_law_781 rfl 0 rfl ?_
  refine GW_iload_n (X := X_L_law) (pc := 782) d_L_law_782 rfl 3 rfl ?_
  refine GW_iconst (X := X_L_law) (pc := 783) (v := 1) d_L_law_783 (by decide) ?_
  refine GW_iadd (X := X_L_law) (pc := 784) d_L_law_784 ?_
  replace h := g_bd h
  obtain ⟨v5, hv5, h⟩ := h
  refine GW_sald (X := X_L_law) (pc := 785) d_L_law_785 rfl hv5 ?_
  refine GW_aload_n (X := X_L_law) (pc := 786) d_L_law_786 rfl 0 rfl ?_
  refine GW_iload_n (X := X_L_law) (pc := 787) d_L_law_787 rfl 3 rfl ?_
  refine GW_iconst (X := X_L_law) (pc := 788) (v := 2) d_L_law_788 (by decide) ?_
  refine GW_iadd (X := X_L_law) (pc := 789) d_L_law_789 ?_
  replace h := g_bd h
  obtain ⟨v6, hv6, h⟩ := h
  refine GW_sald (X := X_L_law) (pc := 790) d_L_law_790 rfl hv6 ?_
  replace h := g_bd h
  obtain ⟨i7, hi7, h⟩ := h
  obtain ⟨rfl, ki7⟩ := g_gO hi7
  replace h := g_bd h
  obtain ⟨v8, hv8, h⟩ := h
  refine GW_callV (X := X_L_law) (pc := 791) (bc0 := bcK + 0) (bs0 := bsK + 0) (r := some (vi v8)) (M2 := M) (c0 := 12) (T_X12_likeliest (some i7) v5 v6 M v8 hv8) (Nat.le_of_ble_eq_true rfl) (Nat.le_of_ble_eq_true rfl) rfl g_cok12 ki7 yc_X12_likeliest ⟨m_1603, m_1604, m_1605, m_127, m_1606⟩ d_L_law_791 rfl (st := []) rfl (Nat.le_of_ble_eq_true rfl) (by omega) (by omega) (st2 := [vi v8]) rfl ?_
  refine GW_pop (X := X_L_law) (pc := 794) d_L_law_794 rfl ?_
  refine GW_goto (X := X_L_law) (pc := 795) 1088 d_L_law_795 (by decide) ?_
  exact T_L_law_b1088 bcK bsK k18 r hk18 (some i3) (some i7) l3 M h
def F_L_law_b798 (k18 : Option Nat → Option Nat → Int32 → gM → Option (Int32 × gM)) (l1 : Option Nat) (l2 : Option Nat) (l3 : Int32) (M : gM) : Option (Int32 × gM) :=
  (xI M (some 0) (l3 + (1 : Int32))).bind fun v1 => (xI M (some 0) (l3 + (2 : Int32))).bind fun v2 => (gO 11 M l1).bind fun i3 => (F_X11_parts (some i3) v1 v2 M).bind fun (v4, M5) => (xI M5 (some 0) (l3 + (1 : Int32))).bind fun v6 => (xI M5 (some 0) (l3 + (2 : Int32))).bind fun v7 => (gO 12 M5 l2).bind fun i8 => (F_X12_parts (some i8) v6 v7 M5).bind fun v9 => F_L_law_b1088 k18 (some i3) (some i8) l3 M5
set_option maxHeartbeats 1000000 in
theorem T_L_law_b798 (bcK bsK : Nat) (k18 : Option Nat → Option Nat → Int32 → gM → Option (Int32 × gM)) (r : (Int32 × gM)) (hk18 : ∀ (l1 : Option Nat) (l2 : Option Nat) (l3 : Int32) (M : gM), k18 l1 l2 l3 M = some r → GW 67 bcK bsK X_L_law 18 [(0, vr (some 0)), (1, vr l1), (2, vr l2), (3, vi l3)] [] M (some (vi r.1), r.2)) (l1 : Option Nat) (l2 : Option Nat) (l3 : Int32) (M : gM) (h : F_L_law_b798 k18 l1 l2 l3 M = some r) : GW 67 (bcK + 0) (bsK + 0) X_L_law 798 [(0, vr (some 0)), (1, vr l1), (2, vr l2), (3, vi l3)] [] M (some (vi r.1), r.2) := by
  delta F_L_law_b798 at h
  refine GW_aload_n (X := X_L_law) (pc := 798) d_L_law_798 rfl 1 rfl ?_
  refine GW_aload_n (X := X_L_law) (pc := 799) d_L_law_799 rfl 0 rfl ?_
  refine GW_iload_n (X := X_L_law) (pc := 800) d_L_law_800 rfl 3 rfl ?_
  refine GW_iconst (X := X_L_law) (pc := 801) (v := 1) d_L_law_801 (by decide) ?_
  refine GW_iadd (X := X_L_law) (pc := 802) d_L_law_802 ?_
  replace h := g_bd h
  obtain ⟨v1, hv1, h⟩ := h
  refine GW_sald (X := X_L_law) (pc := 803) d_L_law_803 rfl hv1 ?_
  refine GW_aload_n (X := X_L_law) (pc := 804) d_L_law_804 rfl 0 rfl ?_
  refine GW_iload_n (X := X_L_law) (pc := 805) d_L_law_805 rfl 3 rfl ?_
  refine GW_iconst (X := X_L_law) (pc := 806) (v := 2) d_L_law_806 (by decide) ?_
  refine GW_iadd (X := X_L_law) (pc := 807) d_L_law_807 ?_
  replace h := g_bd h
  obtain ⟨v2, hv2, h⟩ := h
  refine GW_sald (X := X_L_law) (pc := 808) d_L_law_808 rfl hv2 ?_
  replace h := g_bd h
  obtain ⟨i3, hi3, h⟩ := h
  obtain ⟨rfl, ki3⟩ := g_gO hi3
  replace h := g_bd h
  obtain ⟨⟨v4, M5⟩, hv4, h⟩ := h
  dsimp only at h
  refine GW_callV (X := X_L_law) (pc := 809) (bc0 := bcK + 0) (bs0 := bsK + 0) (r := some (vi v4)) (M2 := M5) (c0 := 11) (T_X11_parts (some i3) v1 v2 M (v4, M5) hv4) (Nat.le_of_ble_eq_true rfl) (Nat.le_of_ble_eq_true rfl) rfl g_cok11 ki3 yc_X11_parts ⟨m_1024, m_1025, m_1026, m_116, m_1027⟩ d_L_law_809 rfl (st := []) rfl (Nat.le_of_ble_eq_true rfl) (by omega) (by omega) (st2 := [vi v4]) rfl ?_
  refine GW_pop (X := X_L_law) (pc := 812) d_L_law_812 rfl ?_
  refine GW_aload_n (X := X_L_law) (pc := 813) d_L_law_813 rfl 2 rfl ?_
  refine GW_aload_n (X := X_L_law) (pc := 814) d_L_law_814 rfl 0 rfl ?_
  refine GW_iload_n (X := X_L_law) (pc := 815) d_L_law_815 rfl 3 rfl ?_
  refine GW_iconst (X := X_L_law) (pc := 816) (v := 1) d_L_law_816 (by decide) ?_
  refine GW_iadd (X := X_L_law) (pc := 817) d_L_law_817 ?_
  replace h := g_bd h
  obtain ⟨v6, hv6, h⟩ := h
  refine GW_sald (X := X_L_law) (pc := 818) d_L_law_818 rfl hv6 ?_
  refine GW_aload_n (X := X_L_law) (pc := 819) d_L_law_819 rfl 0 rfl ?_
  refine GW_iload_n (X := X_L_law) (pc := 820) d_L_law_820 rfl 3 rfl ?_
  refine GW_iconst (X := X_L_law) (pc := 821) (v := 2) d_L_law_821 (by decide) ?_
  refine GW_iadd (X := X_L_law) (pc := 822) d_L_law_822 ?_
  replace h := g_bd h
  obtain ⟨v7, hv7, h⟩ := h
  refine GW_sald (X := X_L_law) (pc := 823) d_L_law_823 rfl hv7 ?_
  replace h := g_bd h
  obtain ⟨i8, hi8, h⟩ := h
  obtain ⟨rfl, ki8⟩ := g_gO hi8
  replace h := g_bd h
  obtain ⟨v9, hv9, h⟩ := h
  refine GW_callV (X := X_L_law) (pc := 824) (bc0 := bcK + 0) (bs0 := bsK + 0) (r := some (vi v9)) (M2 := M5) (c0 := 12) (T_X12_parts (some i8) v6 v7 M5 v9 hv9) (Nat.le_of_ble_eq_true rfl) (Nat.le_of_ble_eq_true rfl) rfl g_cok12 ki8 yc_X12_parts ⟨m_1607, m_1608, m_1609, m_127, m_1610⟩ d_L_law_824 rfl (st := []) rfl (Nat.le_of_ble_eq_true rfl) (by omega) (by omega) (st2 := [vi v9]) rfl ?_
  refine GW_pop (X := X_L_law) (pc := 827) d_L_law_827 rfl ?_
  refine GW_goto (X := X_L_law) (pc := 828) 1088 d_L_law_828 (by decide) ?_
  exact T_L_law_b1088 bcK bsK k18 r hk18 (some i3) (some i8) l3 M5 h
def F_L_law_b831 (k18 : Option Nat → Option Nat → Int32 → gM → Option (Int32 × gM)) (l1 : Option Nat) (l2 : Option Nat) (l3 : Int32) (M : gM) : Option (Int32 × gM) :=
  (xI M (some 0) (l3 + (1 : Int32))).bind fun v1 => (gO 11 M l1).bind fun i2 => (F_X11_ways (some i2) v1 M).bind fun (v3, M4) => (xI M4 (some 0) (l3 + (1 : Int32))).bind fun v5 => (gO 12 M4 l2).bind fun i6 => (F_X12_ways (some i6) v5 M4).bind fun (v7, M8) => F_L_law_b1088 k18 (some i2) (some i6) l3 M8
theorem T_L_law_b831 (bcK bsK : Nat) (k18 : Option Nat → Option Nat → Int32 → gM → Option (Int32 × gM)) (r : (Int32 × gM)) (hk18 : ∀ (l1 : Option Nat) (l2 : Option Nat) (l3 : Int32) (M : gM), k18 l1 l2 l3 M = some r → GW 67 bcK bsK X_L_law 18 [(0, vr (some 0)), (1, vr l1), (2, vr l2), (3, vi l3)] [] M (some (vi r.1), r.2)) (l1 : Option Nat) (l2 : Option Nat) (l3 : Int32) (M : gM) (h : F_L_law_b831 k18 l1 l2 l3 M = some r) : GW 67 (bcK + 0) (bsK + 0) X_L_law 831 [(0, vr (some 0)), (1, vr l1), (2, vr l2), (3, vi l3)] [] M (some (vi r.1), r.2) := by
  delta F_L_law_b831 at h
  refine GW_aload_n (X := X_L_law) (pc := 831) d_L_law_831 rfl 1 rfl ?_
  refine GW_aload_n (X := X_L_law) (pc := 832) d_L_law_832 rfl 0 rfl ?_
  refine GW_iload_n (X := X_L_law) (pc := 833) d_L_law_833 rfl 3 rfl ?_
  refine GW_iconst (X := X_L_law) (pc := 834) (v := 1) d_L_law_834 (by decide) ?_
  refine GW_iadd (X := X_L_law) (pc := 835) d_L_law_835 ?_
  replace h := g_bd h
  obtain ⟨v1, hv1, h⟩ := h
  refine GW_sald (X := X_L_law) (pc := 836) d_L_law_836 rfl hv1 ?_
  replace h := g_bd h
  obtain ⟨i2, hi2, h⟩ := h
  obtain ⟨rfl, ki2⟩ := g_gO hi2
  replace h := g_bd h
  obtain ⟨⟨v3, M4⟩, hv3, h⟩ := h
  dsimp only at h
  refine GW_callV (X := X_L_law) (pc := 837) (bc0 := bcK + 0) (bs0 := bsK + 0) (r := some (vi v3)) (M2 := M4) (c0 := 11) (T_X11_ways (some i2) v1 M (v3, M4) hv3) (Nat.le_of_ble_eq_true rfl) (Nat.le_of_ble_eq_true rfl) rfl g_cok11 ki2 yc_X11_ways ⟨m_1041, m_1042, m_1043, m_116, m_1044⟩ d_L_law_837 rfl (st := []) rfl (Nat.le_of_ble_eq_true rfl) (by omega) (by omega) (st2 := [vi v3]) rfl ?_
  refine GW_pop (X := X_L_law) (pc := 840) d_L_law_840 rfl ?_
  refine GW_aload_n (X := X_L_law) (pc := 841) d_L_law_841 rfl 2 rfl ?_
  refine GW_aload_n (X := X_L_law) (pc := 842) d_L_law_842 rfl 0 rfl ?_
  refine GW_iload_n (X := X_L_law) (pc := 843) d_L_law_843 rfl 3 rfl ?_
  refine GW_iconst (X := X_L_law) (pc := 844) (v := 1) d_L_law_844 (by decide) ?_
  refine GW_iadd (X := X_L_law) (pc := 845) d_L_law_845 ?_
  replace h := g_bd h
  obtain ⟨v5, hv5, h⟩ := h
  refine GW_sald (X := X_L_law) (pc := 846) d_L_law_846 rfl hv5 ?_
  replace h := g_bd h
  obtain ⟨i6, hi6, h⟩ := h
  obtain ⟨rfl, ki6⟩ := g_gO hi6
  replace h := g_bd h
  obtain ⟨⟨v7, M8⟩, hv7, h⟩ := h
  dsimp only at h
  refine GW_callV (X := X_L_law) (pc := 847) (bc0 := bcK + 0) (bs0 := bsK + 0) (r := some (vi v7)) (M2 := M8) (c0 := 12) (T_X12_ways (some i6) v5 M4 (v7, M8) hv7) (Nat.le_of_ble_eq_true rfl) (Nat.le_of_ble_eq_true rfl) rfl g_cok12 ki6 yc_X12_ways ⟨m_1615, m_1616, m_1617, m_127, m_1618⟩ d_L_law_847 rfl (st := []) rfl (Nat.le_of_ble_eq_true rfl) (by omega) (by omega) (st2 := [vi v7]) rfl ?_
  refine GW_pop (X := X_L_law) (pc := 850) d_L_law_850 rfl ?_
  refine GW_goto (X := X_L_law) (pc := 851) 1088 d_L_law_851 (by decide) ?_
  exact T_L_law_b1088 bcK bsK k18 r hk18 (some i2) (some i6) l3 M8 h
def F_L_law_b854 (k18 : Option Nat → Option Nat → Int32 → gM → Option (Int32 × gM)) (l1 : Option Nat) (l2 : Option Nat) (l3 : Int32) (M : gM) : Option (Int32 × gM) :=
  (xI M (some 0) (l3 + (1 : Int32))).bind fun v1 => (xI M (some 0) (l3 + (2 : Int32))).bind fun v2 => (gO 11 M l1).bind fun i3 => (F_X11_taught (some i3) v1 v2 M).bind fun v4 => (xI M (some 0) (l3 + (1 : Int32))).bind fun v5 => (xI M (some 0) (l3 + (2 : Int32))).bind fun v6 => (gO 12 M l2).bind fun i7 => (F_X12_taught (some i7) v5 v6 M).bind fun (v8, M9) => F_L_law_b1088 k18 (some i3) (some i7) l3 M9
set_option maxHeartbeats 1000000 in
theorem T_L_law_b854 (bcK bsK : Nat) (k18 : Option Nat → Option Nat → Int32 → gM → Option (Int32 × gM)) (r : (Int32 × gM)) (hk18 : ∀ (l1 : Option Nat) (l2 : Option Nat) (l3 : Int32) (M : gM), k18 l1 l2 l3 M = some r → GW 67 bcK bsK X_L_law 18 [(0, vr (some 0)), (1, vr l1), (2, vr l2), (3, vi l3)] [] M (some (vi r.1), r.2)) (l1 : Option Nat) (l2 : Option Nat) (l3 : Int32) (M : gM) (h : F_L_law_b854 k18 l1 l2 l3 M = some r) : GW 67 (bcK + 0) (bsK + 0) X_L_law 854 [(0, vr (some 0)), (1, vr l1), (2, vr l2), (3, vi l3)] [] M (some (vi r.1), r.2) := by
  delta F_L_law_b854 at h
  refine GW_aload_n (X := X_L_law) (pc := 854) d_L_law_854 rfl 1 rfl ?_
  refine GW_aload_n (X := X_L_law) (pc := 855) d_L_law_855 rfl 0 rfl ?_
  refine GW_iload_n (X := X_L_law) (pc := 856) d_L_law_856 rfl 3 rfl ?_
  refine GW_iconst (X := X_L_law) (pc := 857) (v := 1) d_L_law_857 (by decide) ?_
  refine GW_iadd (X := X_L_law) (pc := 858) d_L_law_858 ?_
  replace h := g_bd h
  obtain ⟨v1, hv1, h⟩ := h
  refine GW_sald (X := X_L_law) (pc := 859) d_L_law_859 rfl hv1 ?_
  refine GW_aload_n (X := X_L_law) (pc := 860) d_L_law_860 rfl 0 rfl ?_
  refine GW_iload_n (X := X_L_law) (pc := 861) d_L_law_861 rfl 3 rfl ?_
  refine GW_iconst (X := X_L_law) (pc := 862) (v := 2) d_L_law_862 (by decide) ?_
  refine GW_iadd (X := X_L_law) (pc := 863) d_L_law_863 ?_
  replace h := g_bd h
  obtain ⟨v2, hv2, h⟩ := h
  refine GW_sald (X := X_L_law) (pc := 864) d_L_law_864 rfl hv2 ?_
  replace h := g_bd h
  obtain ⟨i3, hi3, h⟩ := h
  obtain ⟨rfl, ki3⟩ := g_gO hi3
  replace h := g_bd h
  obtain ⟨v4, hv4, h⟩ := h
  refine GW_callV (X := X_L_law) (pc := 865) (bc0 := bcK + 0) (bs0 := bsK + 0) (r := some (vi v4)) (M2 := M) (c0 := 11) (T_X11_taught (some i3) v1 v2 M v4 hv4) (Nat.le_of_ble_eq_true rfl) (Nat.le_of_ble_eq_true rfl) rfl g_cok11 ki3 yc_X11_taught ⟨m_1064, m_1065, m_1066, m_116, m_1067⟩ d_L_law_865 rfl (st := []) rfl (Nat.le_of_ble_eq_true rfl) (by omega) (by omega) (st2 := [vi v4]) rfl ?_
  refine GW_pop (X := X_L_law) (pc := 868) d_L_law_868 rfl ?_
  refine GW_aload_n (X := X_L_law) (pc := 869) d_L_law_869 rfl 2 rfl ?_
  refine GW_aload_n (X := X_L_law) (pc := 870) d_L_law_870 rfl 0 rfl ?_
  refine GW_iload_n (X := X_L_law) (pc := 871) d_L_law_871 rfl 3 rfl ?_
  refine GW_iconst (X := X_L_law) (pc := 872) (v := 1) d_L_law_872 (by decide) ?_
  refine GW_iadd (X := X_L_law) (pc := 873) d_L_law_873 ?_
  replace h := g_bd h
  obtain ⟨v5, hv5, h⟩ := h
  refine GW_sald (X := X_L_law) (pc := 874) d_L_law_874 rfl hv5 ?_
  refine GW_aload_n (X := X_L_law) (pc := 875) d_L_law_875 rfl 0 rfl ?_
  refine GW_iload_n (X := X_L_law) (pc := 876) d_L_law_876 rfl 3 rfl ?_
  refine GW_iconst (X := X_L_law) (pc := 877) (v := 2) d_L_law_877 (by decide) ?_
  refine GW_iadd (X := X_L_law) (pc := 878) d_L_law_878 ?_
  replace h := g_bd h
  obtain ⟨v6, hv6, h⟩ := h
  refine GW_sald (X := X_L_law) (pc := 879) d_L_law_879 rfl hv6 ?_
  replace h := g_bd h
  obtain ⟨i7, hi7, h⟩ := h
  obtain ⟨rfl, ki7⟩ := g_gO hi7
  replace h := g_bd h
  obtain ⟨⟨v8, M9⟩, hv8, h⟩ := h
  dsimp only at h
  refine GW_callV (X := X_L_law) (pc := 880) (bc0 := bcK + 0) (bs0 := bsK + 0) (r := some (vi v8)) (M2 := M9) (c0 := 12) (T_X12_taught (some i7) v5 v6 M (v8, M9) hv8) (Nat.le_of_ble_eq_true rfl) (Nat.le_of_ble_eq_true rfl) rfl g_cok12 ki7 yc_X12_taught ⟨m_1639, m_1640, m_1641, m_127, m_1642⟩ d_L_law_880 rfl (st := []) rfl (Nat.le_of_ble_eq_true rfl) (by omega) (by omega) (st2 := [vi v8]) rfl ?_
  refine GW_pop (X := X_L_law) (pc := 883) d_L_law_883 rfl ?_
  refine GW_goto (X := X_L_law) (pc := 884) 1088 d_L_law_884 (by decide) ?_
  exact T_L_law_b1088 bcK bsK k18 r hk18 (some i3) (some i7) l3 M9 h
def F_L_law_b887 (k18 : Option Nat → Option Nat → Int32 → gM → Option (Int32 × gM)) (l1 : Option Nat) (l2 : Option Nat) (l3 : Int32) (M : gM) : Option (Int32 × gM) :=
  (xI M (some 0) (l3 + (1 : Int32))).bind fun v1 => (xI M (some 0) (l3 + (2 : Int32))).bind fun v2 => (xI M (some 0) (l3 + (3 : Int32))).bind fun v3 => (gO 11 M l1).bind fun i4 => (F_X11_prompts (some i4) v1 v2 v3 M).bind fun v5 => (xI M (some 0) (l3 + (1 : Int32))).bind fun v6 => (xI M (some 0) (l3 + (2 : Int32))).bind fun v7 => (xI M (some 0) (l3 + (3 : Int32))).bind fun v8 => (gO 12 M l2).bind fun i9 => (F_X12_prompts (some i9) v6 v7 v8 M).bind fun (v10, M11) => F_L_law_b1088 k18 (some i4) (some i9) l3 M11
set_option maxHeartbeats 1000000 in
theorem T_L_law_b887 (bcK bsK : Nat) (k18 : Option Nat → Option Nat → Int32 → gM → Option (Int32 × gM)) (r : (Int32 × gM)) (hk18 : ∀ (l1 : Option Nat) (l2 : Option Nat) (l3 : Int32) (M : gM), k18 l1 l2 l3 M = some r → GW 67 bcK bsK X_L_law 18 [(0, vr (some 0)), (1, vr l1), (2, vr l2), (3, vi l3)] [] M (some (vi r.1), r.2)) (l1 : Option Nat) (l2 : Option Nat) (l3 : Int32) (M : gM) (h : F_L_law_b887 k18 l1 l2 l3 M = some r) : GW 67 (bcK + 0) (bsK + 0) X_L_law 887 [(0, vr (some 0)), (1, vr l1), (2, vr l2), (3, vi l3)] [] M (some (vi r.1), r.2) := by
  delta F_L_law_b887 at h
  refine GW_aload_n (X := X_L_law) (pc := 887) d_L_law_887 rfl 1 rfl ?_
  refine GW_aload_n (X := X_L_law) (pc := 888) d_L_law_888 rfl 0 rfl ?_
  refine GW_iload_n (X := X_L_law) (pc := 889) d_L_law_889 rfl 3 rfl ?_
  refine GW_iconst (X := X_L_law) (pc := 890) (v := 1) d_L_law_890 (by decide) ?_
  refine GW_iadd (X := X_L_law) (pc := 891) d_L_law_891 ?_
  replace h := g_bd h
  obtain ⟨v1, hv1, h⟩ := h
  refine GW_sald (X := X_L_law) (pc := 892) d_L_law_892 rfl hv1 ?_
  refine GW_aload_n (X := X_L_law) (pc := 893) d_L_law_893 rfl 0 rfl ?_
  refine GW_iload_n (X := X_L_law) (pc := 894) d_L_law_894 rfl 3 rfl ?_
  refine GW_iconst (X := X_L_law) (pc := 895) (v := 2) d_L_law_895 (by decide) ?_
  refine GW_iadd (X := X_L_law) (pc := 896) d_L_law_896 ?_
  replace h := g_bd h
  obtain ⟨v2, hv2, h⟩ := h
  refine GW_sald (X := X_L_law) (pc := 897) d_L_law_897 rfl hv2 ?_
  refine GW_aload_n (X := X_L_law) (pc := 898) d_L_law_898 rfl 0 rfl ?_
  refine GW_iload_n (X := X_L_law) (pc := 899) d_L_law_899 rfl 3 rfl ?_
  refine GW_iconst (X := X_L_law) (pc := 900) (v := 3) d_L_law_900 (by decide) ?_
  refine GW_iadd (X := X_L_law) (pc := 901) d_L_law_901 ?_
  replace h := g_bd h
  obtain ⟨v3, hv3, h⟩ := h
  refine GW_sald (X := X_L_law) (pc := 902) d_L_law_902 rfl hv3 ?_
  replace h := g_bd h
  obtain ⟨i4, hi4, h⟩ := h
  obtain ⟨rfl, ki4⟩ := g_gO hi4
  replace h := g_bd h
  obtain ⟨v5, hv5, h⟩ := h
  refine GW_callV (X := X_L_law) (pc := 903) (bc0 := bcK + 0) (bs0 := bsK + 0) (r := some (vi v5)) (M2 := M) (c0 := 11) (T_X11_prompts (some i4) v1 v2 v3 M v5 hv5) (Nat.le_of_ble_eq_true rfl) (Nat.le_of_ble_eq_true rfl) rfl g_cok11 ki4 yc_X11_prompts ⟨m_998, m_999, m_1000, m_116, m_1001⟩ d_L_law_903 rfl (st := []) rfl (Nat.le_of_ble_eq_true rfl) (by omega) (by omega) (st2 := [vi v5]) rfl ?_
  refine GW_pop (X := X_L_law) (pc := 906) d_L_law_906 rfl ?_
  refine GW_aload_n (X := X_L_law) (pc := 907) d_L_law_907 rfl 2 rfl ?_
  refine GW_aload_n (X := X_L_law) (pc := 908) d_L_law_908 rfl 0 rfl ?_
  refine GW_iload_n (X := X_L_law) (pc := 909) d_L_law_909 rfl 3 rfl ?_
  refine GW_iconst (X := X_L_law) (pc := 910) (v := 1) d_L_law_910 (by decide) ?_
  refine GW_iadd (X := X_L_law) (pc := 911) d_L_law_911 ?_
  replace h := g_bd h
  obtain ⟨v6, hv6, h⟩ := h
  refine GW_sald (X := X_L_law) (pc := 912) d_L_law_912 rfl hv6 ?_
  refine GW_aload_n (X := X_L_law) (pc := 913) d_L_law_913 rfl 0 rfl ?_
  refine GW_iload_n (X := X_L_law) (pc := 914) d_L_law_914 rfl 3 rfl ?_
  refine GW_iconst (X := X_L_law) (pc := 915) (v := 2) d_L_law_915 (by decide) ?_
  refine GW_iadd (X := X_L_law) (pc := 916) d_L_law_916 ?_
  replace h := g_bd h
  obtain ⟨v7, hv7, h⟩ := h
  refine GW_sald (X := X_L_law) (pc := 917) d_L_law_917 rfl hv7 ?_
  refine GW_aload_n (X := X_L_law) (pc := 918) d_L_law_918 rfl 0 rfl ?_
  refine GW_iload_n (X := X_L_law) (pc := 919) d_L_law_919 rfl 3 rfl ?_
  refine GW_iconst (X := X_L_law) (pc := 920) (v := 3) d_L_law_920 (by decide) ?_
  refine GW_iadd (X := X_L_law) (pc := 921) d_L_law_921 ?_
  replace h := g_bd h
  obtain ⟨v8, hv8, h⟩ := h
  refine GW_sald (X := X_L_law) (pc := 922) d_L_law_922 rfl hv8 ?_
  replace h := g_bd h
  obtain ⟨i9, hi9, h⟩ := h
  obtain ⟨rfl, ki9⟩ := g_gO hi9
  replace h := g_bd h
  obtain ⟨⟨v10, M11⟩, hv10, h⟩ := h
  dsimp only at h
  refine GW_callV (X := X_L_law) (pc := 923) (bc0 := bcK + 0) (bs0 := bsK + 0) (r := some (vi v10)) (M2 := M11) (c0 := 12) (T_X12_prompts (some i9) v6 v7 v8 M (v10, M11) hv10) (Nat.le_of_ble_eq_true rfl) (Nat.le_of_ble_eq_true rfl) rfl g_cok12 ki9 yc_X12_prompts ⟨m_1643, m_1644, m_1645, m_127, m_1646⟩ d_L_law_923 rfl (st := []) rfl (Nat.le_of_ble_eq_true rfl) (by omega) (by omega) (st2 := [vi v10]) rfl ?_
  refine GW_pop (X := X_L_law) (pc := 926) d_L_law_926 rfl ?_
  refine GW_goto (X := X_L_law) (pc := 927) 1088 d_L_law_927 (by decide) ?_
  exact T_L_law_b1088 bcK bsK k18 r hk18 (some i4) (some i9) l3 M11 h
def F_L_law_b930 (k18 : Option Nat → Option Nat → Int32 → gM → Option (Int32 × gM)) (l1 : Option Nat) (l2 : Option Nat) (l3 : Int32) (M : gM) : Option (Int32 × gM) :=
  (xI M (some 0) (l3 + (1 : Int32))).bind fun v1 => (gO 11 M l1).bind fun i2 => (F_X11_cost (some i2) v1 M).bind fun (v3, M4) => (xI M4 (some 0) (l3 + (1 : Int32))).bind fun v5 => (gO 12 M4 l2).bind fun i6 => (F_X12_cost (some i6) v5 M4).bind fun (v7, M8) => F_L_law_b1088 k18 (some i2) (some i6) l3 M8
theorem T_L_law_b930 (bcK bsK : Nat) (k18 : Option Nat → Option Nat → Int32 → gM → Option (Int32 × gM)) (r : (Int32 × gM)) (hk18 : ∀ (l1 : Option Nat) (l2 : Option Nat) (l3 : Int32) (M : gM), k18 l1 l2 l3 M = some r → GW 67 bcK bsK X_L_law 18 [(0, vr (some 0)), (1, vr l1), (2, vr l2), (3, vi l3)] [] M (some (vi r.1), r.2)) (l1 : Option Nat) (l2 : Option Nat) (l3 : Int32) (M : gM) (h : F_L_law_b930 k18 l1 l2 l3 M = some r) : GW 67 (bcK + 0) (bsK + 0) X_L_law 930 [(0, vr (some 0)), (1, vr l1), (2, vr l2), (3, vi l3)] [] M (some (vi r.1), r.2) := by
  delta F_L_law_b930 at h
  refine GW_aload_n (X := X_L_law) (pc := 930) d_L_law_930 rfl 1 rfl ?_
  refine GW_aload_n (X := X_L_law) (pc := 931) d_L_law_931 rfl 0 rfl ?_
  refine GW_iload_n (X := X_L_law) (pc := 932) d_L_law_932 rfl 3 rfl ?_
  refine GW_iconst (X := X_L_law) (pc := 933) (v := 1) d_L_law_933 (by decide) ?_
  refine GW_iadd (X := X_L_law) (pc := 934) d_L_law_934 ?_
  replace h := g_bd h
  obtain ⟨v1, hv1, h⟩ := h
  refine GW_sald (X := X_L_law) (pc := 935) d_L_law_935 rfl hv1 ?_
  replace h := g_bd h
  obtain ⟨i2, hi2, h⟩ := h
  obtain ⟨rfl, ki2⟩ := g_gO hi2
  replace h := g_bd h
  obtain ⟨⟨v3, M4⟩, hv3, h⟩ := h
  dsimp only at h
  refine GW_callV (X := X_L_law) (pc := 936) (bc0 := bcK + 0) (bs0 := bsK + 0) (r := some (vi v3)) (M2 := M4) (c0 := 11) (T_X11_cost (some i2) v1 M (v3, M4) hv3) (Nat.le_of_ble_eq_true rfl) (Nat.le_of_ble_eq_true rfl) rfl g_cok11 ki2 yc_X11_cost ⟨m_994, m_995, m_996, m_116, m_997⟩ d_L_law_936 rfl (st := []) rfl (Nat.le_of_ble_eq_true rfl) (by omega) (by omega) (st2 := [vi v3]) rfl ?_
  refine GW_pop (X := X_L_law) (pc := 939) d_L_law_939 rfl ?_
  refine GW_aload_n (X := X_L_law) (pc := 940) d_L_law_940 rfl 2 rfl ?_
  refine GW_aload_n (X := X_L_law) (pc := 941) d_L_law_941 rfl 0 rfl ?_
  refine GW_iload_n (X := X_L_law) (pc := 942) d_L_law_942 rfl 3 rfl ?_
  refine GW_iconst (X := X_L_law) (pc := 943) (v := 1) d_L_law_943 (by decide) ?_
  refine GW_iadd (X := X_L_law) (pc := 944) d_L_law_944 ?_
  replace h := g_bd h
  obtain ⟨v5, hv5, h⟩ := h
  refine GW_sald (X := X_L_law) (pc := 945) d_L_law_945 rfl hv5 ?_
  replace h := g_bd h
  obtain ⟨i6, hi6, h⟩ := h
  obtain ⟨rfl, ki6⟩ := g_gO hi6
  replace h := g_bd h
  obtain ⟨⟨v7, M8⟩, hv7, h⟩ := h
  dsimp only at h
  refine GW_callV (X := X_L_law) (pc := 946) (bc0 := bcK + 0) (bs0 := bsK + 0) (r := some (vi v7)) (M2 := M8) (c0 := 12) (T_X12_cost (some i6) v5 M4 (v7, M8) hv7) (Nat.le_of_ble_eq_true rfl) (Nat.le_of_ble_eq_true rfl) rfl g_cok12 ki6 yc_X12_cost ⟨m_1652, m_1653, m_1654, m_127, m_1655⟩ d_L_law_946 rfl (st := []) rfl (Nat.le_of_ble_eq_true rfl) (by omega) (by omega) (st2 := [vi v7]) rfl ?_
  refine GW_pop (X := X_L_law) (pc := 949) d_L_law_949 rfl ?_
  refine GW_goto (X := X_L_law) (pc := 950) 1088 d_L_law_950 (by decide) ?_
  exact T_L_law_b1088 bcK bsK k18 r hk18 (some i2) (some i6) l3 M8 h
def F_L_law_b953 (k18 : Option Nat → Option Nat → Int32 → gM → Option (Int32 × gM)) (l1 : Option Nat) (l2 : Option Nat) (l3 : Int32) (M : gM) : Option (Int32 × gM) :=
  (xI M (some 0) (l3 + (1 : Int32))).bind fun v1 => (gO 11 M l1).bind fun i2 => (F_X11_seed (some i2) v1 M).bind fun (v3, M4) => (xI M4 (some 0) (l3 + (1 : Int32))).bind fun v5 => (gO 12 M4 l2).bind fun i6 => (F_X12_seed (some i6) v5 M4).bind fun (v7, M8) => F_L_law_b1088 k18 (some i2) (some i6) l3 M8
theorem T_L_law_b953 (bcK bsK : Nat) (k18 : Option Nat → Option Nat → Int32 → gM → Option (Int32 × gM)) (r : (Int32 × gM)) (hk18 : ∀ (l1 : Option Nat) (l2 : Option Nat) (l3 : Int32) (M : gM), k18 l1 l2 l3 M = some r → GW 67 bcK bsK X_L_law 18 [(0, vr (some 0)), (1, vr l1), (2, vr l2), (3, vi l3)] [] M (some (vi r.1), r.2)) (l1 : Option Nat) (l2 : Option Nat) (l3 : Int32) (M : gM) (h : F_L_law_b953 k18 l1 l2 l3 M = some r) : GW 67 (bcK + 0) (bsK + 0) X_L_law 953 [(0, vr (some 0)), (1, vr l1), (2, vr l2), (3, vi l3)] [] M (some (vi r.1), r.2) := by
  delta F_L_law_b953 at h
  refine GW_aload_n (X := X_L_law) (pc := 953) d_L_law_953 rfl 1 rfl ?_
  refine GW_aload_n (X := X_L_law) (pc := 954) d_L_law_954 rfl 0 rfl ?_
  refine GW_iload_n (X := X_L_law) (pc := 955) d_L_law_955 rfl 3 rfl ?_
  refine GW_iconst (X := X_L_law) (pc := 956) (v := 1) d_L_law_956 (by decide) ?_
  refine GW_iadd (X := X_L_law) (pc := 957) d_L_law_957 ?_
  replace h := g_bd h
  obtain ⟨v1, hv1, h⟩ := h
  refine GW_sald (X := X_L_law) (pc := 958) d_L_law_958 rfl hv1 ?_
  replace h := g_bd h
  obtain ⟨i2, hi2, h⟩ := h
  obtain ⟨rfl, ki2⟩ := g_gO hi2
  replace h := g_bd h
  obtain ⟨⟨v3, M4⟩, hv3, h⟩ := h
  dsimp only at h
  refine GW_callV (X := X_L_law) (pc := 959) (bc0 := bcK + 0) (bs0 := bsK + 0) (r := some (vi v3)) (M2 := M4) (c0 := 11) (T_X11_seed (some i2) v1 M (v3, M4) hv3) (Nat.le_of_ble_eq_true rfl) (Nat.le_of_ble_eq_true rfl) rfl g_cok11 ki2 yc_X11_seed ⟨m_1068, m_1069, m_1070, m_116, m_1071⟩ d_L_law_959 rfl (st := []) rfl (Nat.le_of_ble_eq_true rfl) (by omega) (by omega) (st2 := [vi v3]) rfl ?_
  refine GW_pop (X := X_L_law) (pc := 962) d_L_law_962 rfl ?_
  refine GW_aload_n (X := X_L_law) (pc := 963) d_L_law_963 rfl 2 rfl ?_
  refine GW_aload_n (X := X_L_law) (pc := 964) d_L_law_964 rfl 0 rfl ?_
  refine GW_iload_n (X := X_L_law) (pc := 965) d_L_law_965 rfl 3 rfl ?_
  refine GW_iconst (X := X_L_law) (pc := 966) (v := 1) d_L_law_966 (by decide) ?_
  refine GW_iadd (X := X_L_law) (pc := 967) d_L_law_967 ?_
  replace h := g_bd h
  obtain ⟨v5, hv5, h⟩ := h
  refine GW_sald (X := X_L_law) (pc := 968) d_L_law_968 rfl hv5 ?_
  replace h := g_bd h
  obtain ⟨i6, hi6, h⟩ := h
  obtain ⟨rfl, ki6⟩ := g_gO hi6
  replace h := g_bd h
  obtain ⟨⟨v7, M8⟩, hv7, h⟩ := h
  dsimp only at h
  refine GW_callV (X := X_L_law) (pc := 969) (bc0 := bcK + 0) (bs0 := bsK + 0) (r := some (vi v7)) (M2 := M8) (c0 := 12) (T_X12_seed (some i6) v5 M4 (v7, M8) hv7) (Nat.le_of_ble_eq_true rfl) (Nat.le_of_ble_eq_true rfl) rfl g_cok12 ki6 yc_X12_seed ⟨m_1656, m_1657, m_1658, m_127, m_1659⟩ d_L_law_969 rfl (st := []) rfl (Nat.le_of_ble_eq_true rfl) (by omega) (by omega) (st2 := [vi v7]) rfl ?_
  refine GW_pop (X := X_L_law) (pc := 972) d_L_law_972 rfl ?_
  refine GW_goto (X := X_L_law) (pc := 973) 1088 d_L_law_973 (by decide) ?_
  exact T_L_law_b1088 bcK bsK k18 r hk18 (some i2) (some i6) l3 M8 h
def F_L_law_b976 (k18 : Option Nat → Option Nat → Int32 → gM → Option (Int32 × gM)) (l1 : Option Nat) (l2 : Option Nat) (l3 : Int32) (M : gM) : Option (Int32 × gM) :=
  (xI M (some 0) (l3 + (1 : Int32))).bind fun v1 => (xI M (some 0) (l3 + (2 : Int32))).bind fun v2 => (xI M (some 0) (l3 + (3 : Int32))).bind fun v3 => (gO 11 M l1).bind fun i4 => (F_X11_drawn (some i4) v1 v2 v3 M).bind fun (v5, M6) => (xI M6 (some 0) (l3 + (1 : Int32))).bind fun v7 => (xI M6 (some 0) (l3 + (2 : Int32))).bind fun v8 => (xI M6 (some 0) (l3 + (3 : Int32))).bind fun v9 => (gO 12 M6 l2).bind fun i10 => (F_X12_drawn (some i10) v7 v8 v9 M6).bind fun (v11, M12) => F_L_law_b1088 k18 (some i4) (some i10) l3 M12
set_option maxHeartbeats 1000000 in
theorem T_L_law_b976 (bcK bsK : Nat) (k18 : Option Nat → Option Nat → Int32 → gM → Option (Int32 × gM)) (r : (Int32 × gM)) (hk18 : ∀ (l1 : Option Nat) (l2 : Option Nat) (l3 : Int32) (M : gM), k18 l1 l2 l3 M = some r → GW 67 bcK bsK X_L_law 18 [(0, vr (some 0)), (1, vr l1), (2, vr l2), (3, vi l3)] [] M (some (vi r.1), r.2)) (l1 : Option Nat) (l2 : Option Nat) (l3 : Int32) (M : gM) (h : F_L_law_b976 k18 l1 l2 l3 M = some r) : GW 67 (bcK + 0) (bsK + 0) X_L_law 976 [(0, vr (some 0)), (1, vr l1), (2, vr l2), (3, vi l3)] [] M (some (vi r.1), r.2) := by
  delta F_L_law_b976 at h
  refine GW_aload_n (X := X_L_law) (pc := 976) d_L_law_976 rfl 1 rfl ?_
  refine GW_aload_n (X := X_L_law) (pc := 977) d_L_law_977 rfl 0 rfl ?_
  refine GW_iload_n (X := X_L_law) (pc := 978) d_L_law_978 rfl 3 rfl ?_
  refine GW_iconst (X := X_L_law) (pc := 979) (v := 1) d_L_law_979 (by decide) ?_
  refine GW_iadd (X := X_L_law) (pc := 980) d_L_law_980 ?_
  replace h := g_bd h
  obtain ⟨v1, hv1, h⟩ := h
  refine GW_sald (X := X_L_law) (pc := 981) d_L_law_981 rfl hv1 ?_
  refine GW_aload_n (X := X_L_law) (pc := 982) d_L_law_982 rfl 0 rfl ?_
  refine GW_iload_n (X := X_L_law) (pc := 983) d_L_law_983 rfl 3 rfl ?_
  refine GW_iconst (X := X_L_law) (pc := 984) (v := 2) d_L_law_984 (by decide) ?_
  refine GW_iadd (X := X_L_law) (pc := 985) d_L_law_985 ?_
  replace h := g_bd h
  obtain ⟨v2, hv2, h⟩ := h
  refine GW_sald (X := X_L_law) (pc := 986) d_L_law_986 rfl hv2 ?_
  refine GW_aload_n (X := X_L_law) (pc := 987) d_L_law_987 rfl 0 rfl ?_
  refine GW_iload_n (X := X_L_law) (pc := 988) d_L_law_988 rfl 3 rfl ?_
  refine GW_iconst (X := X_L_law) (pc := 989) (v := 3) d_L_law_989 (by decide) ?_
  refine GW_iadd (X := X_L_law) (pc := 990) d_L_law_990 ?_
  replace h := g_bd h
  obtain ⟨v3, hv3, h⟩ := h
  refine GW_sald (X := X_L_law) (pc := 991) d_L_law_991 rfl hv3 ?_
  replace h := g_bd h
  obtain ⟨i4, hi4, h⟩ := h
  obtain ⟨rfl, ki4⟩ := g_gO hi4
  replace h := g_bd h
  obtain ⟨⟨v5, M6⟩, hv5, h⟩ := h
  dsimp only at h
  refine GW_callV (X := X_L_law) (pc := 992) (bc0 := bcK + 0) (bs0 := bsK + 0) (r := some (vi v5)) (M2 := M6) (c0 := 11) (T_X11_drawn (some i4) v1 v2 v3 M (v5, M6) hv5) (Nat.le_of_ble_eq_true rfl) (Nat.le_of_ble_eq_true rfl) rfl g_cok11 ki4 yc_X11_drawn ⟨m_1072, m_1073, m_1074, m_116, m_1075⟩ d_L_law_992 rfl (st := []) rfl (Nat.le_of_ble_eq_true rfl) (by omega) (by omega) (st2 := [vi v5]) rfl ?_
  refine GW_pop (X := X_L_law) (pc := 995) d_L_law_995 rfl ?_
  refine GW_aload_n (X := X_L_law) (pc := 996) d_L_law_996 rfl 2 rfl ?_
  refine GW_aload_n (X := X_L_law) (pc := 997) d_L_law_997 rfl 0 rfl ?_
  refine GW_iload_n (X := X_L_law) (pc := 998) d_L_law_998 rfl 3 rfl ?_
  refine GW_iconst (X := X_L_law) (pc := 999) (v := 1) d_L_law_999 (by decide) ?_
  refine GW_iadd (X := X_L_law) (pc := 1000) d_L_law_1000 ?_
  replace h := g_bd h
  obtain ⟨v7, hv7, h⟩ := h
  refine GW_sald (X := X_L_law) (pc := 1001) d_L_law_1001 rfl hv7 ?_
  refine GW_aload_n (X := X_L_law) (pc := 1002) d_L_law_1002 rfl 0 rfl ?_
  refine GW_iload_n (X := X_L_law) (pc := 1003) d_L_law_1003 rfl 3 rfl ?_
  refine GW_iconst (X := X_L_law) (pc := 1004) (v := 2) d_L_law_1004 (by decide) ?_
  refine GW_iadd (X := X_L_law) (pc := 1005) d_L_law_1005 ?_
  replace h := g_bd h
  obtain ⟨v8, hv8, h⟩ := h
  refine GW_sald (X := X_L_law) (pc := 1006) d_L_law_1006 rfl hv8 ?_
  refine GW_aload_n (X := X_L_law) (pc := 1007) d_L_law_1007 rfl 0 rfl ?_
  refine GW_iload_n (X := X_L_law) (pc := 1008) d_L_law_1008 rfl 3 rfl ?_
  refine GW_iconst (X := X_L_law) (pc := 1009) (v := 3) d_L_law_1009 (by decide) ?_
  refine GW_iadd (X := X_L_law) (pc := 1010) d_L_law_1010 ?_
  replace h := g_bd h
  obtain ⟨v9, hv9, h⟩ := h
  refine GW_sald (X := X_L_law) (pc := 1011) d_L_law_1011 rfl hv9 ?_
  replace h := g_bd h
  obtain ⟨i10, hi10, h⟩ := h
  obtain ⟨rfl, ki10⟩ := g_gO hi10
  replace h := g_bd h
  obtain ⟨⟨v11, M12⟩, hv11, h⟩ := h
  dsimp only at h
  refine GW_callV (X := X_L_law) (pc := 1012) (bc0 := bcK + 0) (bs0 := bsK + 0) (r := some (vi v11)) (M2 := M12) (c0 := 12) (T_X12_drawn (some i10) v7 v8 v9 M6 (v11, M12) hv11) (Nat.le_of_ble_eq_true rfl) (Nat.le_of_ble_eq_true rfl) rfl g_cok12 ki10 yc_X12_drawn ⟨m_1660, m_1661, m_1662, m_127, m_1663⟩ d_L_law_1012 rfl (st := []) rfl (Nat.le_of_ble_eq_true rfl) (by omega) (by omega) (st2 := [vi v11]) rfl ?_
  refine GW_pop (X := X_L_law) (pc := 1015) d_L_law_1015 rfl ?_
  refine GW_goto (X := X_L_law) (pc := 1016) 1088 d_L_law_1016 (by decide) ?_
  exact T_L_law_b1088 bcK bsK k18 r hk18 (some i4) (some i10) l3 M12 h
def F_L_law_b1019 (k18 : Option Nat → Option Nat → Int32 → gM → Option (Int32 × gM)) (l1 : Option Nat) (l2 : Option Nat) (l3 : Int32) (M : gM) : Option (Int32 × gM) :=
  (xI M (some 0) (l3 + (1 : Int32))).bind fun v1 => (gO 11 M l1).bind fun i2 => (F_X11_count (some i2) v1 M).bind fun v3 => (xI M (some 0) (l3 + (1 : Int32))).bind fun v4 => (gO 12 M l2).bind fun i5 => (F_X12_count (some i5) v4 M).bind fun v6 => F_L_law_b1088 k18 (some i2) (some i5) l3 M
theorem T_L_law_b1019 (bcK bsK : Nat) (k18 : Option Nat → Option Nat → Int32 → gM → Option (Int32 × gM)) (r : (Int32 × gM)) (hk18 : ∀ (l1 : Option Nat) (l2 : Option Nat) (l3 : Int32) (M : gM), k18 l1 l2 l3 M = some r → GW 67 bcK bsK X_L_law 18 [(0, vr (some 0)), (1, vr l1), (2, vr l2), (3, vi l3)] [] M (some (vi r.1), r.2)) (l1 : Option Nat) (l2 : Option Nat) (l3 : Int32) (M : gM) (h : F_L_law_b1019 k18 l1 l2 l3 M = some r) : GW 67 (bcK + 0) (bsK + 0) X_L_law 1019 [(0, vr (some 0)), (1, vr l1), (2, vr l2), (3, vi l3)] [] M (some (vi r.1), r.2) := by
  delta F_L_law_b1019 at h
  refine GW_aload_n (X := X_L_law) (pc := 1019) d_L_law_1019 rfl 1 rfl ?_
  refine GW_aload_n (X := X_L_law) (pc := 1020) d_L_law_1020 rfl 0 rfl ?_
  refine GW_iload_n (X := X_L_law) (pc := 1021) d_L_law_1021 rfl 3 rfl ?_
  refine GW_iconst (X := X_L_law) (pc := 1022) (v := 1) d_L_law_1022 (by decide) ?_
  refine GW_iadd (X := X_L_law) (pc := 1023) d_L_law_1023 ?_
  replace h := g_bd h
  obtain ⟨v1, hv1, h⟩ := h
  refine GW_sald (X := X_L_law) (pc := 1024) d_L_law_1024 rfl hv1 ?_
  replace h := g_bd h
  obtain ⟨i2, hi2, h⟩ := h
  obtain ⟨rfl, ki2⟩ := g_gO hi2
  replace h := g_bd h
  obtain ⟨v3, hv3, h⟩ := h
  refine GW_callV (X := X_L_law) (pc := 1025) (bc0 := bcK + 0) (bs0 := bsK + 0) (r := some (vi v3)) (M2 := M) (c0 := 11) (T_X11_count (some i2) v1 M v3 hv3) (Nat.le_of_ble_eq_true rfl) (Nat.le_of_ble_eq_true rfl) rfl g_cok11 ki2 yc_X11_count ⟨m_803, m_804, m_805, m_116, m_806⟩ d_L_law_1025 rfl (st := []) rfl (Nat.le_of_ble_eq_true rfl) (by omega) (by omega) (st2 := [vi v3]) rfl ?_
  refine GW_pop (X := X_L_law) (pc := 1028) d_L_law_1028 rfl ?_
  refine GW_aload_n (X := X_L_law) (pc := 1029) d_L_law_1029 rfl 2 rfl ?_
  refine GW_aload_n (X := X_L_law) (pc := 1030) d_L_law_1030 rfl 0 rfl ?_
  refine GW_iload_n (X := X_L_law) (pc := 1031) d_L_law_1031 rfl 3 rfl ?_
  refine GW_iconst (X := X_L_law) (pc := 1032) (v := 1) d_L_law_1032 (by decide) ?_
  refine GW_iadd (X := X_L_law) (pc := 1033) d_L_law_1033 ?_
  replace h := g_bd h
  obtain ⟨v4, hv4, h⟩ := h
  refine GW_sald (X := X_L_law) (pc := 1034) d_L_law_1034 rfl hv4 ?_
  replace h := g_bd h
  obtain ⟨i5, hi5, h⟩ := h
  obtain ⟨rfl, ki5⟩ := g_gO hi5
  replace h := g_bd h
  obtain ⟨v6, hv6, h⟩ := h
  refine GW_callV (X := X_L_law) (pc := 1035) (bc0 := bcK + 0) (bs0 := bsK + 0) (r := some (vi v6)) (M2 := M) (c0 := 12) (T_X12_count (some i5) v4 M v6 hv6) (Nat.le_of_ble_eq_true rfl) (Nat.le_of_ble_eq_true rfl) rfl g_cok12 ki5 yc_X12_count ⟨m_1682, m_1683, m_1684, m_127, m_1685⟩ d_L_law_1035 rfl (st := []) rfl (Nat.le_of_ble_eq_true rfl) (by omega) (by omega) (st2 := [vi v6]) rfl ?_
  refine GW_pop (X := X_L_law) (pc := 1038) d_L_law_1038 rfl ?_
  refine GW_goto (X := X_L_law) (pc := 1039) 1088 d_L_law_1039 (by decide) ?_
  exact T_L_law_b1088 bcK bsK k18 r hk18 (some i2) (some i5) l3 M h
def F_L_law_b1042 (k18 : Option Nat → Option Nat → Int32 → gM → Option (Int32 × gM)) (l1 : Option Nat) (l2 : Option Nat) (l3 : Int32) (M : gM) : Option (Int32 × gM) :=
  (xI M (some 0) (l3 + (1 : Int32))).bind fun v1 => (gO 11 M l1).bind fun i2 => (F_X11_image (some i2) v1 M).bind fun (v3, M4) => (xI M4 (some 0) (l3 + (1 : Int32))).bind fun v5 => (gO 12 M4 l2).bind fun i6 => (F_X12_image (some i6) v5 M4).bind fun (v7, M8) => F_L_law_b1088 k18 (some i2) (some i6) l3 M8
theorem T_L_law_b1042 (bcK bsK : Nat) (k18 : Option Nat → Option Nat → Int32 → gM → Option (Int32 × gM)) (r : (Int32 × gM)) (hk18 : ∀ (l1 : Option Nat) (l2 : Option Nat) (l3 : Int32) (M : gM), k18 l1 l2 l3 M = some r → GW 67 bcK bsK X_L_law 18 [(0, vr (some 0)), (1, vr l1), (2, vr l2), (3, vi l3)] [] M (some (vi r.1), r.2)) (l1 : Option Nat) (l2 : Option Nat) (l3 : Int32) (M : gM) (h : F_L_law_b1042 k18 l1 l2 l3 M = some r) : GW 67 (bcK + 0) (bsK + 0) X_L_law 1042 [(0, vr (some 0)), (1, vr l1), (2, vr l2), (3, vi l3)] [] M (some (vi r.1), r.2) := by
  delta F_L_law_b1042 at h
  refine GW_aload_n (X := X_L_law) (pc := 1042) d_L_law_1042 rfl 1 rfl ?_
  refine GW_aload_n (X := X_L_law) (pc := 1043) d_L_law_1043 rfl 0 rfl ?_
  refine GW_iload_n (X := X_L_law) (pc := 1044) d_L_law_1044 rfl 3 rfl ?_
  refine GW_iconst (X := X_L_law) (pc := 1045) (v := 1) d_L_law_1045 (by decide) ?_
  refine GW_iadd (X := X_L_law) (pc := 1046) d_L_law_1046 ?_
  replace h := g_bd h
  obtain ⟨v1, hv1, h⟩ := h
  refine GW_sald (X := X_L_law) (pc := 1047) d_L_law_1047 rfl hv1 ?_
  replace h := g_bd h
  obtain ⟨i2, hi2, h⟩ := h
  obtain ⟨rfl, ki2⟩ := g_gO hi2
  replace h := g_bd h
  obtain ⟨⟨v3, M4⟩, hv3, h⟩ := h
  dsimp only at h
  refine GW_callV (X := X_L_law) (pc := 1048) (bc0 := bcK + 0) (bs0 := bsK + 0) (r := some (vi v3)) (M2 := M4) (c0 := 11) (T_X11_image (some i2) v1 M (v3, M4) hv3) (Nat.le_of_ble_eq_true rfl) (Nat.le_of_ble_eq_true rfl) rfl g_cok11 ki2 yc_X11_image ⟨m_1088, m_1089, m_1090, m_116, m_1091⟩ d_L_law_1048 rfl (st := []) rfl (Nat.le_of_ble_eq_true rfl) (by omega) (by omega) (st2 := [vi v3]) rfl ?_
  refine GW_pop (X := X_L_law) (pc := 1051) d_L_law_1051 rfl ?_
  refine GW_aload_n (X := X_L_law) (pc := 1052) d_L_law_1052 rfl 2 rfl ?_
  refine GW_aload_n (X := X_L_law) (pc := 1053) d_L_law_1053 rfl 0 rfl ?_
  refine GW_iload_n (X := X_L_law) (pc := 1054) d_L_law_1054 rfl 3 rfl ?_
  refine GW_iconst (X := X_L_law) (pc := 1055) (v := 1) d_L_law_1055 (by decide) ?_
  refine GW_iadd (X := X_L_law) (pc := 1056) d_L_law_1056 ?_
  replace h := g_bd h
  obtain ⟨v5, hv5, h⟩ := h
  refine GW_sald (X := X_L_law) (pc := 1057) d_L_law_1057 rfl hv5 ?_
  replace h := g_bd h
  obtain ⟨i6, hi6, h⟩ := h
  obtain ⟨rfl, ki6⟩ := g_gO hi6
  replace h := g_bd h
  obtain ⟨⟨v7, M8⟩, hv7, h⟩ := h
  dsimp only at h
  refine GW_callV (X := X_L_law) (pc := 1058) (bc0 := bcK + 0) (bs0 := bsK + 0) (r := some (vi v7)) (M2 := M8) (c0 := 12) (T_X12_image (some i6) v5 M4 (v7, M8) hv7) (Nat.le_of_ble_eq_true rfl) (Nat.le_of_ble_eq_true rfl) rfl g_cok12 ki6 yc_X12_image ⟨m_1686, m_1687, m_1688, m_127, m_1689⟩ d_L_law_1058 rfl (st := []) rfl (Nat.le_of_ble_eq_true rfl) (by omega) (by omega) (st2 := [vi v7]) rfl ?_
  refine GW_pop (X := X_L_law) (pc := 1061) d_L_law_1061 rfl ?_
  refine GW_goto (X := X_L_law) (pc := 1062) 1088 d_L_law_1062 (by decide) ?_
  exact T_L_law_b1088 bcK bsK k18 r hk18 (some i2) (some i6) l3 M8 h
def F_L_law_b1065 (k18 : Option Nat → Option Nat → Int32 → gM → Option (Int32 × gM)) (l1 : Option Nat) (l2 : Option Nat) (l3 : Int32) (M : gM) : Option (Int32 × gM) :=
  (xI M (some 0) (l3 + (1 : Int32))).bind fun v1 => (gO 11 M l1).bind fun i2 => (F_X11_back (some i2) v1 M).bind fun (v3, M4) => (xI M4 (some 0) (l3 + (1 : Int32))).bind fun v5 => (gO 12 M4 l2).bind fun i6 => (F_X12_back (some i6) v5 M4).bind fun (v7, M8) => if v3 = v7 then (F_L_law_b1088 k18 (some i2) (some i6) l3 M8) else (some ((0 : Int32), M8))
theorem T_L_law_b1065 (bcK bsK : Nat) (k18 : Option Nat → Option Nat → Int32 → gM → Option (Int32 × gM)) (r : (Int32 × gM)) (hk18 : ∀ (l1 : Option Nat) (l2 : Option Nat) (l3 : Int32) (M : gM), k18 l1 l2 l3 M = some r → GW 67 bcK bsK X_L_law 18 [(0, vr (some 0)), (1, vr l1), (2, vr l2), (3, vi l3)] [] M (some (vi r.1), r.2)) (l1 : Option Nat) (l2 : Option Nat) (l3 : Int32) (M : gM) (h : F_L_law_b1065 k18 l1 l2 l3 M = some r) : GW 67 (bcK + 0) (bsK + 0) X_L_law 1065 [(0, vr (some 0)), (1, vr l1), (2, vr l2), (3, vi l3)] [] M (some (vi r.1), r.2) := by
  delta F_L_law_b1065 at h
  refine GW_aload_n (X := X_L_law) (pc := 1065) d_L_law_1065 rfl 1 rfl ?_
  refine GW_aload_n (X := X_L_law) (pc := 1066) d_L_law_1066 rfl 0 rfl ?_
  refine GW_iload_n (X := X_L_law) (pc := 1067) d_L_law_1067 rfl 3 rfl ?_
  refine GW_iconst (X := X_L_law) (pc := 1068) (v := 1) d_L_law_1068 (by decide) ?_
  refine GW_iadd (X := X_L_law) (pc := 1069) d_L_law_1069 ?_
  replace h := g_bd h
  obtain ⟨v1, hv1, h⟩ := h
  refine GW_sald (X := X_L_law) (pc := 1070) d_L_law_1070 rfl hv1 ?_
  replace h := g_bd h
  obtain ⟨i2, hi2, h⟩ := h
  obtain ⟨rfl, ki2⟩ := g_gO hi2
  replace h := g_bd h
  obtain ⟨⟨v3, M4⟩, hv3, h⟩ := h
  dsimp only at h
  refine GW_callV (X := X_L_law) (pc := 1071) (bc0 := bcK + 0) (bs0 := bsK + 0) (r := some (vi v3)) (M2 := M4) (c0 := 11) (T_X11_back (some i2) v1 M (v3, M4) hv3) (Nat.le_of_ble_eq_true rfl) (Nat.le_of_ble_eq_true rfl) rfl g_cok11 ki2 yc_X11_back ⟨m_1092, m_1093, m_1094, m_116, m_1095⟩ d_L_law_1071 rfl (st := []) rfl (Nat.le_of_ble_eq_true rfl) (by omega) (by omega) (st2 := [vi v3]) rfl ?_
  refine GW_aload_n (X := X_L_law) (pc := 1074) d_L_law_1074 rfl 2 rfl ?_
  refine GW_aload_n (X := X_L_law) (pc := 1075) d_L_law_1075 rfl 0 rfl ?_
  refine GW_iload_n (X := X_L_law) (pc := 1076) d_L_law_1076 rfl 3 rfl ?_
  refine GW_iconst (X := X_L_law) (pc := 1077) (v := 1) d_L_law_1077 (by decide) ?_
  refine GW_iadd (X := X_L_law) (pc := 1078) d_L_law_1078 ?_
  replace h := g_bd h
  obtain ⟨v5, hv5, h⟩ := h
  refine GW_sald (X := X_L_law) (pc := 1079) d_L_law_1079 rfl hv5 ?_
  replace h := g_bd h
  obtain ⟨i6, hi6, h⟩ := h
  obtain ⟨rfl, ki6⟩ := g_gO hi6
  replace h := g_bd h
  obtain ⟨⟨v7, M8⟩, hv7, h⟩ := h
  dsimp only at h
  refine GW_callV (X := X_L_law) (pc := 1080) (bc0 := bcK + 0) (bs0 := bsK + 0) (r := some (vi v7)) (M2 := M8) (c0 := 12) (T_X12_back (some i6) v5 M4 (v7, M8) hv7) (Nat.le_of_ble_eq_true rfl) (Nat.le_of_ble_eq_true rfl) rfl g_cok12 ki6 yc_X12_back ⟨m_1691, m_1692, m_1693, m_127, m_1694⟩ d_L_law_1080 rfl (st := [vi v3]) rfl (Nat.le_of_ble_eq_true rfl) (by omega) (by omega) (st2 := [vi v7, vi v3]) rfl ?_
  refine GW_icmp_eq (X := X_L_law) (pc := 1083) 1088 d_L_law_1083 (by decide) (fun c => ?_) (fun c => ?_)
  · replace h := g_ip c h
    exact T_L_law_b1088 bcK bsK k18 r hk18 (some i2) (some i6) l3 M8 h
  · replace h := g_ie c h
    refine GW_iconst (X := X_L_law) (pc := 1086) (v := 0) d_L_law_1086 (by decide) ?_
    replace h := Option.some.inj h
    subst h
    exact GW_ret (X := X_L_law) (pc := 1087) d_L_law_1087 rfl g_rok0
def F_L_law_b18 (k18 : Option Nat → Option Nat → Int32 → gM → Option (Int32 × gM)) (l1 : Option Nat) (l2 : Option Nat) (l3 : Int32) (M : gM) : Option (Int32 × gM) :=
  (xN M (some 0)).bind fun v1 => if (v1 - (6 : Int32)) < l3 then (some ((1 : Int32), M)) else ((xI M (some 0) l3).bind fun v2 => if (v2 &&& (31 : Int32)) = (0 : Int32) then (F_L_law_b176 k18 l1 l2 l3 M) else if (v2 &&& (31 : Int32)) = (1 : Int32) then (F_L_law_b239 k18 l1 l2 l3 M) else if (v2 &&& (31 : Int32)) = (2 : Int32) then (F_L_law_b262 k18 l1 l2 l3 M) else if (v2 &&& (31 : Int32)) = (3 : Int32) then (F_L_law_b275 k18 l1 l2 l3 M) else if (v2 &&& (31 : Int32)) = (4 : Int32) then (F_L_law_b288 k18 l1 l2 l3 M) else if (v2 &&& (31 : Int32)) = (5 : Int32) then (F_L_law_b311 k18 l1 l2 l3 M) else if (v2 &&& (31 : Int32)) = (6 : Int32) then (F_L_law_b344 k18 l1 l2 l3 M) else if (v2 &&& (31 : Int32)) = (7 : Int32) then (F_L_law_b377 k18 l1 l2 l3 M) else if (v2 &&& (31 : Int32)) = (8 : Int32) then (F_L_law_b420 k18 l1 l2 l3 M) else if (v2 &&& (31 : Int32)) = (9 : Int32) then (F_L_law_b433 k18 l1 l2 l3 M) else if (v2 &&& (31 : Int32)) = (10 : Int32) then (F_L_law_b502 k18 l1 l2 l3 M) else if (v2 &&& (31 : Int32)) = (11 : Int32) then (F_L_law_b535 k18 l1 l2 l3 M) else if (v2 &&& (31 : Int32)) = (12 : Int32) then (F_L_law_b568 k18 l1 l2 l3 M) else if (v2 &&& (31 : Int32)) = (13 : Int32) then (F_L_law_b591 k18 l1 l2 l3 M) else if (v2 &&& (31 : Int32)) = (14 : Int32) then (F_L_law_b604 k18 l1 l2 l3 M) else if (v2 &&& (31 : Int32)) = (15 : Int32) then (F_L_law_b637 k18 l1 l2 l3 M) else if (v2 &&& (31 : Int32)) = (16 : Int32) then (F_L_law_b660 k18 l1 l2 l3 M) else if (v2 &&& (31 : Int32)) = (17 : Int32) then (F_L_law_b683 k18 l1 l2 l3 M) else if (v2 &&& (31 : Int32)) = (18 : Int32) then (F_L_law_b696 k18 l1 l2 l3 M) else if (v2 &&& (31 : Int32)) = (19 : Int32) then (F_L_law_b719 k18 l1 l2 l3 M) else if (v2 &&& (31 : Int32)) = (20 : Int32) then (F_L_law_b742 k18 l1 l2 l3 M) else if (v2 &&& (31 : Int32)) = (21 : Int32) then (F_L_law_b765 k18 l1 l2 l3 M) else if (v2 &&& (31 : Int32)) = (22 : Int32) then (F_L_law_b798 k18 l1 l2 l3 M) else if (v2 &&& (31 : Int32)) = (23 : Int32) then (F_L_law_b831 k18 l1 l2 l3 M) else if (v2 &&& (31 : Int32)) = (24 : Int32) then (F_L_law_b854 k18 l1 l2 l3 M) else if (v2 &&& (31 : Int32)) = (25 : Int32) then (F_L_law_b887 k18 l1 l2 l3 M) else if (v2 &&& (31 : Int32)) = (26 : Int32) then (F_L_law_b930 k18 l1 l2 l3 M) else if (v2 &&& (31 : Int32)) = (27 : Int32) then (F_L_law_b953 k18 l1 l2 l3 M) else if (v2 &&& (31 : Int32)) = (28 : Int32) then (F_L_law_b976 k18 l1 l2 l3 M) else if (v2 &&& (31 : Int32)) = (29 : Int32) then (F_L_law_b1019 k18 l1 l2 l3 M) else if (v2 &&& (31 : Int32)) = (30 : Int32) then (F_L_law_b1042 k18 l1 l2 l3 M) else if (v2 &&& (31 : Int32)) = (31 : Int32) then (F_L_law_b1065 k18 l1 l2 l3 M) else (F_L_law_b1088 k18 l1 l2 l3 M))
set_option maxHeartbeats 4000000 in
theorem T_L_law_b18 (bcK bsK : Nat) (k18 : Option Nat → Option Nat → Int32 → gM → Option (Int32 × gM)) (r : (Int32 × gM)) (hk18 : ∀ (l1 : Option Nat) (l2 : Option Nat) (l3 : Int32) (M : gM), k18 l1 l2 l3 M = some r → GW 67 bcK bsK X_L_law 18 [(0, vr (some 0)), (1, vr l1), (2, vr l2), (3, vi l3)] [] M (some (vi r.1), r.2)) (l1 : Option Nat) (l2 : Option Nat) (l3 : Int32) (M : gM) (h : F_L_law_b18 k18 l1 l2 l3 M = some r) : GW 67 (bcK + 6) (bsK + 802) X_L_law 18 [(0, vr (some 0)), (1, vr l1), (2, vr l2), (3, vi l3)] [] M (some (vi r.1), r.2) := by
  delta F_L_law_b18 at h
  refine GW_iload_n (X := X_L_law) (pc := 18) d_L_law_18 rfl 3 rfl ?_
  refine GW_aload_n (X := X_L_law) (pc := 19) d_L_law_19 rfl 0 rfl ?_
  replace h := g_bd h
  obtain ⟨v1, hv1, h⟩ := h
  refine GW_slen (X := X_L_law) (pc := 20) d_L_law_20 rfl hv1 ?_
  refine GW_bipush (X := X_L_law) (pc := 21) (v := 6) d_L_law_21 (by decide) ?_
  refine GW_isub (X := X_L_law) (pc := 23) d_L_law_23 ?_
  refine GW_icmp_gt (X := X_L_law) (pc := 24) 1094 d_L_law_24 (by decide) (fun c => ?_) (fun c => ?_)
  · replace h := g_ip c h
    refine GW_iconst (X := X_L_law) (pc := 1094) (v := 1) d_L_law_1094 (by decide) ?_
    replace h := Option.some.inj h
    subst h
    exact GW_ret (X := X_L_law) (pc := 1095) d_L_law_1095 rfl g_rok1
  · replace h := g_ie c h
    refine GW_aload_n (X := X_L_law) (pc := 27) d_L_law_27 rfl 0 rfl ?_
    refine GW_iload_n (X := X_L_law) (pc := 28) d_L_law_28 rfl 3 rfl ?_
    replace h := g_bd h
    obtain ⟨v2, hv2, h⟩ := h
    refine GW_sald (X := X_L_law) (pc := 29) d_L_law_29 rfl hv2 ?_
    refine GW_bipush (X := X_L_law) (pc := 30) (v := 31) d_L_law_30 (by decide) ?_
    refine GW_iand (X := X_L_law) (pc := 32) d_L_law_32 ?_
    by_cases c0 : (v2 &&& (31 : Int32)) = (0 : Int32)
    · replace h := g_ip c0 h
      refine GW_tableIn (X := X_L_law) (pc := 33) 176 d_L_law_33 (by rw [c0]; decide) (by rw [c0]; decide) (off := 143) (by rw [c0]; rfl) (by decide) ?_
      refine GW_widen (Nat.le_refl _) (bc' := (bcK + 0)) (bs' := (bsK + 0)) (by omega) (by omega) ?_
      exact T_L_law_b176 bcK bsK k18 r hk18 l1 l2 l3 M h
    · replace h := g_ie c0 h
      by_cases c1 : (v2 &&& (31 : Int32)) = (1 : Int32)
      · replace h := g_ip c1 h
        refine GW_tableIn (X := X_L_law) (pc := 33) 239 d_L_law_33 (by rw [c1]; decide) (by rw [c1]; decide) (off := 206) (by rw [c1]; rfl) (by decide) ?_
        refine GW_widen (Nat.le_refl _) (bc' := (bcK + 0)) (bs' := (bsK + 0)) (by omega) (by omega) ?_
        exact T_L_law_b239 bcK bsK k18 r hk18 l1 l2 l3 M h
      · replace h := g_ie c1 h
        by_cases c2 : (v2 &&& (31 : Int32)) = (2 : Int32)
        · replace h := g_ip c2 h
          refine GW_tableIn (X := X_L_law) (pc := 33) 262 d_L_law_33 (by rw [c2]; decide) (by rw [c2]; decide) (off := 229) (by rw [c2]; rfl) (by decide) ?_
          refine GW_widen (Nat.le_refl _) (bc' := (bcK + 6)) (bs' := (bsK + 46)) (by omega) (by omega) ?_
          exact T_L_law_b262 bcK bsK k18 r hk18 l1 l2 l3 M h
        · replace h := g_ie c2 h
          by_cases c3 : (v2 &&& (31 : Int32)) = (3 : Int32)
          · replace h := g_ip c3 h
            refine GW_tableIn (X := X_L_law) (pc := 33) 275 d_L_law_33 (by rw [c3]; decide) (by rw [c3]; decide) (off := 242) (by rw [c3]; rfl) (by decide) ?_
            refine GW_widen (Nat.le_refl _) (bc' := (bcK + 3)) (bs' := (bsK + 802)) (by omega) (by omega) ?_
            exact T_L_law_b275 bcK bsK k18 r hk18 l1 l2 l3 M h
          · replace h := g_ie c3 h
            by_cases c4 : (v2 &&& (31 : Int32)) = (4 : Int32)
            · replace h := g_ip c4 h
              refine GW_tableIn (X := X_L_law) (pc := 33) 288 d_L_law_33 (by rw [c4]; decide) (by rw [c4]; decide) (off := 255) (by rw [c4]; rfl) (by decide) ?_
              refine GW_widen (Nat.le_refl _) (bc' := (bcK + 0)) (bs' := (bsK + 0)) (by omega) (by omega) ?_
              exact T_L_law_b288 bcK bsK k18 r hk18 l1 l2 l3 M h
            · replace h := g_ie c4 h
              by_cases c5 : (v2 &&& (31 : Int32)) = (5 : Int32)
              · replace h := g_ip c5 h
                refine GW_tableIn (X := X_L_law) (pc := 33) 311 d_L_law_33 (by rw [c5]; decide) (by rw [c5]; decide) (off := 278) (by rw [c5]; rfl) (by decide) ?_
                refine GW_widen (Nat.le_refl _) (bc' := (bcK + 0)) (bs' := (bsK + 0)) (by omega) (by omega) ?_
                exact T_L_law_b311 bcK bsK k18 r hk18 l1 l2 l3 M h
              · replace h := g_ie c5 h
                by_cases c6 : (v2 &&& (31 : Int32)) = (6 : Int32)
                · replace h := g_ip c6 h
                  refine GW_tableIn (X := X_L_law) (pc := 33) 344 d_L_law_33 (by rw [c6]; decide) (by rw [c6]; decide) (off := 311) (by rw [c6]; rfl) (by decide) ?_
                  refine GW_widen (Nat.le_refl _) (bc' := (bcK + 0)) (bs' := (bsK + 0)) (by omega) (by omega) ?_
                  exact T_L_law_b344 bcK bsK k18 r hk18 l1 l2 l3 M h
                · replace h := g_ie c6 h
                  by_cases c7 : (v2 &&& (31 : Int32)) = (7 : Int32)
                  · replace h := g_ip c7 h
                    refine GW_tableIn (X := X_L_law) (pc := 33) 377 d_L_law_33 (by rw [c7]; decide) (by rw [c7]; decide) (off := 344) (by rw [c7]; rfl) (by decide) ?_
                    refine GW_widen (Nat.le_refl _) (bc' := (bcK + 0)) (bs' := (bsK + 0)) (by omega) (by omega) ?_
                    exact T_L_law_b377 bcK bsK k18 r hk18 l1 l2 l3 M h
                  · replace h := g_ie c7 h
                    by_cases c8 : (v2 &&& (31 : Int32)) = (8 : Int32)
                    · replace h := g_ip c8 h
                      refine GW_tableIn (X := X_L_law) (pc := 33) 420 d_L_law_33 (by rw [c8]; decide) (by rw [c8]; decide) (off := 387) (by rw [c8]; rfl) (by decide) ?_
                      refine GW_widen (Nat.le_refl _) (bc' := (bcK + 0)) (bs' := (bsK + 0)) (by omega) (by omega) ?_
                      exact T_L_law_b420 bcK bsK k18 r hk18 l1 l2 l3 M h
                    · replace h := g_ie c8 h
                      by_cases c9 : (v2 &&& (31 : Int32)) = (9 : Int32)
                      · replace h := g_ip c9 h
                        refine GW_tableIn (X := X_L_law) (pc := 33) 433 d_L_law_33 (by rw [c9]; decide) (by rw [c9]; decide) (off := 400) (by rw [c9]; rfl) (by decide) ?_
                        refine GW_widen (Nat.le_refl _) (bc' := (bcK + 0)) (bs' := (bsK + 0)) (by omega) (by omega) ?_
                        exact T_L_law_b433 bcK bsK k18 r hk18 l1 l2 l3 M h
                      · replace h := g_ie c9 h
                        by_cases c10 : (v2 &&& (31 : Int32)) = (10 : Int32)
                        · replace h := g_ip c10 h
                          refine GW_tableIn (X := X_L_law) (pc := 33) 502 d_L_law_33 (by rw [c10]; decide) (by rw [c10]; decide) (off := 469) (by rw [c10]; rfl) (by decide) ?_
                          refine GW_widen (Nat.le_refl _) (bc' := (bcK + 0)) (bs' := (bsK + 0)) (by omega) (by omega) ?_
                          exact T_L_law_b502 bcK bsK k18 r hk18 l1 l2 l3 M h
                        · replace h := g_ie c10 h
                          by_cases c11 : (v2 &&& (31 : Int32)) = (11 : Int32)
                          · replace h := g_ip c11 h
                            refine GW_tableIn (X := X_L_law) (pc := 33) 535 d_L_law_33 (by rw [c11]; decide) (by rw [c11]; decide) (off := 502) (by rw [c11]; rfl) (by decide) ?_
                            refine GW_widen (Nat.le_refl _) (bc' := (bcK + 0)) (bs' := (bsK + 0)) (by omega) (by omega) ?_
                            exact T_L_law_b535 bcK bsK k18 r hk18 l1 l2 l3 M h
                          · replace h := g_ie c11 h
                            by_cases c12 : (v2 &&& (31 : Int32)) = (12 : Int32)
                            · replace h := g_ip c12 h
                              refine GW_tableIn (X := X_L_law) (pc := 33) 568 d_L_law_33 (by rw [c12]; decide) (by rw [c12]; decide) (off := 535) (by rw [c12]; rfl) (by decide) ?_
                              refine GW_widen (Nat.le_refl _) (bc' := (bcK + 0)) (bs' := (bsK + 0)) (by omega) (by omega) ?_
                              exact T_L_law_b568 bcK bsK k18 r hk18 l1 l2 l3 M h
                            · replace h := g_ie c12 h
                              by_cases c13 : (v2 &&& (31 : Int32)) = (13 : Int32)
                              · replace h := g_ip c13 h
                                refine GW_tableIn (X := X_L_law) (pc := 33) 591 d_L_law_33 (by rw [c13]; decide) (by rw [c13]; decide) (off := 558) (by rw [c13]; rfl) (by decide) ?_
                                refine GW_widen (Nat.le_refl _) (bc' := (bcK + 0)) (bs' := (bsK + 0)) (by omega) (by omega) ?_
                                exact T_L_law_b591 bcK bsK k18 r hk18 l1 l2 l3 M h
                              · replace h := g_ie c13 h
                                by_cases c14 : (v2 &&& (31 : Int32)) = (14 : Int32)
                                · replace h := g_ip c14 h
                                  refine GW_tableIn (X := X_L_law) (pc := 33) 604 d_L_law_33 (by rw [c14]; decide) (by rw [c14]; decide) (off := 571) (by rw [c14]; rfl) (by decide) ?_
                                  refine GW_widen (Nat.le_refl _) (bc' := (bcK + 0)) (bs' := (bsK + 0)) (by omega) (by omega) ?_
                                  exact T_L_law_b604 bcK bsK k18 r hk18 l1 l2 l3 M h
                                · replace h := g_ie c14 h
                                  by_cases c15 : (v2 &&& (31 : Int32)) = (15 : Int32)
                                  · replace h := g_ip c15 h
                                    refine GW_tableIn (X := X_L_law) (pc := 33) 637 d_L_law_33 (by rw [c15]; decide) (by rw [c15]; decide) (off := 604) (by rw [c15]; rfl) (by decide) ?_
                                    refine GW_widen (Nat.le_refl _) (bc' := (bcK + 0)) (bs' := (bsK + 0)) (by omega) (by omega) ?_
                                    exact T_L_law_b637 bcK bsK k18 r hk18 l1 l2 l3 M h
                                  · replace h := g_ie c15 h
                                    by_cases c16 : (v2 &&& (31 : Int32)) = (16 : Int32)
                                    · replace h := g_ip c16 h
                                      refine GW_tableIn (X := X_L_law) (pc := 33) 660 d_L_law_33 (by rw [c16]; decide) (by rw [c16]; decide) (off := 627) (by rw [c16]; rfl) (by decide) ?_
                                      refine GW_widen (Nat.le_refl _) (bc' := (bcK + 0)) (bs' := (bsK + 0)) (by omega) (by omega) ?_
                                      exact T_L_law_b660 bcK bsK k18 r hk18 l1 l2 l3 M h
                                    · replace h := g_ie c16 h
                                      by_cases c17 : (v2 &&& (31 : Int32)) = (17 : Int32)
                                      · replace h := g_ip c17 h
                                        refine GW_tableIn (X := X_L_law) (pc := 33) 683 d_L_law_33 (by rw [c17]; decide) (by rw [c17]; decide) (off := 650) (by rw [c17]; rfl) (by decide) ?_
                                        refine GW_widen (Nat.le_refl _) (bc' := (bcK + 0)) (bs' := (bsK + 0)) (by omega) (by omega) ?_
                                        exact T_L_law_b683 bcK bsK k18 r hk18 l1 l2 l3 M h
                                      · replace h := g_ie c17 h
                                        by_cases c18 : (v2 &&& (31 : Int32)) = (18 : Int32)
                                        · replace h := g_ip c18 h
                                          refine GW_tableIn (X := X_L_law) (pc := 33) 696 d_L_law_33 (by rw [c18]; decide) (by rw [c18]; decide) (off := 663) (by rw [c18]; rfl) (by decide) ?_
                                          refine GW_widen (Nat.le_refl _) (bc' := (bcK + 0)) (bs' := (bsK + 0)) (by omega) (by omega) ?_
                                          exact T_L_law_b696 bcK bsK k18 r hk18 l1 l2 l3 M h
                                        · replace h := g_ie c18 h
                                          by_cases c19 : (v2 &&& (31 : Int32)) = (19 : Int32)
                                          · replace h := g_ip c19 h
                                            refine GW_tableIn (X := X_L_law) (pc := 33) 719 d_L_law_33 (by rw [c19]; decide) (by rw [c19]; decide) (off := 686) (by rw [c19]; rfl) (by decide) ?_
                                            refine GW_widen (Nat.le_refl _) (bc' := (bcK + 0)) (bs' := (bsK + 0)) (by omega) (by omega) ?_
                                            exact T_L_law_b719 bcK bsK k18 r hk18 l1 l2 l3 M h
                                          · replace h := g_ie c19 h
                                            by_cases c20 : (v2 &&& (31 : Int32)) = (20 : Int32)
                                            · replace h := g_ip c20 h
                                              refine GW_tableIn (X := X_L_law) (pc := 33) 742 d_L_law_33 (by rw [c20]; decide) (by rw [c20]; decide) (off := 709) (by rw [c20]; rfl) (by decide) ?_
                                              refine GW_widen (Nat.le_refl _) (bc' := (bcK + 0)) (bs' := (bsK + 0)) (by omega) (by omega) ?_
                                              exact T_L_law_b742 bcK bsK k18 r hk18 l1 l2 l3 M h
                                            · replace h := g_ie c20 h
                                              by_cases c21 : (v2 &&& (31 : Int32)) = (21 : Int32)
                                              · replace h := g_ip c21 h
                                                refine GW_tableIn (X := X_L_law) (pc := 33) 765 d_L_law_33 (by rw [c21]; decide) (by rw [c21]; decide) (off := 732) (by rw [c21]; rfl) (by decide) ?_
                                                refine GW_widen (Nat.le_refl _) (bc' := (bcK + 0)) (bs' := (bsK + 0)) (by omega) (by omega) ?_
                                                exact T_L_law_b765 bcK bsK k18 r hk18 l1 l2 l3 M h
                                              · replace h := g_ie c21 h
                                                by_cases c22 : (v2 &&& (31 : Int32)) = (22 : Int32)
                                                · replace h := g_ip c22 h
                                                  refine GW_tableIn (X := X_L_law) (pc := 33) 798 d_L_law_33 (by rw [c22]; decide) (by rw [c22]; decide) (off := 765) (by rw [c22]; rfl) (by decide) ?_
                                                  refine GW_widen (Nat.le_refl _) (bc' := (bcK + 0)) (bs' := (bsK + 0)) (by omega) (by omega) ?_
                                                  exact T_L_law_b798 bcK bsK k18 r hk18 l1 l2 l3 M h
                                                · replace h := g_ie c22 h
                                                  by_cases c23 : (v2 &&& (31 : Int32)) = (23 : Int32)
                                                  · replace h := g_ip c23 h
                                                    refine GW_tableIn (X := X_L_law) (pc := 33) 831 d_L_law_33 (by rw [c23]; decide) (by rw [c23]; decide) (off := 798) (by rw [c23]; rfl) (by decide) ?_
                                                    refine GW_widen (Nat.le_refl _) (bc' := (bcK + 0)) (bs' := (bsK + 0)) (by omega) (by omega) ?_
                                                    exact T_L_law_b831 bcK bsK k18 r hk18 l1 l2 l3 M h
                                                  · replace h := g_ie c23 h
                                                    by_cases c24 : (v2 &&& (31 : Int32)) = (24 : Int32)
                                                    · replace h := g_ip c24 h
                                                      refine GW_tableIn (X := X_L_law) (pc := 33) 854 d_L_law_33 (by rw [c24]; decide) (by rw [c24]; decide) (off := 821) (by rw [c24]; rfl) (by decide) ?_
                                                      refine GW_widen (Nat.le_refl _) (bc' := (bcK + 0)) (bs' := (bsK + 0)) (by omega) (by omega) ?_
                                                      exact T_L_law_b854 bcK bsK k18 r hk18 l1 l2 l3 M h
                                                    · replace h := g_ie c24 h
                                                      by_cases c25 : (v2 &&& (31 : Int32)) = (25 : Int32)
                                                      · replace h := g_ip c25 h
                                                        refine GW_tableIn (X := X_L_law) (pc := 33) 887 d_L_law_33 (by rw [c25]; decide) (by rw [c25]; decide) (off := 854) (by rw [c25]; rfl) (by decide) ?_
                                                        refine GW_widen (Nat.le_refl _) (bc' := (bcK + 0)) (bs' := (bsK + 0)) (by omega) (by omega) ?_
                                                        exact T_L_law_b887 bcK bsK k18 r hk18 l1 l2 l3 M h
                                                      · replace h := g_ie c25 h
                                                        by_cases c26 : (v2 &&& (31 : Int32)) = (26 : Int32)
                                                        · replace h := g_ip c26 h
                                                          refine GW_tableIn (X := X_L_law) (pc := 33) 930 d_L_law_33 (by rw [c26]; decide) (by rw [c26]; decide) (off := 897) (by rw [c26]; rfl) (by decide) ?_
                                                          refine GW_widen (Nat.le_refl _) (bc' := (bcK + 0)) (bs' := (bsK + 0)) (by omega) (by omega) ?_
                                                          exact T_L_law_b930 bcK bsK k18 r hk18 l1 l2 l3 M h
                                                        · replace h := g_ie c26 h
                                                          by_cases c27 : (v2 &&& (31 : Int32)) = (27 : Int32)
                                                          · replace h := g_ip c27 h
                                                            refine GW_tableIn (X := X_L_law) (pc := 33) 953 d_L_law_33 (by rw [c27]; decide) (by rw [c27]; decide) (off := 920) (by rw [c27]; rfl) (by decide) ?_
                                                            refine GW_widen (Nat.le_refl _) (bc' := (bcK + 0)) (bs' := (bsK + 0)) (by omega) (by omega) ?_
                                                            exact T_L_law_b953 bcK bsK k18 r hk18 l1 l2 l3 M h
                                                          · replace h := g_ie c27 h
                                                            by_cases c28 : (v2 &&& (31 : Int32)) = (28 : Int32)
                                                            · replace h := g_ip c28 h
                                                              refine GW_tableIn (X := X_L_law) (pc := 33) 976 d_L_law_33 (by rw [c28]; decide) (by rw [c28]; decide) (off := 943) (by rw [c28]; rfl) (by decide) ?_
                                                              refine GW_widen (Nat.le_refl _) (bc' := (bcK + 0)) (bs' := (bsK + 0)) (by omega) (by omega) ?_
                                                              exact T_L_law_b976 bcK bsK k18 r hk18 l1 l2 l3 M h
                                                            · replace h := g_ie c28 h
                                                              by_cases c29 : (v2 &&& (31 : Int32)) = (29 : Int32)
                                                              · replace h := g_ip c29 h
                                                                refine GW_tableIn (X := X_L_law) (pc := 33) 1019 d_L_law_33 (by rw [c29]; decide) (by rw [c29]; decide) (off := 986) (by rw [c29]; rfl) (by decide) ?_
                                                                refine GW_widen (Nat.le_refl _) (bc' := (bcK + 0)) (bs' := (bsK + 0)) (by omega) (by omega) ?_
                                                                exact T_L_law_b1019 bcK bsK k18 r hk18 l1 l2 l3 M h
                                                              · replace h := g_ie c29 h
                                                                by_cases c30 : (v2 &&& (31 : Int32)) = (30 : Int32)
                                                                · replace h := g_ip c30 h
                                                                  refine GW_tableIn (X := X_L_law) (pc := 33) 1042 d_L_law_33 (by rw [c30]; decide) (by rw [c30]; decide) (off := 1009) (by rw [c30]; rfl) (by decide) ?_
                                                                  refine GW_widen (Nat.le_refl _) (bc' := (bcK + 0)) (bs' := (bsK + 0)) (by omega) (by omega) ?_
                                                                  exact T_L_law_b1042 bcK bsK k18 r hk18 l1 l2 l3 M h
                                                                · replace h := g_ie c30 h
                                                                  by_cases c31 : (v2 &&& (31 : Int32)) = (31 : Int32)
                                                                  · replace h := g_ip c31 h
                                                                    refine GW_tableIn (X := X_L_law) (pc := 33) 1065 d_L_law_33 (by rw [c31]; decide) (by rw [c31]; decide) (off := 1032) (by rw [c31]; rfl) (by decide) ?_
                                                                    refine GW_widen (Nat.le_refl _) (bc' := (bcK + 0)) (bs' := (bsK + 0)) (by omega) (by omega) ?_
                                                                    exact T_L_law_b1065 bcK bsK k18 r hk18 l1 l2 l3 M h
                                                                  · replace h := g_ie c31 h
                                                                    have n0 := g_nk (k := 0) c0 (by decide)
                                                                    have n1 := g_nk (k := 1) c1 (by decide)
                                                                    have n2 := g_nk (k := 2) c2 (by decide)
                                                                    have n3 := g_nk (k := 3) c3 (by decide)
                                                                    have n4 := g_nk (k := 4) c4 (by decide)
                                                                    have n5 := g_nk (k := 5) c5 (by decide)
                                                                    have n6 := g_nk (k := 6) c6 (by decide)
                                                                    have n7 := g_nk (k := 7) c7 (by decide)
                                                                    have n8 := g_nk (k := 8) c8 (by decide)
                                                                    have n9 := g_nk (k := 9) c9 (by decide)
                                                                    have n10 := g_nk (k := 10) c10 (by decide)
                                                                    have n11 := g_nk (k := 11) c11 (by decide)
                                                                    have n12 := g_nk (k := 12) c12 (by decide)
                                                                    have n13 := g_nk (k := 13) c13 (by decide)
                                                                    have n14 := g_nk (k := 14) c14 (by decide)
                                                                    have n15 := g_nk (k := 15) c15 (by decide)
                                                                    have n16 := g_nk (k := 16) c16 (by decide)
                                                                    have n17 := g_nk (k := 17) c17 (by decide)
                                                                    have n18 := g_nk (k := 18) c18 (by decide)
                                                                    have n19 := g_nk (k := 19) c19 (by decide)
                                                                    have n20 := g_nk (k := 20) c20 (by decide)
                                                                    have n21 := g_nk (k := 21) c21 (by decide)
                                                                    have n22 := g_nk (k := 22) c22 (by decide)
                                                                    have n23 := g_nk (k := 23) c23 (by decide)
                                                                    have n24 := g_nk (k := 24) c24 (by decide)
                                                                    have n25 := g_nk (k := 25) c25 (by decide)
                                                                    have n26 := g_nk (k := 26) c26 (by decide)
                                                                    have n27 := g_nk (k := 27) c27 (by decide)
                                                                    have n28 := g_nk (k := 28) c28 (by decide)
                                                                    have n29 := g_nk (k := 29) c29 (by decide)
                                                                    have n30 := g_nk (k := 30) c30 (by decide)
                                                                    have n31 := g_nk (k := 31) c31 (by decide)
                                                                    refine GW_tableOut (X := X_L_law) (pc := 33) 1088 d_L_law_33 (by omega) (by decide) ?_
                                                                    refine GW_widen (Nat.le_refl _) (bc' := (bcK + 0)) (bs' := (bsK + 0)) (by omega) (by omega) ?_
                                                                    exact T_L_law_b1088 bcK bsK k18 r hk18 l1 l2 l3 M h
def F_L_law_L18 : Nat → Option Nat → Option Nat → Int32 → gM → Option (Int32 × gM)
  | 0 => fun _ _ _ _ => none
  | n + 1 => F_L_law_b18 (F_L_law_L18 n)
theorem T_L_law_L18 (r : (Int32 × gM)) : ∀ (n : Nat) (l1 : Option Nat) (l2 : Option Nat) (l3 : Int32) (M : gM), F_L_law_L18 n l1 l2 l3 M = some r → GW 67 (n * 6) (n * 802) X_L_law 18 [(0, vr (some 0)), (1, vr l1), (2, vr l2), (3, vi l3)] [] M (some (vi r.1), r.2) := by
  intro n
  induction n with
  | zero => intro l1 l2 l3 M h; exact g_no h
  | succ n ih => intro l1 l2 l3 M h; exact GW_widen (Nat.le_refl _) (by omega) (by omega) (T_L_law_b18 (n * 6) (n * 802) (F_L_law_L18 n) r ih l1 l2 l3 M h)
def F_L_law_b0 (M : gM) : Option (Int32 × gM) :=
  (F_X11_init M.1.length (nw (11, 0) M)).bind fun M1 => (F_X12_init M1.1.length (nw (12, 0) M1)).bind fun M2 => F_L_law_L18 600 (some M.1.length) (some M1.1.length) (0 : Int32) M2
theorem T_L_law_b0 (r : (Int32 × gM)) (M : gM) (h : F_L_law_b0 M = some r) : GW 67 3795 494976 X_L_law 0 [(0, vr (some 0))] [] M (some (vi r.1), r.2) := by
  delta F_L_law_b0 at h
  refine GW_new (X := X_L_law) (pc := 0) (c := 11) g_cok11 nf_11 ⟨m_137, m_138, m_116⟩ d_L_law_0 3794 494961 rfl rfl ?_
  refine GW_dup (X := X_L_law) (pc := 3) d_L_law_3 rfl ?_
  replace h := g_bd h
  obtain ⟨M1, hM1, h⟩ := h
  refine GW_callI (X := X_L_law) (pc := 4) (bc0 := 3622) (bs0 := 489379) (M2 := M1) (T_X11_init M.1.length (nw (11, 0) M) M1 hM1) (Nat.le_of_ble_eq_true rfl) (Nat.le_of_ble_eq_true rfl) rfl rfl yc_X11_init ⟨m_139, m_140, m_116, m_141⟩ d_L_law_4 rfl (st := [vr (some M.1.length)]) rfl (Nat.le_of_ble_eq_true rfl) (by omega) (by omega) ?_
  refine GW_astore_n (X := X_L_law) (pc := 7) d_L_law_7 rfl (Nat.le_of_ble_eq_true rfl) (lv2 := [(1, vr (some M.1.length)), (0, vr (some 0))]) rfl ?_
  refine GW_new (X := X_L_law) (pc := 8) (c := 12) g_cok12 nf_12 ⟨m_1096, m_1097, m_127⟩ d_L_law_8 3621 489342 rfl rfl ?_
  refine GW_dup (X := X_L_law) (pc := 11) d_L_law_11 rfl ?_
  replace h := g_bd h
  obtain ⟨M2, hM2, h⟩ := h
  refine GW_callI (X := X_L_law) (pc := 12) (bc0 := 3600) (bs0 := 481200) (M2 := M2) (T_X12_init M1.1.length (nw (12, 0) M1) M2 hM2) (Nat.le_of_ble_eq_true rfl) (Nat.le_of_ble_eq_true rfl) rfl rfl yc_X12_init ⟨m_1098, m_1099, m_127, m_1100⟩ d_L_law_12 rfl (st := [vr (some M1.1.length)]) rfl (Nat.le_of_ble_eq_true rfl) (by omega) (by omega) ?_
  refine GW_astore_n (X := X_L_law) (pc := 15) d_L_law_15 rfl (Nat.le_of_ble_eq_true rfl) (lv2 := [(2, vr (some M1.1.length)), (1, vr (some M.1.length)), (0, vr (some 0))]) rfl ?_
  refine GW_iconst (X := X_L_law) (pc := 16) (v := 0) d_L_law_16 (by decide) ?_
  refine GW_istore_n (X := X_L_law) (pc := 17) d_L_law_17 rfl (Nat.le_of_ble_eq_true rfl) (lv2 := [(3, vi (0 : Int32)), (2, vr (some M1.1.length)), (1, vr (some M.1.length)), (0, vr (some 0))]) rfl ?_
  refine GW_sub [3, 2, 1, 0] rfl ?_
  exact T_L_law_L18 r 600 (some M.1.length) (some M1.1.length) (0 : Int32) M2 h
def F_L_law (M : gM) : Option (Int32 × gM) := F_L_law_b0 M
