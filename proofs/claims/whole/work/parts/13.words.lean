/-! the words that the code's rows use -/
theorem mul_0 : ∀ x ∈ u_ws RX0 TX0 9, x ∈ mGW := List.forall_mem_cons.mpr ⟨mgw_1 116 rfl rfl, List.forall_mem_cons.mpr ⟨mgw_1 118 rfl rfl, List.forall_mem_cons.mpr ⟨mgw_1 120 rfl rfl, List.forall_mem_cons.mpr ⟨mgw_1 122 rfl rfl, List.forall_mem_cons.mpr ⟨mgw_1 124 rfl rfl, List.forall_mem_cons.mpr ⟨mgw_1 126 rfl rfl, List.forall_mem_cons.mpr ⟨mgw_1 128 rfl rfl, List.forall_mem_cons.mpr ⟨mgw_1 130 rfl rfl, List.forall_mem_cons.mpr ⟨mgw_1 132 rfl rfl, fun _ h => absurd h List.not_mem_nil⟩⟩⟩⟩⟩⟩⟩⟩⟩
theorem mcl_0 : mCl 0 RX0 TX0 9 tyX0 := ⟨rfl, mul_0, tyX0_ok, nmX0, rfl, by decide⟩
theorem mul_1 : ∀ x ∈ u_ws RX1 TX1 9, x ∈ mGW := List.forall_mem_cons.mpr ⟨mgw_1 78 rfl rfl, List.forall_mem_cons.mpr ⟨mgw_1 80 rfl rfl, List.forall_mem_cons.mpr ⟨mgw_1 82 rfl rfl, List.forall_mem_cons.mpr ⟨mgw_1 84 rfl rfl, List.forall_mem_cons.mpr ⟨mgw_1 86 rfl rfl, List.forall_mem_cons.mpr ⟨mgw_1 88 rfl rfl, List.forall_mem_cons.mpr ⟨mgw_1 90 rfl rfl, List.forall_mem_cons.mpr ⟨mgw_1 92 rfl rfl, List.forall_mem_cons.mpr ⟨mgw_1 94 rfl rfl, fun _ h => absurd h List.not_mem_nil⟩⟩⟩⟩⟩⟩⟩⟩⟩
theorem mcl_1 : mCl 1 RX1 TX1 9 tyX1 := ⟨rfl, mul_1, tyX1_ok, nmX1, rfl, by decide⟩
theorem mul_2 : ∀ x ∈ u_ws RX3 TX3 12, x ∈ mGW := List.forall_mem_cons.mpr ⟨mgw_1 166 rfl rfl, List.forall_mem_cons.mpr ⟨mgw_1 168 rfl rfl, List.forall_mem_cons.mpr ⟨mgw_1 170 rfl rfl, List.forall_mem_cons.mpr ⟨mgw_1 172 rfl rfl, List.forall_mem_cons.mpr ⟨mgw_1 174 rfl rfl, List.forall_mem_cons.mpr ⟨mgw_1 176 rfl rfl, List.forall_mem_cons.mpr ⟨mgw_1 178 rfl rfl, List.forall_mem_cons.mpr ⟨mgw_1 180 rfl rfl, List.forall_mem_cons.mpr ⟨mgw_1 182 rfl rfl, List.forall_mem_cons.mpr ⟨mgw_1 184 rfl rfl, List.forall_mem_cons.mpr ⟨mgw_1 186 rfl rfl, List.forall_mem_cons.mpr ⟨mgw_1 188 rfl rfl, fun _ h => absurd h List.not_mem_nil⟩⟩⟩⟩⟩⟩⟩⟩⟩⟩⟩⟩
theorem mcl_2 : mCl 2 RX3 TX3 12 tyX3 := ⟨rfl, mul_2, tyX3_ok, nmX3, rfl, by decide⟩
theorem mul_3 : ∀ x ∈ u_ws RX4 TX4 3, x ∈ mGW := List.forall_mem_cons.mpr ⟨mgw_1 202 rfl rfl, List.forall_mem_cons.mpr ⟨mgw_1 204 rfl rfl, List.forall_mem_cons.mpr ⟨mgw_1 206 rfl rfl, fun _ h => absurd h List.not_mem_nil⟩⟩⟩
theorem mcl_3 : mCl 3 RX4 TX4 3 tyX4 := ⟨rfl, mul_3, tyX4_ok, nmX4, rfl, by decide⟩
theorem mul_4 : ∀ x ∈ u_ws RX5 TX5 7, x ∈ mGW := List.forall_mem_cons.mpr ⟨mgw_1 43 rfl rfl, List.forall_mem_cons.mpr ⟨mgw_1 45 rfl rfl, List.forall_mem_cons.mpr ⟨mgw_1 47 rfl rfl, List.forall_mem_cons.mpr ⟨mgw_1 49 rfl rfl, List.forall_mem_cons.mpr ⟨mgw_1 51 rfl rfl, List.forall_mem_cons.mpr ⟨mgw_1 53 rfl rfl, List.forall_mem_cons.mpr ⟨mgw_1 55 rfl rfl, fun _ h => absurd h List.not_mem_nil⟩⟩⟩⟩⟩⟩⟩
theorem mcl_4 : mCl 4 RX5 TX5 7 tyX5 := ⟨rfl, mul_4, tyX5_ok, nmX5, rfl, by decide⟩
theorem mul_5 : ∀ x ∈ u_ws RX6 TX6 2, x ∈ mGW := List.forall_mem_cons.mpr ⟨mgw_2 122 rfl rfl, List.forall_mem_cons.mpr ⟨mgw_2 124 rfl rfl, fun _ h => absurd h List.not_mem_nil⟩⟩
theorem mcl_5 : mCl 5 RX6 TX6 2 tyX6 := ⟨rfl, mul_5, tyX6_ok, nmX6, rfl, by decide⟩
theorem mul_6 : ∀ x ∈ u_ws RX7 TX7 2, x ∈ mGW := List.forall_mem_cons.mpr ⟨mgw_1 149 rfl rfl, List.forall_mem_cons.mpr ⟨mgw_1 151 rfl rfl, fun _ h => absurd h List.not_mem_nil⟩⟩
theorem mcl_6 : mCl 6 RX7 TX7 2 tyX7 := ⟨rfl, mul_6, tyX7_ok, nmX7, rfl, by decide⟩
theorem mul_7 : ∀ x ∈ u_ws RX8 TX8 13, x ∈ mGW := List.forall_mem_cons.mpr ⟨mgw_2 141 rfl rfl, List.forall_mem_cons.mpr ⟨mgw_2 143 rfl rfl, List.forall_mem_cons.mpr ⟨mgw_2 145 rfl rfl, List.forall_mem_cons.mpr ⟨mgw_2 147 rfl rfl, List.forall_mem_cons.mpr ⟨mgw_2 149 rfl rfl, List.forall_mem_cons.mpr ⟨mgw_2 151 rfl rfl, List.forall_mem_cons.mpr ⟨mgw_2 153 rfl rfl, List.forall_mem_cons.mpr ⟨mgw_2 155 rfl rfl, List.forall_mem_cons.mpr ⟨mgw_2 157 rfl rfl, List.forall_mem_cons.mpr ⟨mgw_2 159 rfl rfl, List.forall_mem_cons.mpr ⟨mgw_2 161 rfl rfl, List.forall_mem_cons.mpr ⟨mgw_2 163 rfl rfl, List.forall_mem_cons.mpr ⟨mgw_2 165 rfl rfl, fun _ h => absurd h List.not_mem_nil⟩⟩⟩⟩⟩⟩⟩⟩⟩⟩⟩⟩⟩
theorem mcl_7 : mCl 7 RX8 TX8 13 tyX8 := ⟨rfl, mul_7, tyX8_ok, nmX8, rfl, by decide⟩
theorem mul_8 : ∀ x ∈ u_ws RX9 TX9 54, x ∈ mGW := List.forall_mem_cons.mpr ⟨mgw_4 176 rfl rfl, List.forall_mem_cons.mpr ⟨mgw_4 178 rfl rfl, List.forall_mem_cons.mpr ⟨mgw_4 180 rfl rfl, List.forall_mem_cons.mpr ⟨mgw_4 182 rfl rfl, List.forall_mem_cons.mpr ⟨mgw_4 184 rfl rfl, List.forall_mem_cons.mpr ⟨mgw_4 186 rfl rfl, List.forall_mem_cons.mpr ⟨mgw_4 188 rfl rfl, List.forall_mem_cons.mpr ⟨mgw_4 190 rfl rfl, List.forall_mem_cons.mpr ⟨mgw_4 192 rfl rfl, List.forall_mem_cons.mpr ⟨mgw_4 194 rfl rfl, List.forall_mem_cons.mpr ⟨mgw_4 196 rfl rfl, List.forall_mem_cons.mpr ⟨mgw_4 198 rfl rfl, List.forall_mem_cons.mpr ⟨mgw_4 200 rfl rfl, List.forall_mem_cons.mpr ⟨mgw_4 202 rfl rfl, List.forall_mem_cons.mpr ⟨mgw_4 204 rfl rfl, List.forall_mem_cons.mpr ⟨mgw_4 206 rfl rfl, List.forall_mem_cons.mpr ⟨mgw_4 208 rfl rfl, List.forall_mem_cons.mpr ⟨mgw_4 210 rfl rfl, List.forall_mem_cons.mpr ⟨mgw_4 212 rfl rfl, List.forall_mem_cons.mpr ⟨mgw_4 214 rfl rfl, List.forall_mem_cons.mpr ⟨mgw_4 216 rfl rfl, List.forall_mem_cons.mpr ⟨mgw_4 218 rfl rfl, List.forall_mem_cons.mpr ⟨mgw_4 220 rfl rfl, List.forall_mem_cons.mpr ⟨mgw_4 222 rfl rfl, List.forall_mem_cons.mpr ⟨mgw_4 224 rfl rfl, List.forall_mem_cons.mpr ⟨mgw_4 226 rfl rfl, List.forall_mem_cons.mpr ⟨mgw_4 228 rfl rfl, List.forall_mem_cons.mpr ⟨mgw_4 230 rfl rfl, List.forall_mem_cons.mpr ⟨mgw_4 232 rfl rfl, List.forall_mem_cons.mpr ⟨mgw_4 234 rfl rfl, List.forall_mem_cons.mpr ⟨mgw_4 236 rfl rfl, List.forall_mem_cons.mpr ⟨mgw_4 238 rfl rfl, List.forall_mem_cons.mpr ⟨mgw_5 0 rfl rfl, List.forall_mem_cons.mpr ⟨mgw_5 2 rfl rfl, List.forall_mem_cons.mpr ⟨mgw_5 4 rfl rfl, List.forall_mem_cons.mpr ⟨mgw_5 6 rfl rfl, List.forall_mem_cons.mpr ⟨mgw_5 8 rfl rfl, List.forall_mem_cons.mpr ⟨mgw_5 10 rfl rfl, List.forall_mem_cons.mpr ⟨mgw_5 12 rfl rfl, List.forall_mem_cons.mpr ⟨mgw_5 14 rfl rfl, List.forall_mem_cons.mpr ⟨mgw_5 16 rfl rfl, List.forall_mem_cons.mpr ⟨mgw_5 18 rfl rfl, List.forall_mem_cons.mpr ⟨mgw_5 20 rfl rfl, List.forall_mem_cons.mpr ⟨mgw_5 22 rfl rfl, List.forall_mem_cons.mpr ⟨mgw_5 24 rfl rfl, List.forall_mem_cons.mpr ⟨mgw_5 26 rfl rfl, List.forall_mem_cons.mpr ⟨mgw_5 28 rfl rfl, List.forall_mem_cons.mpr ⟨mgw_5 30 rfl rfl, List.forall_mem_cons.mpr ⟨mgw_5 32 rfl rfl, List.forall_mem_cons.mpr ⟨mgw_5 34 rfl rfl, List.forall_mem_cons.mpr ⟨mgw_5 36 rfl rfl, List.forall_mem_cons.mpr ⟨mgw_5 38 rfl rfl, List.forall_mem_cons.mpr ⟨mgw_5 40 rfl rfl, List.forall_mem_cons.mpr ⟨mgw_5 42 rfl rfl, fun _ h => absurd h List.not_mem_nil⟩⟩⟩⟩⟩⟩⟩⟩⟩⟩⟩⟩⟩⟩⟩⟩⟩⟩⟩⟩⟩⟩⟩⟩⟩⟩⟩⟩⟩⟩⟩⟩⟩⟩⟩⟩⟩⟩⟩⟩⟩⟩⟩⟩⟩⟩⟩⟩⟩⟩⟩⟩⟩⟩
theorem mcl_8 : mCl 8 RX9 TX9 54 tyX9 := ⟨rfl, mul_8, tyX9_ok, nmX9, rfl, by decide⟩
theorem gm_RX0_3 : Cond.methodLink RX0 3 objectInit ∈ mGW := mgw_1 102 rfl rfl
theorem g_objcode : Cond.code objectInit ⟨#[0xb1]⟩ 1 none ∈ mGW := mgw_1 25 rfl rfl
theorem g_instanceMethod_objectInit : Cond.instanceMethod objectInit ∈ mGW := mgw_1 24 rfl rfl
theorem ga_int : Cond.arrayClass .int ∈ mGW := mgw_1 58 rfl rfl
theorem gf_RX0_11 : Cond.fieldLink RX0 11 RX0 "named" "[I" ∈ mGW := mgw_1 103 rfl rfl
theorem gf_RX0_17 : Cond.fieldLink RX0 17 RX0 "stack" "[I" ∈ mGW := mgw_1 104 rfl rfl
theorem gf_RX0_20 : Cond.fieldLink RX0 20 RX0 "rule" "LRolledUp$Text;" ∈ mGW := mgw_1 105 rfl rfl
theorem gm_RX0_24 : Cond.methodLink RX0 24 yX5_trait ∈ mGW := mgw_2 232 rfl rfl
theorem g_instanceMethod_yX5_trait : Cond.instanceMethod yX5_trait ∈ mGW := mgw_2 217 rfl rfl
theorem gs_yX5_trait : Cond.selects RX5 yX5_trait yX5_trait ∈ mGW := mgw_2 218 rfl rfl
theorem gf_RX0_30 : Cond.fieldLink RX0 30 RX0 "kind" "I" ∈ mGW := mgw_1 106 rfl rfl
theorem gf_RX0_34 : Cond.fieldLink RX0 34 RX0 "number" "I" ∈ mGW := mgw_1 107 rfl rfl
theorem gf_RX0_37 : Cond.fieldLink RX0 37 RX0 "yards" "I" ∈ mGW := mgw_1 108 rfl rfl
theorem gf_RX0_40 : Cond.fieldLink RX0 40 RX0 "load" "I" ∈ mGW := mgw_1 109 rfl rfl
theorem gf_RX0_43 : Cond.fieldLink RX0 43 RX0 "wet" "I" ∈ mGW := mgw_1 110 rfl rfl
theorem gm_RX0_46 : Cond.methodLink RX0 46 yX5_rainNow ∈ mGW := mgw_2 233 rfl rfl
theorem g_instanceMethod_yX5_rainNow : Cond.instanceMethod yX5_rainNow ∈ mGW := mgw_2 234 rfl rfl
theorem gs_yX5_rainNow : Cond.selects RX5 yX5_rainNow yX5_rainNow ∈ mGW := mgw_2 235 rfl rfl
theorem gf_RX0_50 : Cond.fieldLink RX0 50 RX0 "rain" "I" ∈ mGW := mgw_1 114 rfl rfl
theorem gm_RX0_53 : Cond.methodLink RX0 53 yX2_reaches ∈ mGW := mgw_3 8 rfl rfl
theorem g_static_yX2_reaches : Cond.static yX2_reaches ∈ mGW := mgw_3 9 rfl rfl
theorem gm_RX0_59 : Cond.methodLink RX0 59 yX0_asked ∈ mGW := mgw_3 45 rfl rfl
theorem g_instanceMethod_yX0_asked : Cond.instanceMethod yX0_asked ∈ mGW := mgw_3 47 rfl rfl
theorem gs_yX0_asked : Cond.selects RX0 yX0_asked yX0_asked ∈ mGW := mgw_s (List.mem_of_getElem? (i := 14) rfl) rfl
theorem gm_RX0_62 : Cond.methodLink RX0 62 yX0_reaches ∈ mGW := mgw_3 44 rfl rfl
theorem g_instanceMethod_yX0_reaches : Cond.instanceMethod yX0_reaches ∈ mGW := mgw_3 5 rfl rfl
theorem gs_yX0_reaches : Cond.selects RX0 yX0_reaches yX0_reaches ∈ mGW := mgw_3 6 rfl rfl
theorem gm_RX0_64 : Cond.methodLink RX0 64 yX0_wants ∈ mGW := mgw_3 207 rfl rfl
theorem g_instanceMethod_yX0_wants : Cond.instanceMethod yX0_wants ∈ mGW := mgw_3 161 rfl rfl
theorem gs_yX0_wants : Cond.selects RX0 yX0_wants yX0_wants ∈ mGW := mgw_3 162 rfl rfl
theorem gm_RX0_68 : Cond.methodLink RX0 68 yX2_lasts ∈ mGW := mgw_3 61 rfl rfl
theorem g_static_yX2_lasts : Cond.static yX2_lasts ∈ mGW := mgw_3 62 rfl rfl
theorem gm_RX0_71 : Cond.methodLink RX0 71 yX2_soaks ∈ mGW := mgw_3 76 rfl rfl
theorem g_static_yX2_soaks : Cond.static yX2_soaks ∈ mGW := mgw_3 77 rfl rfl
theorem gm_RX0_74 : Cond.methodLink RX0 74 yX6_value ∈ mGW := mgw_3 49 rfl rfl
theorem g_instanceMethod_yX6_value : Cond.instanceMethod yX6_value ∈ mGW := mgw_3 50 rfl rfl
theorem gs_yX6_value : Cond.selects RX6 yX6_value yX6_value ∈ mGW := mgw_3 51 rfl rfl
theorem gn_RX0_78 : Cond.methodLinkNest RX0 78 yX8_bounded RX8 ∈ mNest := List.mem_of_getElem? (i := 10) rfl
theorem g_static_yX8_bounded : Cond.static yX8_bounded ∈ mGW := mgw_2 26 rfl rfl
theorem gm_RX1_7 : Cond.methodLink RX1 7 objectInit ∈ mGW := mgw_1 68 rfl rfl
theorem gf_RX1_13 : Cond.fieldLink RX1 13 RX1 "code" "[I" ∈ mGW := mgw_1 69 rfl rfl
theorem gf_RX1_17 : Cond.fieldLink RX1 17 RX1 "ends" "[I" ∈ mGW := mgw_1 70 rfl rfl
theorem gf_RX1_20 : Cond.fieldLink RX1 20 RX1 "bytes" "[I" ∈ mGW := mgw_1 72 rfl rfl
theorem gm_RX1_23 : Cond.methodLink RX1 23 yJ9_min_7cf53 ∈ mGW := mgw_2 22 rfl rfl
theorem g_static_yJ9_min_7cf53 : Cond.static yJ9_min_7cf53 ∈ mGW := mgw_2 23 rfl rfl
theorem gn_RX1_29 : Cond.methodLinkNest RX1 29 yX8_bounded RX8 ∈ mNest := List.mem_of_getElem? (i := 6) rfl
theorem gf_RX1_33 : Cond.fieldLink RX1 33 RX1 "size" "I" ∈ mGW := mgw_1 73 rfl rfl
theorem gf_RX1_37 : Cond.fieldLink RX1 37 RX1 "codeSize" "I" ∈ mGW := mgw_1 71 rfl rfl
theorem gf_RX1_40 : Cond.fieldLink RX1 40 RX1 "behind" "I" ∈ mGW := mgw_1 77 rfl rfl
theorem gm_RX1_43 : Cond.methodLink RX1 43 yX1_advance ∈ mGW := mgw_2 32 rfl rfl
theorem g_instanceMethod_yX1_advance : Cond.instanceMethod yX1_advance ∈ mGW := mgw_2 34 rfl rfl
theorem gs_yX1_advance : Cond.selects RX1 yX1_advance yX1_advance ∈ mGW := mgw_s (List.mem_of_getElem? (i := 0) rfl) rfl
theorem gm_RX1_46 : Cond.methodLink RX1 46 yX1_takes ∈ mGW := mgw_2 60 rfl rfl
theorem g_instanceMethod_yX1_takes : Cond.instanceMethod yX1_takes ∈ mGW := mgw_2 62 rfl rfl
theorem gs_yX1_takes : Cond.selects RX1 yX1_takes yX1_takes ∈ mGW := mgw_s (List.mem_of_getElem? (i := 4) rfl) rfl
theorem gm_RX1_50 : Cond.methodLink RX1 50 yX1_readsEither ∈ mGW := mgw_2 64 rfl rfl
theorem g_instanceMethod_yX1_readsEither : Cond.instanceMethod yX1_readsEither ∈ mGW := mgw_2 66 rfl rfl
theorem gs_yX1_readsEither : Cond.selects RX1 yX1_readsEither yX1_readsEither ∈ mGW := mgw_s (List.mem_of_getElem? (i := 5) rfl) rfl
theorem gf_RX1_53 : Cond.fieldLink RX1 53 RX1 "at" "I" ∈ mGW := mgw_1 76 rfl rfl
theorem gf_RX1_56 : Cond.fieldLink RX1 56 RX1 "token" "I" ∈ mGW := mgw_1 74 rfl rfl
theorem gl_RX1_3 : Cond.classLink RX1 3 RX6 ∈ mGW := mgw_2 100 rfl rfl
theorem gin_RX6 : Cond.instantiable RX6 2 ∈ mGW := mgw_2 101 rfl rfl
theorem gi_initialized_RX6 : Cond.initialized RX6 ∈ mGW := mgw_1 13 rfl rfl
theorem gm_RX1_59 : Cond.methodLink RX1 59 yJ7_copyOf_59c91 ∈ mGW := mgw_2 102 rfl rfl
theorem g_static_yJ7_copyOf_59c91 : Cond.static yJ7_copyOf_59c91 ∈ mGW := mgw_2 103 rfl rfl
theorem gm_RX1_65 : Cond.methodLink RX1 65 yX6_init ∈ mGW := mgw_2 116 rfl rfl
theorem g_instanceMethod_yX6_init : Cond.instanceMethod yX6_init ∈ mGW := mgw_2 117 rfl rfl
theorem gm_RX1_68 : Cond.methodLink RX1 68 yX1_readsBoth ∈ mGW := mgw_2 68 rfl rfl
theorem g_instanceMethod_yX1_readsBoth : Cond.instanceMethod yX1_readsBoth ∈ mGW := mgw_2 70 rfl rfl
theorem gs_yX1_readsBoth : Cond.selects RX1 yX1_readsBoth yX1_readsBoth ∈ mGW := mgw_s (List.mem_of_getElem? (i := 6) rfl) rfl
theorem gm_RX1_71 : Cond.methodLink RX1 71 yX1_emit ∈ mGW := mgw_2 80 rfl rfl
theorem g_instanceMethod_yX1_emit : Cond.instanceMethod yX1_emit ∈ mGW := mgw_2 82 rfl rfl
theorem gs_yX1_emit : Cond.selects RX1 yX1_emit yX1_emit ∈ mGW := mgw_s (List.mem_of_getElem? (i := 9) rfl) rfl
theorem gm_RX1_75 : Cond.methodLink RX1 75 yX1_readsNot ∈ mGW := mgw_2 72 rfl rfl
theorem g_instanceMethod_yX1_readsNot : Cond.instanceMethod yX1_readsNot ∈ mGW := mgw_2 74 rfl rfl
theorem gs_yX1_readsNot : Cond.selects RX1 yX1_readsNot yX1_readsNot ∈ mGW := mgw_s (List.mem_of_getElem? (i := 7) rfl) rfl
theorem gm_RX1_78 : Cond.methodLink RX1 78 yX1_opens ∈ mGW := mgw_2 76 rfl rfl
theorem g_instanceMethod_yX1_opens : Cond.instanceMethod yX1_opens ∈ mGW := mgw_2 78 rfl rfl
theorem gs_yX1_opens : Cond.selects RX1 yX1_opens yX1_opens ∈ mGW := mgw_s (List.mem_of_getElem? (i := 8) rfl) rfl
theorem gm_RX1_81 : Cond.methodLink RX1 81 yX1_readsSum ∈ mGW := mgw_2 84 rfl rfl
theorem g_instanceMethod_yX1_readsSum : Cond.instanceMethod yX1_readsSum ∈ mGW := mgw_2 86 rfl rfl
theorem gs_yX1_readsSum : Cond.selects RX1 yX1_readsSum yX1_readsSum ∈ mGW := mgw_s (List.mem_of_getElem? (i := 10) rfl) rfl
theorem gm_RX1_84 : Cond.methodLink RX1 84 yX1_readsTerm ∈ mGW := mgw_2 88 rfl rfl
theorem g_instanceMethod_yX1_readsTerm : Cond.instanceMethod yX1_readsTerm ∈ mGW := mgw_2 90 rfl rfl
theorem gs_yX1_readsTerm : Cond.selects RX1 yX1_readsTerm yX1_readsTerm ∈ mGW := mgw_s (List.mem_of_getElem? (i := 11) rfl) rfl
theorem gm_RX1_87 : Cond.methodLink RX1 87 yX1_readsOne ∈ mGW := mgw_2 92 rfl rfl
theorem g_instanceMethod_yX1_readsOne : Cond.instanceMethod yX1_readsOne ∈ mGW := mgw_2 94 rfl rfl
theorem gs_yX1_readsOne : Cond.selects RX1 yX1_readsOne yX1_readsOne ∈ mGW := mgw_s (List.mem_of_getElem? (i := 12) rfl) rfl
theorem gf_RX1_90 : Cond.fieldLink RX1 90 RX1 "number" "I" ∈ mGW := mgw_1 75 rfl rfl
theorem gm_RX1_93 : Cond.methodLink RX1 93 yX1_isLetter ∈ mGW := mgw_2 36 rfl rfl
theorem g_static_yX1_isLetter : Cond.static yX1_isLetter ∈ mGW := mgw_2 37 rfl rfl
theorem gm_RX1_96 : Cond.methodLink RX1 96 yX1_readWord ∈ mGW := mgw_2 39 rfl rfl
theorem g_instanceMethod_yX1_readWord : Cond.instanceMethod yX1_readWord ∈ mGW := mgw_2 41 rfl rfl
theorem gs_yX1_readWord : Cond.selects RX1 yX1_readWord yX1_readWord ∈ mGW := mgw_s (List.mem_of_getElem? (i := 1) rfl) rfl
theorem gm_RX1_99 : Cond.methodLink RX1 99 yX1_isDigit ∈ mGW := mgw_2 50 rfl rfl
theorem g_static_yX1_isDigit : Cond.static yX1_isDigit ∈ mGW := mgw_2 51 rfl rfl
theorem gm_RX1_102 : Cond.methodLink RX1 102 yX1_readNumber ∈ mGW := mgw_2 53 rfl rfl
theorem g_instanceMethod_yX1_readNumber : Cond.instanceMethod yX1_readNumber ∈ mGW := mgw_2 55 rfl rfl
theorem gs_yX1_readNumber : Cond.selects RX1 yX1_readNumber yX1_readNumber ∈ mGW := mgw_s (List.mem_of_getElem? (i := 3) rfl) rfl
theorem gm_RX1_105 : Cond.methodLink RX1 105 yX1_isSign ∈ mGW := mgw_2 57 rfl rfl
theorem g_static_yX1_isSign : Cond.static yX1_isSign ∈ mGW := mgw_2 58 rfl rfl
theorem gm_RX1_110 : Cond.methodLink RX1 110 yJ0_length_8abf5 ∈ mGW := mgw_2 44 rfl rfl
theorem g_instanceMethod_yJ0_length_8abf5 : Cond.instanceMethod yJ0_length_8abf5 ∈ mGW := mgw_1 211 rfl rfl
theorem gs_yJ0_length_8abf5 : Cond.selects RJ0 yJ0_length_8abf5 yJ0_length_8abf5 ∈ mGW := mgw_1 212 rfl rfl
theorem gm_RX1_116 : Cond.methodLink RX1 116 yJ0_charAt_5068e ∈ mGW := mgw_2 45 rfl rfl
theorem g_instanceMethod_yJ0_charAt_5068e : Cond.instanceMethod yJ0_charAt_5068e ∈ mGW := mgw_1 221 rfl rfl
theorem gs_yJ0_charAt_5068e : Cond.selects RJ0 yJ0_charAt_5068e yJ0_charAt_5068e ∈ mGW := mgw_1 222 rfl rfl
theorem gm_RX1_120 : Cond.methodLink RX1 120 yX1_isSpelled ∈ mGW := mgw_2 46 rfl rfl
theorem g_instanceMethod_yX1_isSpelled : Cond.instanceMethod yX1_isSpelled ∈ mGW := mgw_2 48 rfl rfl
theorem gs_yX1_isSpelled : Cond.selects RX1 yX1_isSpelled yX1_isSpelled ∈ mGW := mgw_s (List.mem_of_getElem? (i := 2) rfl) rfl
theorem gn_RX2_9 : Cond.methodLinkNest RX2 9 yX8_isWithin RX8 ∈ mNest := List.mem_of_getElem? (i := 18) rfl
theorem g_static_yX8_isWithin : Cond.static yX8_isWithin ∈ mGW := mgw_2 183 rfl rfl
theorem gf_RX2_13 : Cond.fieldLink RX2 13 RX2 "ABOVE" "[I" ∈ mGW := mgw_4 111 rfl rfl
theorem gm_RX2_19 : Cond.methodLink RX2 19 yJ9_max_7cf53 ∈ mGW := mgw_3 11 rfl rfl
theorem g_static_yJ9_max_7cf53 : Cond.static yJ9_max_7cf53 ∈ mGW := mgw_2 30 rfl rfl
theorem gn_RX2_25 : Cond.methodLinkNest RX2 25 yX8_bounded RX8 ∈ mNest := List.mem_of_getElem? (i := 11) rfl
theorem gm_RX3_3 : Cond.methodLink RX3 3 objectInit ∈ mGW := mgw_1 140 rfl rfl
theorem gl_RX3_9 : Cond.classLink RX3 9 RX7 ∈ mGW := mgw_1 141 rfl rfl
theorem gin_RX7 : Cond.instantiable RX7 2 ∈ mGW := mgw_1 142 rfl rfl
theorem gi_initialized_RX7 : Cond.initialized RX7 ∈ mGW := mgw_1 6 rfl rfl
theorem gn_RX3_11 : Cond.methodLinkNest RX3 11 yX7_init RX8 ∈ mNest := List.mem_of_getElem? (i := 4) rfl
theorem g_instanceMethod_yX7_init : Cond.instanceMethod yX7_init ∈ mGW := mgw_1 144 rfl rfl
theorem gf_RX3_12 : Cond.fieldLink RX3 12 RX3 "bare" "LRolledUp$Ways;" ∈ mGW := mgw_1 154 rfl rfl
theorem gf_RX3_18 : Cond.fieldLink RX3 18 RX3 "planked" "LRolledUp$Ways;" ∈ mGW := mgw_1 155 rfl rfl
theorem gf_RX3_21 : Cond.fieldLink RX3 21 RX3 "hours" "[I" ∈ mGW := mgw_1 156 rfl rfl
theorem gf_RX3_25 : Cond.fieldLink RX3 25 RX3 "firsts" "[I" ∈ mGW := mgw_1 157 rfl rfl
theorem gf_RX3_28 : Cond.fieldLink RX3 28 RX3 "nextHours" "[I" ∈ mGW := mgw_1 158 rfl rfl
theorem gf_RX3_31 : Cond.fieldLink RX3 31 RX3 "nextFirsts" "[I" ∈ mGW := mgw_1 159 rfl rfl
theorem gf_RX3_34 : Cond.fieldLink RX3 34 RX3 "comers" "[I" ∈ mGW := mgw_1 160 rfl rfl
theorem gf_RX3_37 : Cond.fieldLink RX3 37 RX3 "roadHours" "[I" ∈ mGW := mgw_1 161 rfl rfl
theorem gf_RX3_40 : Cond.fieldLink RX3 40 RX3 "plankFrom" "I" ∈ mGW := mgw_1 162 rfl rfl
theorem gf_RX3_44 : Cond.fieldLink RX3 44 RX3 "plankTo" "I" ∈ mGW := mgw_1 163 rfl rfl
theorem gm_RX3_47 : Cond.methodLink RX3 47 yX7_forget ∈ mGW := mgw_3 93 rfl rfl
theorem g_instanceMethod_yX7_forget : Cond.instanceMethod yX7_forget ∈ mGW := mgw_3 94 rfl rfl
theorem gs_yX7_forget : Cond.selects RX7 yX7_forget yX7_forget ∈ mGW := mgw_3 95 rfl rfl
theorem gf_RX3_50 : Cond.fieldLink RX3 50 RX3 "best" "I" ∈ mGW := mgw_1 164 rfl rfl
theorem gc_RX3_53 : Cond.constant RX3 53 1000000 ∈ mGW := mgw_3 101 rfl rfl
theorem gf_RX3_54 : Cond.fieldLink RX3 54 RX3 "bestFirst" "I" ∈ mGW := mgw_1 165 rfl rfl
theorem gn_RX3_57 : Cond.methodLinkNest RX3 57 yX8_areTwoStones RX8 ∈ mNest := List.mem_of_getElem? (i := 12) rfl
theorem g_static_yX8_areTwoStones : Cond.static yX8_areTwoStones ∈ mGW := mgw_2 177 rfl rfl
theorem gf_RX3_61 : Cond.fieldLink RX3 61 RX0 "wet" "I" ∈ mGW := mgw_1 112 rfl rfl
theorem gm_RX3_66 : Cond.methodLink RX3 66 yJ7_fill_53178 ∈ mGW := mgw_3 103 rfl rfl
theorem g_static_yJ7_fill_53178 : Cond.static yJ7_fill_53178 ∈ mGW := mgw_3 104 rfl rfl
theorem gm_RX3_72 : Cond.methodLink RX3 72 yX7_learn ∈ mGW := mgw_3 106 rfl rfl
theorem g_instanceMethod_yX7_learn : Cond.instanceMethod yX7_learn ∈ mGW := mgw_3 107 rfl rfl
theorem gs_yX7_learn : Cond.selects RX7 yX7_learn yX7_learn ∈ mGW := mgw_3 108 rfl rfl
theorem gm_RX3_76 : Cond.methodLink RX3 76 yX3_step ∈ mGW := mgw_3 113 rfl rfl
theorem g_instanceMethod_yX3_step : Cond.instanceMethod yX3_step ∈ mGW := mgw_3 115 rfl rfl
theorem gs_yX3_step : Cond.selects RX3 yX3_step yX3_step ∈ mGW := mgw_s (List.mem_of_getElem? (i := 17) rfl) rfl
theorem gm_RX3_80 : Cond.methodLink RX3 80 yX3_noteArrival ∈ mGW := mgw_3 131 rfl rfl
theorem g_instanceMethod_yX3_noteArrival : Cond.instanceMethod yX3_noteArrival ∈ mGW := mgw_3 133 rfl rfl
theorem gs_yX3_noteArrival : Cond.selects RX3 yX3_noteArrival yX3_noteArrival ∈ mGW := mgw_s (List.mem_of_getElem? (i := 20) rfl) rfl
theorem gm_RX3_83 : Cond.methodLink RX3 83 yX0_soak ∈ mGW := mgw_3 135 rfl rfl
theorem g_instanceMethod_yX0_soak : Cond.instanceMethod yX0_soak ∈ mGW := mgw_3 73 rfl rfl
theorem gs_yX0_soak : Cond.selects RX0 yX0_soak yX0_soak ∈ mGW := mgw_3 74 rfl rfl
theorem gm_RX3_86 : Cond.methodLink RX3 86 yX3_between ∈ mGW := mgw_3 117 rfl rfl
theorem g_instanceMethod_yX3_between : Cond.instanceMethod yX3_between ∈ mGW := mgw_3 119 rfl rfl
theorem gs_yX3_between : Cond.selects RX3 yX3_between yX3_between ∈ mGW := mgw_s (List.mem_of_getElem? (i := 18) rfl) rfl
theorem gm_RX3_90 : Cond.methodLink RX3 90 yX3_offer ∈ mGW := mgw_3 126 rfl rfl
theorem g_instanceMethod_yX3_offer : Cond.instanceMethod yX3_offer ∈ mGW := mgw_3 128 rfl rfl
theorem gs_yX3_offer : Cond.selects RX3 yX3_offer yX3_offer ∈ mGW := mgw_s (List.mem_of_getElem? (i := 19) rfl) rfl
theorem gm_RX3_94 : Cond.methodLink RX3 94 arraycopyName ∈ mGW := mgw_3 130 rfl rfl
theorem g_cp_nat : Cond.native arraycopyName ∈ mGW := mgw_2 115 rfl rfl
theorem g_cp_stat : Cond.static arraycopyName ∈ mGW := mgw_2 114 rfl rfl
theorem g_cp_ini : Cond.initialized "java/lang/System" ∈ mGW := mgw_1 15 rfl rfl
theorem gm_RX3_100 : Cond.methodLink RX3 100 yX7_between ∈ mGW := mgw_3 121 rfl rfl
theorem g_instanceMethod_yX7_between : Cond.instanceMethod yX7_between ∈ mGW := mgw_3 122 rfl rfl
theorem gs_yX7_between : Cond.selects RX7 yX7_between yX7_between ∈ mGW := mgw_3 123 rfl rfl
theorem gm_RX3_101 : Cond.methodLink RX3 101 yX3_forget ∈ mGW := mgw_4 9 rfl rfl
theorem g_instanceMethod_yX3_forget : Cond.instanceMethod yX3_forget ∈ mGW := mgw_3 90 rfl rfl
theorem gs_yX3_forget : Cond.selects RX3 yX3_forget yX3_forget ∈ mGW := mgw_3 91 rfl rfl
theorem gm_RX3_102 : Cond.methodLink RX3 102 yX3_seek ∈ mGW := mgw_4 10 rfl rfl
theorem g_instanceMethod_yX3_seek : Cond.instanceMethod yX3_seek ∈ mGW := mgw_3 98 rfl rfl
theorem gs_yX3_seek : Cond.selects RX3 yX3_seek yX3_seek ∈ mGW := mgw_3 99 rfl rfl
theorem gn_RX3_106 : Cond.methodLinkNest RX3 106 yX8_isWithin RX8 ∈ mNest := List.mem_of_getElem? (i := 16) rfl
theorem gm_RX4_3 : Cond.methodLink RX4 3 objectInit ∈ mGW := mgw_1 195 rfl rfl
theorem gf_RX4_9 : Cond.fieldLink RX4 9 RX4 "items" "[I" ∈ mGW := mgw_1 196 rfl rfl
theorem gf_RX4_15 : Cond.fieldLink RX4 15 RX4 "sort" "I" ∈ mGW := mgw_1 198 rfl rfl
theorem gn_RX4_19 : Cond.methodLinkNest RX4 19 yX8_bounded RX8 ∈ mNest := List.mem_of_getElem? (i := 17) rfl
theorem gf_RX4_23 : Cond.fieldLink RX4 23 RX4 "size" "I" ∈ mGW := mgw_1 200 rfl rfl
theorem gm_RX4_26 : Cond.methodLink RX4 26 yJ7_fill_53178 ∈ mGW := mgw_4 81 rfl rfl
theorem gn_RX4_32 : Cond.methodLinkNest RX4 32 yX8_isWithin RX8 ∈ mNest := List.mem_of_getElem? (i := 15) rfl
theorem gm_RX5_3 : Cond.methodLink RX5 3 objectInit ∈ mGW := mgw_1 31 rfl rfl
theorem gf_RX5_9 : Cond.fieldLink RX5 9 RX5 "mud" "[I" ∈ mGW := mgw_1 32 rfl rfl
theorem gf_RX5_15 : Cond.fieldLink RX5 15 RX5 "traits" "[I" ∈ mGW := mgw_1 33 rfl rfl
theorem gf_RX5_18 : Cond.fieldLink RX5 18 RX5 "debts" "[I" ∈ mGW := mgw_1 34 rfl rfl
theorem gf_RX5_21 : Cond.fieldLink RX5 21 RX5 "rain" "[I" ∈ mGW := mgw_1 35 rfl rfl
theorem gm_RX5_24 : Cond.methodLink RX5 24 arraycopyName ∈ mGW := mgw_4 32 rfl rfl
theorem gf_RX5_30 : Cond.fieldLink RX5 30 RX5 "people" "I" ∈ mGW := mgw_1 37 rfl rfl
theorem gf_RX5_34 : Cond.fieldLink RX5 34 RX5 "hour" "I" ∈ mGW := mgw_1 39 rfl rfl
theorem gf_RX5_37 : Cond.fieldLink RX5 37 RX5 "rule" "I" ∈ mGW := mgw_1 41 rfl rfl
theorem gn_RX5_40 : Cond.methodLinkNest RX5 40 yX8_isWithin RX8 ∈ mNest := List.mem_of_getElem? (i := 8) rfl
theorem gm_RX5_44 : Cond.methodLink RX5 44 yX5_isOne ∈ mGW := mgw_2 204 rfl rfl
theorem g_instanceMethod_yX5_isOne : Cond.instanceMethod yX5_isOne ∈ mGW := mgw_2 205 rfl rfl
theorem gs_yX5_isOne : Cond.selects RX5 yX5_isOne yX5_isOne ∈ mGW := mgw_2 206 rfl rfl
theorem gn_RX5_48 : Cond.methodLinkNest RX5 48 yX8_areTwoStones RX8 ∈ mNest := List.mem_of_getElem? (i := 7) rfl
theorem gm_RX5_51 : Cond.methodLink RX5 51 yX5_mudBetween ∈ mGW := mgw_4 66 rfl rfl
theorem g_instanceMethod_yX5_mudBetween : Cond.instanceMethod yX5_mudBetween ∈ mGW := mgw_2 186 rfl rfl
theorem gs_yX5_mudBetween : Cond.selects RX5 yX5_mudBetween yX5_mudBetween ∈ mGW := mgw_2 187 rfl rfl
theorem gm_RX5_55 : Cond.methodLink RX5 55 yX5_rainIn ∈ mGW := mgw_2 237 rfl rfl
theorem g_instanceMethod_yX5_rainIn : Cond.instanceMethod yX5_rainIn ∈ mGW := mgw_2 238 rfl rfl
theorem gs_yX5_rainIn : Cond.selects RX5 yX5_rainIn yX5_rainIn ∈ mGW := mgw_2 239 rfl rfl
theorem gm_RX5_59 : Cond.methodLink RX5 59 yJ9_floorMod_7cf53 ∈ mGW := mgw_3 1 rfl rfl
theorem g_static_yJ9_floorMod_7cf53 : Cond.static yJ9_floorMod_7cf53 ∈ mGW := mgw_3 2 rfl rfl
theorem gm_RX5_64 : Cond.methodLink RX5 64 yX5_debt ∈ mGW := mgw_3 16 rfl rfl
theorem g_instanceMethod_yX5_debt : Cond.instanceMethod yX5_debt ∈ mGW := mgw_3 17 rfl rfl
theorem gs_yX5_debt : Cond.selects RX5 yX5_debt yX5_debt ∈ mGW := mgw_3 18 rfl rfl
theorem gm_RX5_67 : Cond.methodLink RX5 67 yX5_owes ∈ mGW := mgw_4 71 rfl rfl
theorem g_instanceMethod_yX5_owes : Cond.instanceMethod yX5_owes ∈ mGW := mgw_3 13 rfl rfl
theorem gs_yX5_owes : Cond.selects RX5 yX5_owes yX5_owes ∈ mGW := mgw_3 14 rfl rfl
theorem gm_RX5_70 : Cond.methodLink RX5 70 yJ9_min_7cf53 ∈ mGW := mgw_3 189 rfl rfl
theorem gm_RX5_73 : Cond.methodLink RX5 73 yX5_putDebt ∈ mGW := mgw_3 190 rfl rfl
theorem g_instanceMethod_yX5_putDebt : Cond.instanceMethod yX5_putDebt ∈ mGW := mgw_3 174 rfl rfl
theorem gs_yX5_putDebt : Cond.selects RX5 yX5_putDebt yX5_putDebt ∈ mGW := mgw_3 175 rfl rfl
theorem gm_RX6_1 : Cond.methodLink RX6 1 objectInit ∈ mGW := mgw_2 119 rfl rfl
theorem gf_RX6_7 : Cond.fieldLink RX6 7 RX6 "code" "[I" ∈ mGW := mgw_2 120 rfl rfl
theorem gf_RX6_13 : Cond.fieldLink RX6 13 RX6 "ends" "[I" ∈ mGW := mgw_2 121 rfl rfl
theorem gn_RX6_16 : Cond.methodLinkNest RX6 16 yX8_isWithin RX8 ∈ mNest := List.mem_of_getElem? (i := 9) rfl
theorem gm_RX6_22 : Cond.methodLink RX6 22 yX6_ofOne ∈ mGW := mgw_3 54 rfl rfl
theorem g_static_yX6_ofOne : Cond.static yX6_ofOne ∈ mGW := mgw_3 55 rfl rfl
theorem gm_RX6_26 : Cond.methodLink RX6 26 yX6_ofTwo ∈ mGW := mgw_3 57 rfl rfl
theorem g_static_yX6_ofTwo : Cond.static yX6_ofTwo ∈ mGW := mgw_3 58 rfl rfl
theorem gm_RX7_3 : Cond.methodLink RX7 3 objectInit ∈ mGW := mgw_1 146 rfl rfl
theorem gf_RX7_9 : Cond.fieldLink RX7 9 RX7 "hours" "[I" ∈ mGW := mgw_1 147 rfl rfl
theorem gf_RX7_15 : Cond.fieldLink RX7 15 RX7 "knownWets" "I" ∈ mGW := mgw_1 148 rfl rfl
theorem gf_RX7_19 : Cond.fieldLink RX7 19 RX0 "wet" "I" ∈ mGW := mgw_1 111 rfl rfl
theorem gn_RX7_24 : Cond.methodLinkNest RX7 24 yX8_isWithin RX8 ∈ mNest := List.mem_of_getElem? (i := 13) rfl
theorem gm_RX7_28 : Cond.methodLink RX7 28 yX5_mudBetween ∈ mGW := mgw_3 111 rfl rfl
theorem gm_RX7_34 : Cond.methodLink RX7 34 yX0_hours ∈ mGW := mgw_3 112 rfl rfl
theorem g_instanceMethod_yX0_hours : Cond.instanceMethod yX0_hours ∈ mGW := mgw_3 41 rfl rfl
theorem gs_yX0_hours : Cond.selects RX0 yX0_hours yX0_hours ∈ mGW := mgw_3 42 rfl rfl
theorem gn_RX7_37 : Cond.methodLinkNest RX7 37 yX8_isStone RX8 ∈ mNest := List.mem_of_getElem? (i := 14) rfl
theorem g_static_yX8_isStone : Cond.static yX8_isStone ∈ mGW := mgw_2 180 rfl rfl
theorem gm_RX8_1 : Cond.methodLink RX8 1 objectInit ∈ mGW := mgw_1 23 rfl rfl
theorem gl_RX8_7 : Cond.classLink RX8 7 RX5 ∈ mGW := mgw_1 26 rfl rfl
theorem gin_RX5 : Cond.instantiable RX5 7 ∈ mGW := mgw_1 27 rfl rfl
theorem gi_initialized_RX5 : Cond.initialized RX5 ∈ mGW := mgw_1 2 rfl rfl
theorem gn_RX8_9 : Cond.methodLinkNest RX8 9 yX5_init RX8 ∈ mNest := List.mem_of_getElem? (i := 0) rfl
theorem g_instanceMethod_yX5_init : Cond.instanceMethod yX5_init ∈ mGW := mgw_1 29 rfl rfl
theorem gf_RX8_10 : Cond.fieldLink RX8 10 RX8 "now" "LRolledUp$State;" ∈ mGW := mgw_2 128 rfl rfl
theorem gf_RX8_16 : Cond.fieldLink RX8 16 RX8 "kept" "LRolledUp$State;" ∈ mGW := mgw_2 129 rfl rfl
theorem gf_RX8_19 : Cond.fieldLink RX8 19 RX8 "dream" "LRolledUp$State;" ∈ mGW := mgw_2 130 rfl rfl
theorem gl_RX8_22 : Cond.classLink RX8 22 RX6 ∈ mGW := mgw_1 59 rfl rfl
theorem gf_RX8_24 : Cond.fieldLink RX8 24 RX8 "texts" "[LRolledUp$Text;" ∈ mGW := mgw_2 131 rfl rfl
theorem gf_RX8_28 : Cond.fieldLink RX8 28 RX8 "tape" "[I" ∈ mGW := mgw_2 132 rfl rfl
theorem gl_RX8_32 : Cond.classLink RX8 32 RX4 ∈ mGW := mgw_1 61 rfl rfl
theorem gf_RX8_34 : Cond.fieldLink RX8 34 RX8 "sheets" "[LRolledUp$Sheet;" ∈ mGW := mgw_2 133 rfl rfl
theorem gl_RX8_38 : Cond.classLink RX8 38 RX1 ∈ mGW := mgw_1 63 rfl rfl
theorem gin_RX1 : Cond.instantiable RX1 9 ∈ mGW := mgw_1 64 rfl rfl
theorem gi_initialized_RX1 : Cond.initialized RX1 ∈ mGW := mgw_1 3 rfl rfl
theorem gn_RX8_40 : Cond.methodLinkNest RX8 40 yX1_init RX8 ∈ mNest := List.mem_of_getElem? (i := 1) rfl
theorem g_instanceMethod_yX1_init : Cond.instanceMethod yX1_init ∈ mGW := mgw_1 66 rfl rfl
theorem gf_RX8_41 : Cond.fieldLink RX8 41 RX8 "parser" "LRolledUp$Parser;" ∈ mGW := mgw_2 134 rfl rfl
theorem gl_RX8_45 : Cond.classLink RX8 45 RX0 ∈ mGW := mgw_1 97 rfl rfl
theorem gin_RX0 : Cond.instantiable RX0 9 ∈ mGW := mgw_1 98 rfl rfl
theorem gi_initialized_RX0 : Cond.initialized RX0 ∈ mGW := mgw_1 4 rfl rfl
theorem gn_RX8_47 : Cond.methodLinkNest RX8 47 yX0_init RX8 ∈ mNest := List.mem_of_getElem? (i := 2) rfl
theorem g_instanceMethod_yX0_init : Cond.instanceMethod yX0_init ∈ mGW := mgw_1 100 rfl rfl
theorem gf_RX8_48 : Cond.fieldLink RX8 48 RX8 "goer" "LRolledUp$Goer;" ∈ mGW := mgw_2 135 rfl rfl
theorem gf_RX8_52 : Cond.fieldLink RX8 52 RX8 "second" "LRolledUp$Goer;" ∈ mGW := mgw_2 136 rfl rfl
theorem gl_RX8_55 : Cond.classLink RX8 55 RX3 ∈ mGW := mgw_1 135 rfl rfl
theorem gin_RX3 : Cond.instantiable RX3 12 ∈ mGW := mgw_1 136 rfl rfl
theorem gi_initialized_RX3 : Cond.initialized RX3 ∈ mGW := mgw_1 5 rfl rfl
theorem gn_RX8_57 : Cond.methodLinkNest RX8 57 yX3_init RX8 ∈ mNest := List.mem_of_getElem? (i := 3) rfl
theorem g_instanceMethod_yX3_init : Cond.instanceMethod yX3_init ∈ mGW := mgw_1 138 rfl rfl
theorem gf_RX8_58 : Cond.fieldLink RX8 58 RX8 "search" "LRolledUp$Search;" ∈ mGW := mgw_2 137 rfl rfl
theorem gin_RX4 : Cond.instantiable RX4 3 ∈ mGW := mgw_1 191 rfl rfl
theorem gi_initialized_RX4 : Cond.initialized RX4 ∈ mGW := mgw_1 7 rfl rfl
theorem gn_RX8_62 : Cond.methodLinkNest RX8 62 yX4_init RX8 ∈ mNest := List.mem_of_getElem? (i := 5) rfl
theorem g_instanceMethod_yX4_init : Cond.instanceMethod yX4_init ∈ mGW := mgw_1 193 rfl rfl
theorem gm_RX8_65 : Cond.methodLink RX8 65 yJ0_length_8abf5 ∈ mGW := mgw_1 210 rfl rfl
theorem gm_RX8_71 : Cond.methodLink RX8 71 yJ0_charAt_5068e ∈ mGW := mgw_1 220 rfl rfl
theorem gm_RX8_75 : Cond.methodLink RX8 75 yX1_parse ∈ mGW := mgw_2 18 rfl rfl
theorem g_instanceMethod_yX1_parse : Cond.instanceMethod yX1_parse ∈ mGW := mgw_2 19 rfl rfl
theorem gs_yX1_parse : Cond.selects RX1 yX1_parse yX1_parse ∈ mGW := mgw_2 20 rfl rfl
theorem gm_RX8_79 : Cond.methodLink RX8 79 yX1_newText ∈ mGW := mgw_2 96 rfl rfl
theorem g_instanceMethod_yX1_newText : Cond.instanceMethod yX1_newText ∈ mGW := mgw_2 97 rfl rfl
theorem gs_yX1_newText : Cond.selects RX1 yX1_newText yX1_newText ∈ mGW := mgw_2 98 rfl rfl
theorem gf_RX8_83 : Cond.fieldLink RX8 83 RX8 "textCount" "I" ∈ mGW := mgw_2 139 rfl rfl
theorem gm_RX8_87 : Cond.methodLink RX8 87 yX8_far ∈ mGW := mgw_2 172 rfl rfl
theorem g_instanceMethod_yX8_far : Cond.instanceMethod yX8_far ∈ mGW := mgw_2 173 rfl rfl
theorem gs_yX8_far : Cond.selects RX8 yX8_far yX8_far ∈ mGW := mgw_2 174 rfl rfl
theorem gm_RX8_91 : Cond.methodLink RX8 91 yX5_putMud ∈ mGW := mgw_2 190 rfl rfl
theorem g_instanceMethod_yX5_putMud : Cond.instanceMethod yX5_putMud ∈ mGW := mgw_2 191 rfl rfl
theorem gs_yX5_putMud : Cond.selects RX5 yX5_putMud yX5_putMud ∈ mGW := mgw_2 192 rfl rfl
theorem gm_RX8_95 : Cond.methodLink RX8 95 yX8_areTwoStones ∈ mGW := mgw_2 176 rfl rfl
theorem gm_RX8_99 : Cond.methodLink RX8 99 yX5_mudBetween ∈ mGW := mgw_2 185 rfl rfl
theorem gm_RX8_102 : Cond.methodLink RX8 102 yX8_isWithin ∈ mGW := mgw_2 182 rfl rfl
theorem gf_RX8_105 : Cond.fieldLink RX8 105 RX5 "people" "I" ∈ mGW := mgw_1 38 rfl rfl
theorem gm_RX8_108 : Cond.methodLink RX8 108 yX5_put ∈ mGW := mgw_2 200 rfl rfl
theorem g_instanceMethod_yX5_put : Cond.instanceMethod yX5_put ∈ mGW := mgw_2 201 rfl rfl
theorem gs_yX5_put : Cond.selects RX5 yX5_put yX5_put ∈ mGW := mgw_2 202 rfl rfl
theorem gf_RX8_112 : Cond.fieldLink RX8 112 RX5 "hour" "I" ∈ mGW := mgw_1 40 rfl rfl
theorem gf_RX8_115 : Cond.fieldLink RX8 115 RX5 "rain" "[I" ∈ mGW := mgw_1 36 rfl rfl
theorem gm_RX8_118 : Cond.methodLink RX8 118 yX5_isOne ∈ mGW := mgw_2 212 rfl rfl
theorem gm_RX8_122 : Cond.methodLink RX8 122 yX8_mostOf ∈ mGW := mgw_2 213 rfl rfl
theorem g_static_yX8_mostOf : Cond.static yX8_mostOf ∈ mGW := mgw_2 214 rfl rfl
theorem gm_RX8_126 : Cond.methodLink RX8 126 yX5_trait ∈ mGW := mgw_2 216 rfl rfl
theorem gm_RX8_129 : Cond.methodLink RX8 129 yX8_ruleOf ∈ mGW := mgw_2 224 rfl rfl
theorem g_instanceMethod_yX8_ruleOf : Cond.instanceMethod yX8_ruleOf ∈ mGW := mgw_2 226 rfl rfl
theorem gs_yX8_ruleOf : Cond.selects RX8 yX8_ruleOf yX8_ruleOf ∈ mGW := mgw_s (List.mem_of_getElem? (i := 13) rfl) rfl
theorem gm_RX8_133 : Cond.methodLink RX8 133 yX0_be ∈ mGW := mgw_2 228 rfl rfl
theorem g_instanceMethod_yX0_be : Cond.instanceMethod yX0_be ∈ mGW := mgw_2 229 rfl rfl
theorem gs_yX0_be : Cond.selects RX0 yX0_be yX0_be ∈ mGW := mgw_2 230 rfl rfl
theorem gm_RX8_137 : Cond.methodLink RX8 137 yX0_reaches ∈ mGW := mgw_3 4 rfl rfl
theorem gm_RX8_140 : Cond.methodLink RX8 140 yX5_owes ∈ mGW := mgw_3 12 rfl rfl
theorem gm_RX8_143 : Cond.methodLink RX8 143 yX5_isOwed ∈ mGW := mgw_3 20 rfl rfl
theorem g_instanceMethod_yX5_isOwed : Cond.instanceMethod yX5_isOwed ∈ mGW := mgw_3 21 rfl rfl
theorem gs_yX5_isOwed : Cond.selects RX5 yX5_isOwed yX5_isOwed ∈ mGW := mgw_3 22 rfl rfl
theorem gf_RX8_146 : Cond.fieldLink RX8 146 RX8 "tapeSize" "I" ∈ mGW := mgw_2 140 rfl rfl
theorem gf_RX8_149 : Cond.fieldLink RX8 149 RX5 "rule" "I" ∈ mGW := mgw_1 42 rfl rfl
theorem gm_RX8_152 : Cond.methodLink RX8 152 yX8_isStone ∈ mGW := mgw_2 179 rfl rfl
theorem gm_RX8_155 : Cond.methodLink RX8 155 yX0_hours ∈ mGW := mgw_3 40 rfl rfl
theorem gm_RX8_159 : Cond.methodLink RX8 159 yX8_moves ∈ mGW := mgw_3 68 rfl rfl
theorem g_instanceMethod_yX8_moves : Cond.instanceMethod yX8_moves ∈ mGW := mgw_3 70 rfl rfl
theorem gs_yX8_moves : Cond.selects RX8 yX8_moves yX8_moves ∈ mGW := mgw_s (List.mem_of_getElem? (i := 15) rfl) rfl
theorem gm_RX8_163 : Cond.methodLink RX8 163 yX5_rainNow ∈ mGW := mgw_3 84 rfl rfl
theorem gm_RX8_166 : Cond.methodLink RX8 166 yX8_seek ∈ mGW := mgw_3 85 rfl rfl
theorem g_instanceMethod_yX8_seek : Cond.instanceMethod yX8_seek ∈ mGW := mgw_3 87 rfl rfl
theorem gs_yX8_seek : Cond.selects RX8 yX8_seek yX8_seek ∈ mGW := mgw_s (List.mem_of_getElem? (i := 16) rfl) rfl
theorem gm_RX8_169 : Cond.methodLink RX8 169 yX3_hoursFound ∈ mGW := mgw_3 136 rfl rfl
theorem g_instanceMethod_yX3_hoursFound : Cond.instanceMethod yX3_hoursFound ∈ mGW := mgw_3 137 rfl rfl
theorem gs_yX3_hoursFound : Cond.selects RX3 yX3_hoursFound yX3_hoursFound ∈ mGW := mgw_3 138 rfl rfl
theorem gm_RX8_172 : Cond.methodLink RX8 172 yX3_firstFound ∈ mGW := mgw_3 140 rfl rfl
theorem g_instanceMethod_yX3_firstFound : Cond.instanceMethod yX3_firstFound ∈ mGW := mgw_3 141 rfl rfl
theorem gs_yX3_firstFound : Cond.selects RX3 yX3_firstFound yX3_firstFound ∈ mGW := mgw_3 142 rfl rfl
theorem gm_RX8_175 : Cond.methodLink RX8 175 yX8_areTwoPeople ∈ mGW := mgw_3 148 rfl rfl
theorem g_instanceMethod_yX8_areTwoPeople : Cond.instanceMethod yX8_areTwoPeople ∈ mGW := mgw_3 150 rfl rfl
theorem gs_yX8_areTwoPeople : Cond.selects RX8 yX8_areTwoPeople yX8_areTwoPeople ∈ mGW := mgw_s (List.mem_of_getElem? (i := 21) rfl) rfl
theorem gm_RX8_178 : Cond.methodLink RX8 178 yX8_areOnOneStone ∈ mGW := mgw_3 152 rfl rfl
theorem g_instanceMethod_yX8_areOnOneStone : Cond.instanceMethod yX8_areOnOneStone ∈ mGW := mgw_3 154 rfl rfl
theorem gs_yX8_areOnOneStone : Cond.selects RX8 yX8_areOnOneStone yX8_areOnOneStone ∈ mGW := mgw_s (List.mem_of_getElem? (i := 22) rfl) rfl
theorem gm_RX8_181 : Cond.methodLink RX8 181 yX8_pooledFrom ∈ mGW := mgw_3 156 rfl rfl
theorem g_instanceMethod_yX8_pooledFrom : Cond.instanceMethod yX8_pooledFrom ∈ mGW := mgw_3 158 rfl rfl
theorem gs_yX8_pooledFrom : Cond.selects RX8 yX8_pooledFrom yX8_pooledFrom ∈ mGW := mgw_s (List.mem_of_getElem? (i := 23) rfl) rfl
theorem gm_RX8_184 : Cond.methodLink RX8 184 yX5_debt ∈ mGW := mgw_3 168 rfl rfl
theorem gm_RX8_187 : Cond.methodLink RX8 187 yX0_lends ∈ mGW := mgw_3 169 rfl rfl
theorem g_instanceMethod_yX0_lends : Cond.instanceMethod yX0_lends ∈ mGW := mgw_3 170 rfl rfl
theorem gs_yX0_lends : Cond.selects RX0 yX0_lends yX0_lends ∈ mGW := mgw_3 171 rfl rfl
theorem gm_RX8_190 : Cond.methodLink RX8 190 yX5_putDebt ∈ mGW := mgw_3 173 rfl rfl
theorem gm_RX8_193 : Cond.methodLink RX8 193 yX5_closeTwo ∈ mGW := mgw_3 185 rfl rfl
theorem g_instanceMethod_yX5_closeTwo : Cond.instanceMethod yX5_closeTwo ∈ mGW := mgw_3 186 rfl rfl
theorem gs_yX5_closeTwo : Cond.selects RX5 yX5_closeTwo yX5_closeTwo ∈ mGW := mgw_3 187 rfl rfl
theorem gm_RX8_196 : Cond.methodLink RX8 196 yX5_closeThree ∈ mGW := mgw_3 191 rfl rfl
theorem g_instanceMethod_yX5_closeThree : Cond.instanceMethod yX5_closeThree ∈ mGW := mgw_3 192 rfl rfl
theorem gs_yX5_closeThree : Cond.selects RX5 yX5_closeThree yX5_closeThree ∈ mGW := mgw_3 193 rfl rfl
theorem gm_RX8_199 : Cond.methodLink RX8 199 yX8_followedFrom ∈ mGW := mgw_3 199 rfl rfl
theorem g_instanceMethod_yX8_followedFrom : Cond.instanceMethod yX8_followedFrom ∈ mGW := mgw_3 201 rfl rfl
theorem gs_yX8_followedFrom : Cond.selects RX8 yX8_followedFrom yX8_followedFrom ∈ mGW := mgw_s (List.mem_of_getElem? (i := 24) rfl) rfl
theorem gm_RX8_202 : Cond.methodLink RX8 202 yX0_soak ∈ mGW := mgw_3 72 rfl rfl
theorem gm_RX8_205 : Cond.methodLink RX8 205 yX4_isMissing ∈ mGW := mgw_3 212 rfl rfl
theorem g_instanceMethod_yX4_isMissing : Cond.instanceMethod yX4_isMissing ∈ mGW := mgw_3 213 rfl rfl
theorem gs_yX4_isMissing : Cond.selects RX4 yX4_isMissing yX4_isMissing ∈ mGW := mgw_3 214 rfl rfl
theorem gf_RX8_209 : Cond.fieldLink RX8 209 RX4 "size" "I" ∈ mGW := mgw_1 201 rfl rfl
theorem gm_RX8_212 : Cond.methodLink RX8 212 yX8_tellsStones ∈ mGW := mgw_3 216 rfl rfl
theorem g_static_yX8_tellsStones : Cond.static yX8_tellsStones ∈ mGW := mgw_3 217 rfl rfl
theorem gm_RX8_216 : Cond.methodLink RX8 216 yX8_canFollow ∈ mGW := mgw_3 224 rfl rfl
theorem g_instanceMethod_yX8_canFollow : Cond.instanceMethod yX8_canFollow ∈ mGW := mgw_3 226 rfl rfl
theorem gs_yX8_canFollow : Cond.selects RX8 yX8_canFollow yX8_canFollow ∈ mGW := mgw_s (List.mem_of_getElem? (i := 25) rfl) rfl
theorem gm_RX8_220 : Cond.methodLink RX8 220 yX5_rainIn ∈ mGW := mgw_3 232 rfl rfl
theorem gm_RX8_223 : Cond.methodLink RX8 223 yX8_wasRainSeen ∈ mGW := mgw_3 233 rfl rfl
theorem g_instanceMethod_yX8_wasRainSeen : Cond.instanceMethod yX8_wasRainSeen ∈ mGW := mgw_3 235 rfl rfl
theorem gs_yX8_wasRainSeen : Cond.selects RX8 yX8_wasRainSeen yX8_wasRainSeen ∈ mGW := mgw_s (List.mem_of_getElem? (i := 26) rfl) rfl
theorem gm_RX8_226 : Cond.methodLink RX8 226 yX3_clearRoads ∈ mGW := mgw_4 1 rfl rfl
theorem g_instanceMethod_yX3_clearRoads : Cond.instanceMethod yX3_clearRoads ∈ mGW := mgw_4 2 rfl rfl
theorem gs_yX3_clearRoads : Cond.selects RX3 yX3_clearRoads yX3_clearRoads ∈ mGW := mgw_4 3 rfl rfl
theorem gm_RX8_229 : Cond.methodLink RX8 229 yX3_tryRoads ∈ mGW := mgw_4 5 rfl rfl
theorem g_instanceMethod_yX3_tryRoads : Cond.instanceMethod yX3_tryRoads ∈ mGW := mgw_4 6 rfl rfl
theorem gs_yX3_tryRoads : Cond.selects RX3 yX3_tryRoads yX3_tryRoads ∈ mGW := mgw_4 7 rfl rfl
theorem gm_RX8_233 : Cond.methodLink RX8 233 yX3_bestRoad ∈ mGW := mgw_4 11 rfl rfl
theorem g_instanceMethod_yX3_bestRoad : Cond.instanceMethod yX3_bestRoad ∈ mGW := mgw_4 12 rfl rfl
theorem gs_yX3_bestRoad : Cond.selects RX3 yX3_bestRoad yX3_bestRoad ∈ mGW := mgw_4 13 rfl rfl
theorem gm_RX8_236 : Cond.methodLink RX8 236 yX3_comersBy ∈ mGW := mgw_4 15 rfl rfl
theorem g_instanceMethod_yX3_comersBy : Cond.instanceMethod yX3_comersBy ∈ mGW := mgw_4 16 rfl rfl
theorem gs_yX3_comersBy : Cond.selects RX3 yX3_comersBy yX3_comersBy ∈ mGW := mgw_4 17 rfl rfl
theorem gm_RX8_239 : Cond.methodLink RX8 239 yX3_hoursBy ∈ mGW := mgw_4 20 rfl rfl
theorem g_instanceMethod_yX3_hoursBy : Cond.instanceMethod yX3_hoursBy ∈ mGW := mgw_4 21 rfl rfl
theorem gs_yX3_hoursBy : Cond.selects RX3 yX3_hoursBy yX3_hoursBy ∈ mGW := mgw_4 22 rfl rfl
theorem gm_RX8_242 : Cond.methodLink RX8 242 yX5_become ∈ mGW := mgw_4 28 rfl rfl
theorem g_instanceMethod_yX5_become : Cond.instanceMethod yX5_become ∈ mGW := mgw_4 29 rfl rfl
theorem gs_yX5_become : Cond.selects RX5 yX5_become yX5_become ∈ mGW := mgw_4 30 rfl rfl
theorem gm_RX8_246 : Cond.methodLink RX8 246 yX4_item ∈ mGW := mgw_3 219 rfl rfl
theorem g_instanceMethod_yX4_item : Cond.instanceMethod yX4_item ∈ mGW := mgw_3 220 rfl rfl
theorem gs_yX4_item : Cond.selects RX4 yX4_item yX4_item ∈ mGW := mgw_3 221 rfl rfl
theorem gm_RX8_249 : Cond.methodLink RX8 249 yX8_drawnTo ∈ mGW := mgw_4 37 rfl rfl
theorem g_instanceMethod_yX8_drawnTo : Cond.instanceMethod yX8_drawnTo ∈ mGW := mgw_4 39 rfl rfl
theorem gs_yX8_drawnTo : Cond.selects RX8 yX8_drawnTo yX8_drawnTo ∈ mGW := mgw_s (List.mem_of_getElem? (i := 27) rfl) rfl
theorem gj_RX8_252 : Cond.constantLong RX8 252 (-4611686018427387904) ∈ mGW := mgw_4 46 rfl rfl
theorem gm_RX8_254 : Cond.methodLink RX8 254 yX8_commonMeasure ∈ mGW := mgw_4 47 rfl rfl
theorem g_static_yX8_commonMeasure : Cond.static yX8_commonMeasure ∈ mGW := mgw_4 48 rfl rfl
theorem gf_RX8_257 : Cond.fieldLink RX8 257 RX8 "hasImage" "Z" ∈ mGW := mgw_2 138 rfl rfl
theorem gm_RX8_261 : Cond.methodLink RX8 261 yX5_muddyPairs ∈ mGW := mgw_4 62 rfl rfl
theorem g_instanceMethod_yX5_muddyPairs : Cond.instanceMethod yX5_muddyPairs ∈ mGW := mgw_4 63 rfl rfl
theorem gs_yX5_muddyPairs : Cond.selects RX5 yX5_muddyPairs yX5_muddyPairs ∈ mGW := mgw_4 64 rfl rfl
theorem gm_RX8_264 : Cond.methodLink RX8 264 yX5_allDebts ∈ mGW := mgw_4 67 rfl rfl
theorem g_instanceMethod_yX5_allDebts : Cond.instanceMethod yX5_allDebts ∈ mGW := mgw_4 68 rfl rfl
theorem gs_yX5_allDebts : Cond.selects RX5 yX5_allDebts yX5_allDebts ∈ mGW := mgw_4 69 rfl rfl
theorem gm_RX8_267 : Cond.methodLink RX8 267 yX4_become ∈ mGW := mgw_4 76 rfl rfl
theorem g_instanceMethod_yX4_become : Cond.instanceMethod yX4_become ∈ mGW := mgw_4 77 rfl rfl
theorem gs_yX4_become : Cond.selects RX4 yX4_become yX4_become ∈ mGW := mgw_4 78 rfl rfl
theorem gm_RX8_270 : Cond.methodLink RX8 270 yX4_put ∈ mGW := mgw_4 86 rfl rfl
theorem g_instanceMethod_yX4_put : Cond.instanceMethod yX4_put ∈ mGW := mgw_4 87 rfl rfl
theorem gs_yX4_put : Cond.selects RX4 yX4_put yX4_put ∈ mGW := mgw_4 88 rfl rfl
theorem gf_RX8_272 : Cond.fieldLink RX8 272 RX4 "sort" "I" ∈ mGW := mgw_1 199 rfl rfl
theorem gm_RX8_275 : Cond.methodLink RX8 275 yX4_hasRun ∈ mGW := mgw_4 94 rfl rfl
theorem g_instanceMethod_yX4_hasRun : Cond.instanceMethod yX4_hasRun ∈ mGW := mgw_4 95 rfl rfl
theorem gs_yX4_hasRun : Cond.selects RX4 yX4_hasRun yX4_hasRun ∈ mGW := mgw_4 96 rfl rfl
theorem gf_RX8_278 : Cond.fieldLink RX8 278 RX4 "items" "[I" ∈ mGW := mgw_1 197 rfl rfl
theorem gm_RX8_281 : Cond.methodLink RX8 281 arraycopyName ∈ mGW := mgw_4 98 rfl rfl
theorem gm_RX8_287 : Cond.methodLink RX8 287 yX2_isUnder ∈ mGW := mgw_4 107 rfl rfl
theorem g_static_yX2_isUnder : Cond.static yX2_isUnder ∈ mGW := mgw_4 108 rfl rfl
theorem gm_RX8_292 : Cond.methodLink RX8 292 yJ9_min_7cf53 ∈ mGW := mgw_2 28 rfl rfl
theorem gm_RX8_297 : Cond.methodLink RX8 297 yJ9_max_7cf53 ∈ mGW := mgw_2 29 rfl rfl
theorem gf_RX8_300 : Cond.fieldLink RX8 300 RX0 "wet" "I" ∈ mGW := mgw_1 113 rfl rfl
theorem gf_RX8_303 : Cond.fieldLink RX8 303 RX0 "rain" "I" ∈ mGW := mgw_1 115 rfl rfl
theorem gm_RX8_305 : Cond.methodLink RX8 305 yX3_forget ∈ mGW := mgw_3 89 rfl rfl
theorem gm_RX8_308 : Cond.methodLink RX8 308 yX3_seek ∈ mGW := mgw_3 97 rfl rfl
theorem gm_RX8_310 : Cond.methodLink RX8 310 yX0_wants ∈ mGW := mgw_3 160 rfl rfl
theorem gm_RX8_313 : Cond.methodLink RX8 313 yX0_crosses ∈ mGW := mgw_3 203 rfl rfl
theorem g_instanceMethod_yX0_crosses : Cond.instanceMethod yX0_crosses ∈ mGW := mgw_3 204 rfl rfl
theorem gs_yX0_crosses : Cond.selects RX0 yX0_crosses yX0_crosses ∈ mGW := mgw_3 205 rfl rfl
theorem gc_RX8_316 : Cond.constant RX8 316 1103515245 ∈ mGW := mgw_4 41 rfl rfl
theorem gm_RX9_7 : Cond.methodLink RX9 7 objectInit ∈ mGW := mgw_4 118 rfl rfl
theorem gf_RX9_13 : Cond.fieldLink RX9 13 RX9 "texts" "[I" ∈ mGW := mgw_4 123 rfl rfl
theorem gf_RX9_17 : Cond.fieldLink RX9 17 RX9 "textSize" "[I" ∈ mGW := mgw_4 124 rfl rfl
theorem gf_RX9_20 : Cond.fieldLink RX9 20 RX9 "tape" "[I" ∈ mGW := mgw_4 127 rfl rfl
theorem gf_RX9_23 : Cond.fieldLink RX9 23 RX9 "mudRow" "[I" ∈ mGW := mgw_4 129 rfl rfl
theorem gf_RX9_26 : Cond.fieldLink RX9 26 RX9 "kinds" "[I" ∈ mGW := mgw_4 130 rfl rfl
theorem gf_RX9_29 : Cond.fieldLink RX9 29 RX9 "numbers" "[I" ∈ mGW := mgw_4 131 rfl rfl
theorem gf_RX9_32 : Cond.fieldLink RX9 32 RX9 "yards" "[I" ∈ mGW := mgw_4 132 rfl rfl
theorem gf_RX9_35 : Cond.fieldLink RX9 35 RX9 "loads" "[I" ∈ mGW := mgw_4 133 rfl rfl
theorem gf_RX9_38 : Cond.fieldLink RX9 38 RX9 "stones" "[I" ∈ mGW := mgw_4 134 rfl rfl
theorem gf_RX9_41 : Cond.fieldLink RX9 41 RX9 "wets" "[I" ∈ mGW := mgw_4 135 rfl rfl
theorem gf_RX9_44 : Cond.fieldLink RX9 44 RX9 "owes" "[I" ∈ mGW := mgw_4 136 rfl rfl
theorem gf_RX9_47 : Cond.fieldLink RX9 47 RX9 "rains" "[I" ∈ mGW := mgw_4 139 rfl rfl
theorem gf_RX9_50 : Cond.fieldLink RX9 50 RX9 "soon" "[I" ∈ mGW := mgw_4 155 rfl rfl
theorem gf_RX9_53 : Cond.fieldLink RX9 53 RX9 "first" "[I" ∈ mGW := mgw_4 156 rfl rfl
theorem gf_RX9_56 : Cond.fieldLink RX9 56 RX9 "done" "[I" ∈ mGW := mgw_4 157 rfl rfl
theorem gf_RX9_59 : Cond.fieldLink RX9 59 RX9 "ways" "[I" ∈ mGW := mgw_4 160 rfl rfl
theorem gf_RX9_62 : Cond.fieldLink RX9 62 RX9 "steps" "[I" ∈ mGW := mgw_4 161 rfl rfl
theorem gf_RX9_65 : Cond.fieldLink RX9 65 RX9 "stonesWas" "[I" ∈ mGW := mgw_4 162 rfl rfl
theorem gf_RX9_68 : Cond.fieldLink RX9 68 RX9 "wetsWas" "[I" ∈ mGW := mgw_4 163 rfl rfl
theorem gf_RX9_71 : Cond.fieldLink RX9 71 RX9 "mudKept" "[I" ∈ mGW := mgw_4 165 rfl rfl
theorem gf_RX9_74 : Cond.fieldLink RX9 74 RX9 "onesKept" "[I" ∈ mGW := mgw_4 166 rfl rfl
theorem gf_RX9_77 : Cond.fieldLink RX9 77 RX9 "owesKept" "[I" ∈ mGW := mgw_4 167 rfl rfl
theorem gf_RX9_80 : Cond.fieldLink RX9 80 RX9 "rainsKept" "[I" ∈ mGW := mgw_4 168 rfl rfl
theorem gf_RX9_83 : Cond.fieldLink RX9 83 RX9 "peopleKept" "I" ∈ mGW := mgw_4 169 rfl rfl
theorem ga_boolean : Cond.arrayClass .boolean ∈ mGW := mgw_5 45 rfl rfl
theorem gf_RX9_86 : Cond.fieldLink RX9 86 RX9 "isThere" "[Z" ∈ mGW := mgw_4 172 rfl rfl
theorem gf_RX9_90 : Cond.fieldLink RX9 90 RX9 "sorts" "[I" ∈ mGW := mgw_4 173 rfl rfl
theorem gf_RX9_93 : Cond.fieldLink RX9 93 RX9 "sheetSize" "[I" ∈ mGW := mgw_4 174 rfl rfl
theorem gf_RX9_96 : Cond.fieldLink RX9 96 RX9 "items" "[I" ∈ mGW := mgw_4 175 rfl rfl
theorem gm_RX9_99 : Cond.methodLink RX9 99 yX9_spell ∈ mGW := mgw_4 119 rfl rfl
theorem g_instanceMethod_yX9_spell : Cond.instanceMethod yX9_spell ∈ mGW := mgw_4 121 rfl rfl
theorem gs_yX9_spell : Cond.selects RX9 yX9_spell yX9_spell ∈ mGW := mgw_s (List.mem_of_getElem? (i := 28) rfl) rfl
theorem gf_RX9_103 : Cond.fieldLink RX9 103 RX9 "textCount" "I" ∈ mGW := mgw_4 125 rfl rfl
theorem gj_RX9_106 : Cond.constantLong RX9 106 7 ∈ mGW := mgw_5 53 rfl rfl
theorem gm_RX9_108 : Cond.methodLink RX9 108 yX9_in ∈ mGW := mgw_5 54 rfl rfl
theorem g_static_yX9_in : Cond.static yX9_in ∈ mGW := mgw_5 55 rfl rfl
theorem gf_RX9_112 : Cond.fieldLink RX9 112 RX9 "people" "I" ∈ mGW := mgw_4 137 rfl rfl
theorem gm_RX9_115 : Cond.methodLink RX9 115 yX9_isStone ∈ mGW := mgw_5 50 rfl rfl
theorem g_static_yX9_isStone : Cond.static yX9_isStone ∈ mGW := mgw_5 51 rfl rfl
theorem gj_RX9_119 : Cond.constantLong RX9 119 99 ∈ mGW := mgw_5 57 rfl rfl
theorem gm_RX9_121 : Cond.methodLink RX9 121 yX9_muddy ∈ mGW := mgw_5 58 rfl rfl
theorem g_instanceMethod_yX9_muddy : Cond.instanceMethod yX9_muddy ∈ mGW := mgw_5 60 rfl rfl
theorem gs_yX9_muddy : Cond.selects RX9 yX9_muddy yX9_muddy ∈ mGW := mgw_s (List.mem_of_getElem? (i := 29) rfl) rfl
theorem gj_RX9_125 : Cond.constantLong RX9 125 5 ∈ mGW := mgw_5 70 rfl rfl
theorem gj_RX9_127 : Cond.constantLong RX9 127 999 ∈ mGW := mgw_5 71 rfl rfl
theorem gj_RX9_129 : Cond.constantLong RX9 129 9 ∈ mGW := mgw_5 72 rfl rfl
theorem gj_RX9_131 : Cond.constantLong RX9 131 6 ∈ mGW := mgw_5 77 rfl rfl
theorem gm_RX9_133 : Cond.methodLink RX9 133 yX9_isOne ∈ mGW := mgw_5 78 rfl rfl
theorem g_instanceMethod_yX9_isOne : Cond.instanceMethod yX9_isOne ∈ mGW := mgw_5 80 rfl rfl
theorem gs_yX9_isOne : Cond.selects RX9 yX9_isOne yX9_isOne ∈ mGW := mgw_s (List.mem_of_getElem? (i := 30) rfl) rfl
theorem gj_RX9_136 : Cond.constantLong RX9 136 23 ∈ mGW := mgw_5 82 rfl rfl
theorem gj_RX9_138 : Cond.constantLong RX9 138 9999 ∈ mGW := mgw_5 83 rfl rfl
theorem gf_RX9_140 : Cond.fieldLink RX9 140 RX9 "hour" "I" ∈ mGW := mgw_4 138 rfl rfl
theorem gm_RX9_143 : Cond.methodLink RX9 143 yX9_within ∈ mGW := mgw_6 73 rfl rfl
theorem g_static_yX9_within : Cond.static yX9_within ∈ mGW := mgw_6 74 rfl rfl
theorem gj_RX9_147 : Cond.constantLong RX9 147 8 ∈ mGW := mgw_5 88 rfl rfl
theorem gm_RX9_149 : Cond.methodLink RX9 149 yX9_reaches ∈ mGW := mgw_5 89 rfl rfl
theorem g_instanceMethod_yX9_reaches : Cond.instanceMethod yX9_reaches ∈ mGW := mgw_5 91 rfl rfl
theorem gs_yX9_reaches : Cond.selects RX9 yX9_reaches yX9_reaches ∈ mGW := mgw_s (List.mem_of_getElem? (i := 31) rfl) rfl
theorem gj_RX9_153 : Cond.constantLong RX9 153 255 ∈ mGW := mgw_5 97 rfl rfl
theorem gf_RX9_155 : Cond.fieldLink RX9 155 RX9 "taped" "I" ∈ mGW := mgw_4 128 rfl rfl
theorem gf_RX9_158 : Cond.fieldLink RX9 158 RX9 "size" "I" ∈ mGW := mgw_4 147 rfl rfl
theorem gf_RX9_161 : Cond.fieldLink RX9 161 RX9 "from" "I" ∈ mGW := mgw_4 146 rfl rfl
theorem gf_RX9_164 : Cond.fieldLink RX9 164 RX9 "here" "I" ∈ mGW := mgw_4 148 rfl rfl
theorem gm_RX9_167 : Cond.methodLink RX9 167 yX9_byteAt ∈ mGW := mgw_5 110 rfl rfl
theorem g_instanceMethod_yX9_byteAt : Cond.instanceMethod yX9_byteAt ∈ mGW := mgw_5 112 rfl rfl
theorem gs_yX9_byteAt : Cond.selects RX9 yX9_byteAt yX9_byteAt ∈ mGW := mgw_s (List.mem_of_getElem? (i := 34) rfl) rfl
theorem gf_RX9_171 : Cond.fieldLink RX9 171 RX9 "tokenAt" "I" ∈ mGW := mgw_4 150 rfl rfl
theorem gf_RX9_174 : Cond.fieldLink RX9 174 RX9 "token" "I" ∈ mGW := mgw_4 149 rfl rfl
theorem gj_RX9_177 : Cond.constantLong RX9 177 97 ∈ mGW := mgw_5 114 rfl rfl
theorem gj_RX9_179 : Cond.constantLong RX9 179 122 ∈ mGW := mgw_5 115 rfl rfl
theorem gj_RX9_181 : Cond.constantLong RX9 181 48 ∈ mGW := mgw_5 116 rfl rfl
theorem gj_RX9_183 : Cond.constantLong RX9 183 57 ∈ mGW := mgw_5 117 rfl rfl
theorem gf_RX9_185 : Cond.fieldLink RX9 185 RX9 "tokenWorth" "J" ∈ mGW := mgw_4 151 rfl rfl
theorem gj_RX9_189 : Cond.constantLong RX9 189 10 ∈ mGW := mgw_5 118 rfl rfl
theorem gf_RX9_191 : Cond.fieldLink RX9 191 RX9 "bad" "Z" ∈ mGW := mgw_4 153 rfl rfl
theorem gf_RX9_195 : Cond.fieldLink RX9 195 RX9 "fault" "I" ∈ mGW := mgw_4 154 rfl rfl
theorem gm_RX9_198 : Cond.methodLink RX9 198 yX9_isLetter ∈ mGW := mgw_5 123 rfl rfl
theorem g_instanceMethod_yX9_isLetter : Cond.instanceMethod yX9_isLetter ∈ mGW := mgw_5 125 rfl rfl
theorem gs_yX9_isLetter : Cond.selects RX9 yX9_isLetter yX9_isLetter ∈ mGW := mgw_s (List.mem_of_getElem? (i := 36) rfl) rfl
theorem gf_RX9_202 : Cond.fieldLink RX9 202 RX9 "open" "I" ∈ mGW := mgw_4 152 rfl rfl
theorem gm_RX9_205 : Cond.methodLink RX9 205 yX9_fail ∈ mGW := mgw_5 131 rfl rfl
theorem g_instanceMethod_yX9_fail : Cond.instanceMethod yX9_fail ∈ mGW := mgw_5 133 rfl rfl
theorem gs_yX9_fail : Cond.selects RX9 yX9_fail yX9_fail ∈ mGW := mgw_s (List.mem_of_getElem? (i := 38) rfl) rfl
theorem gm_RX9_208 : Cond.methodLink RX9 208 yX9_next ∈ mGW := mgw_5 106 rfl rfl
theorem g_instanceMethod_yX9_next : Cond.instanceMethod yX9_next ∈ mGW := mgw_5 108 rfl rfl
theorem gs_yX9_next : Cond.selects RX9 yX9_next yX9_next ∈ mGW := mgw_s (List.mem_of_getElem? (i := 33) rfl) rfl
theorem gm_RX9_211 : Cond.methodLink RX9 211 yX9_isWord ∈ mGW := mgw_5 119 rfl rfl
theorem g_instanceMethod_yX9_isWord : Cond.instanceMethod yX9_isWord ∈ mGW := mgw_5 121 rfl rfl
theorem gs_yX9_isWord : Cond.selects RX9 yX9_isWord yX9_isWord ∈ mGW := mgw_s (List.mem_of_getElem? (i := 35) rfl) rfl
theorem gf_RX9_215 : Cond.fieldLink RX9 215 RX9 "ofMud" "I" ∈ mGW := mgw_4 140 rfl rfl
theorem gf_RX9_218 : Cond.fieldLink RX9 218 RX9 "ofWet" "I" ∈ mGW := mgw_4 141 rfl rfl
theorem gf_RX9_221 : Cond.fieldLink RX9 221 RX9 "ofLoad" "I" ∈ mGW := mgw_4 142 rfl rfl
theorem gf_RX9_224 : Cond.fieldLink RX9 224 RX9 "ofRain" "I" ∈ mGW := mgw_4 143 rfl rfl
theorem gf_RX9_227 : Cond.fieldLink RX9 227 RX9 "ofFrom" "I" ∈ mGW := mgw_4 144 rfl rfl
theorem gf_RX9_230 : Cond.fieldLink RX9 230 RX9 "ofTo" "I" ∈ mGW := mgw_4 145 rfl rfl
theorem gm_RX9_233 : Cond.methodLink RX9 233 yX9_isSign ∈ mGW := mgw_5 183 rfl rfl
theorem g_instanceMethod_yX9_isSign : Cond.instanceMethod yX9_isSign ∈ mGW := mgw_5 185 rfl rfl
theorem gs_yX9_isSign : Cond.selects RX9 yX9_isSign yX9_isSign ∈ mGW := mgw_s (List.mem_of_getElem? (i := 51) rfl) rfl
theorem gm_RX9_236 : Cond.methodLink RX9 236 yX9_opens ∈ mGW := mgw_5 147 rfl rfl
theorem g_instanceMethod_yX9_opens : Cond.instanceMethod yX9_opens ∈ mGW := mgw_5 149 rfl rfl
theorem gs_yX9_opens : Cond.selects RX9 yX9_opens yX9_opens ∈ mGW := mgw_s (List.mem_of_getElem? (i := 42) rfl) rfl
theorem gm_RX9_240 : Cond.methodLink RX9 240 yX9_name ∈ mGW := mgw_5 187 rfl rfl
theorem g_instanceMethod_yX9_name : Cond.instanceMethod yX9_name ∈ mGW := mgw_5 189 rfl rfl
theorem gs_yX9_name : Cond.selects RX9 yX9_name yX9_name ∈ mGW := mgw_s (List.mem_of_getElem? (i := 52) rfl) rfl
theorem gm_RX9_244 : Cond.methodLink RX9 244 yX9_atom5 ∈ mGW := mgw_5 179 rfl rfl
theorem g_instanceMethod_yX9_atom5 : Cond.instanceMethod yX9_atom5 ∈ mGW := mgw_5 181 rfl rfl
theorem gs_yX9_atom5 : Cond.selects RX9 yX9_atom5 yX9_atom5 ∈ mGW := mgw_s (List.mem_of_getElem? (i := 50) rfl) rfl
theorem gm_RX9_247 : Cond.methodLink RX9 247 yX9_term5 ∈ mGW := mgw_5 175 rfl rfl
theorem g_instanceMethod_yX9_term5 : Cond.instanceMethod yX9_term5 ∈ mGW := mgw_5 177 rfl rfl
theorem gs_yX9_term5 : Cond.selects RX9 yX9_term5 yX9_term5 ∈ mGW := mgw_s (List.mem_of_getElem? (i := 49) rfl) rfl
theorem gj_RX9_250 : Cond.constantLong RX9 250 43 ∈ mGW := mgw_5 191 rfl rfl
theorem gm_RX9_252 : Cond.methodLink RX9 252 yX9_added5 ∈ mGW := mgw_5 171 rfl rfl
theorem g_instanceMethod_yX9_added5 : Cond.instanceMethod yX9_added5 ∈ mGW := mgw_5 173 rfl rfl
theorem gs_yX9_added5 : Cond.selects RX9 yX9_added5 yX9_added5 ∈ mGW := mgw_s (List.mem_of_getElem? (i := 48) rfl) rfl
theorem gj_RX9_255 : Cond.constantLong RX9 255 60 ∈ mGW := mgw_5 192 rfl rfl
theorem gm_RX9_257 : Cond.methodLink RX9 257 yX9_not5 ∈ mGW := mgw_5 167 rfl rfl
theorem g_instanceMethod_yX9_not5 : Cond.instanceMethod yX9_not5 ∈ mGW := mgw_5 169 rfl rfl
theorem gs_yX9_not5 : Cond.selects RX9 yX9_not5 yX9_not5 ∈ mGW := mgw_s (List.mem_of_getElem? (i := 47) rfl) rfl
theorem gm_RX9_260 : Cond.methodLink RX9 260 yX9_both5 ∈ mGW := mgw_5 209 rfl rfl
theorem g_instanceMethod_yX9_both5 : Cond.instanceMethod yX9_both5 ∈ mGW := mgw_5 211 rfl rfl
theorem gs_yX9_both5 : Cond.selects RX9 yX9_both5 yX9_both5 ∈ mGW := mgw_s (List.mem_of_getElem? (i := 57) rfl) rfl
theorem gm_RX9_263 : Cond.methodLink RX9 263 yX9_either5 ∈ mGW := mgw_5 205 rfl rfl
theorem g_instanceMethod_yX9_either5 : Cond.instanceMethod yX9_either5 ∈ mGW := mgw_5 207 rfl rfl
theorem gs_yX9_either5 : Cond.selects RX9 yX9_either5 yX9_either5 ∈ mGW := mgw_s (List.mem_of_getElem? (i := 56) rfl) rfl
theorem gm_RX9_266 : Cond.methodLink RX9 266 yX9_atom4 ∈ mGW := mgw_5 201 rfl rfl
theorem g_instanceMethod_yX9_atom4 : Cond.instanceMethod yX9_atom4 ∈ mGW := mgw_5 203 rfl rfl
theorem gs_yX9_atom4 : Cond.selects RX9 yX9_atom4 yX9_atom4 ∈ mGW := mgw_s (List.mem_of_getElem? (i := 55) rfl) rfl
theorem gm_RX9_269 : Cond.methodLink RX9 269 yX9_term4 ∈ mGW := mgw_5 197 rfl rfl
theorem g_instanceMethod_yX9_term4 : Cond.instanceMethod yX9_term4 ∈ mGW := mgw_5 199 rfl rfl
theorem gs_yX9_term4 : Cond.selects RX9 yX9_term4 yX9_term4 ∈ mGW := mgw_s (List.mem_of_getElem? (i := 54) rfl) rfl
theorem gm_RX9_272 : Cond.methodLink RX9 272 yX9_added4 ∈ mGW := mgw_5 193 rfl rfl
theorem g_instanceMethod_yX9_added4 : Cond.instanceMethod yX9_added4 ∈ mGW := mgw_5 195 rfl rfl
theorem gs_yX9_added4 : Cond.selects RX9 yX9_added4 yX9_added4 ∈ mGW := mgw_s (List.mem_of_getElem? (i := 53) rfl) rfl
theorem gm_RX9_275 : Cond.methodLink RX9 275 yX9_not4 ∈ mGW := mgw_5 163 rfl rfl
theorem g_instanceMethod_yX9_not4 : Cond.instanceMethod yX9_not4 ∈ mGW := mgw_5 165 rfl rfl
theorem gs_yX9_not4 : Cond.selects RX9 yX9_not4 yX9_not4 ∈ mGW := mgw_s (List.mem_of_getElem? (i := 46) rfl) rfl
theorem gm_RX9_278 : Cond.methodLink RX9 278 yX9_both4 ∈ mGW := mgw_5 229 rfl rfl
theorem g_instanceMethod_yX9_both4 : Cond.instanceMethod yX9_both4 ∈ mGW := mgw_5 231 rfl rfl
theorem gs_yX9_both4 : Cond.selects RX9 yX9_both4 yX9_both4 ∈ mGW := mgw_s (List.mem_of_getElem? (i := 62) rfl) rfl
theorem gm_RX9_281 : Cond.methodLink RX9 281 yX9_either4 ∈ mGW := mgw_5 225 rfl rfl
theorem g_instanceMethod_yX9_either4 : Cond.instanceMethod yX9_either4 ∈ mGW := mgw_5 227 rfl rfl
theorem gs_yX9_either4 : Cond.selects RX9 yX9_either4 yX9_either4 ∈ mGW := mgw_s (List.mem_of_getElem? (i := 61) rfl) rfl
theorem gm_RX9_284 : Cond.methodLink RX9 284 yX9_atom3 ∈ mGW := mgw_5 221 rfl rfl
theorem g_instanceMethod_yX9_atom3 : Cond.instanceMethod yX9_atom3 ∈ mGW := mgw_5 223 rfl rfl
theorem gs_yX9_atom3 : Cond.selects RX9 yX9_atom3 yX9_atom3 ∈ mGW := mgw_s (List.mem_of_getElem? (i := 60) rfl) rfl
theorem gm_RX9_287 : Cond.methodLink RX9 287 yX9_term3 ∈ mGW := mgw_5 217 rfl rfl
theorem g_instanceMethod_yX9_term3 : Cond.instanceMethod yX9_term3 ∈ mGW := mgw_5 219 rfl rfl
theorem gs_yX9_term3 : Cond.selects RX9 yX9_term3 yX9_term3 ∈ mGW := mgw_s (List.mem_of_getElem? (i := 59) rfl) rfl
theorem gm_RX9_290 : Cond.methodLink RX9 290 yX9_added3 ∈ mGW := mgw_5 213 rfl rfl
theorem g_instanceMethod_yX9_added3 : Cond.instanceMethod yX9_added3 ∈ mGW := mgw_5 215 rfl rfl
theorem gs_yX9_added3 : Cond.selects RX9 yX9_added3 yX9_added3 ∈ mGW := mgw_s (List.mem_of_getElem? (i := 58) rfl) rfl
theorem gm_RX9_293 : Cond.methodLink RX9 293 yX9_not3 ∈ mGW := mgw_5 159 rfl rfl
theorem g_instanceMethod_yX9_not3 : Cond.instanceMethod yX9_not3 ∈ mGW := mgw_5 161 rfl rfl
theorem gs_yX9_not3 : Cond.selects RX9 yX9_not3 yX9_not3 ∈ mGW := mgw_s (List.mem_of_getElem? (i := 45) rfl) rfl
theorem gm_RX9_296 : Cond.methodLink RX9 296 yX9_both3 ∈ mGW := mgw_6 9 rfl rfl
theorem g_instanceMethod_yX9_both3 : Cond.instanceMethod yX9_both3 ∈ mGW := mgw_6 11 rfl rfl
theorem gs_yX9_both3 : Cond.selects RX9 yX9_both3 yX9_both3 ∈ mGW := mgw_s (List.mem_of_getElem? (i := 67) rfl) rfl
theorem gm_RX9_299 : Cond.methodLink RX9 299 yX9_either3 ∈ mGW := mgw_6 5 rfl rfl
theorem g_instanceMethod_yX9_either3 : Cond.instanceMethod yX9_either3 ∈ mGW := mgw_6 7 rfl rfl
theorem gs_yX9_either3 : Cond.selects RX9 yX9_either3 yX9_either3 ∈ mGW := mgw_s (List.mem_of_getElem? (i := 66) rfl) rfl
theorem gm_RX9_302 : Cond.methodLink RX9 302 yX9_atom2 ∈ mGW := mgw_6 1 rfl rfl
theorem g_instanceMethod_yX9_atom2 : Cond.instanceMethod yX9_atom2 ∈ mGW := mgw_6 3 rfl rfl
theorem gs_yX9_atom2 : Cond.selects RX9 yX9_atom2 yX9_atom2 ∈ mGW := mgw_s (List.mem_of_getElem? (i := 65) rfl) rfl
theorem gm_RX9_305 : Cond.methodLink RX9 305 yX9_term2 ∈ mGW := mgw_5 237 rfl rfl
theorem g_instanceMethod_yX9_term2 : Cond.instanceMethod yX9_term2 ∈ mGW := mgw_5 239 rfl rfl
theorem gs_yX9_term2 : Cond.selects RX9 yX9_term2 yX9_term2 ∈ mGW := mgw_s (List.mem_of_getElem? (i := 64) rfl) rfl
theorem gm_RX9_308 : Cond.methodLink RX9 308 yX9_added2 ∈ mGW := mgw_5 233 rfl rfl
theorem g_instanceMethod_yX9_added2 : Cond.instanceMethod yX9_added2 ∈ mGW := mgw_5 235 rfl rfl
theorem gs_yX9_added2 : Cond.selects RX9 yX9_added2 yX9_added2 ∈ mGW := mgw_s (List.mem_of_getElem? (i := 63) rfl) rfl
theorem gm_RX9_311 : Cond.methodLink RX9 311 yX9_not2 ∈ mGW := mgw_5 155 rfl rfl
theorem g_instanceMethod_yX9_not2 : Cond.instanceMethod yX9_not2 ∈ mGW := mgw_5 157 rfl rfl
theorem gs_yX9_not2 : Cond.selects RX9 yX9_not2 yX9_not2 ∈ mGW := mgw_s (List.mem_of_getElem? (i := 44) rfl) rfl
theorem gm_RX9_314 : Cond.methodLink RX9 314 yX9_both2 ∈ mGW := mgw_6 29 rfl rfl
theorem g_instanceMethod_yX9_both2 : Cond.instanceMethod yX9_both2 ∈ mGW := mgw_6 31 rfl rfl
theorem gs_yX9_both2 : Cond.selects RX9 yX9_both2 yX9_both2 ∈ mGW := mgw_s (List.mem_of_getElem? (i := 72) rfl) rfl
theorem gm_RX9_317 : Cond.methodLink RX9 317 yX9_either2 ∈ mGW := mgw_6 25 rfl rfl
theorem g_instanceMethod_yX9_either2 : Cond.instanceMethod yX9_either2 ∈ mGW := mgw_6 27 rfl rfl
theorem gs_yX9_either2 : Cond.selects RX9 yX9_either2 yX9_either2 ∈ mGW := mgw_s (List.mem_of_getElem? (i := 71) rfl) rfl
theorem gm_RX9_320 : Cond.methodLink RX9 320 yX9_atom1 ∈ mGW := mgw_6 21 rfl rfl
theorem g_instanceMethod_yX9_atom1 : Cond.instanceMethod yX9_atom1 ∈ mGW := mgw_6 23 rfl rfl
theorem gs_yX9_atom1 : Cond.selects RX9 yX9_atom1 yX9_atom1 ∈ mGW := mgw_s (List.mem_of_getElem? (i := 70) rfl) rfl
theorem gm_RX9_323 : Cond.methodLink RX9 323 yX9_term1 ∈ mGW := mgw_6 17 rfl rfl
theorem g_instanceMethod_yX9_term1 : Cond.instanceMethod yX9_term1 ∈ mGW := mgw_6 19 rfl rfl
theorem gs_yX9_term1 : Cond.selects RX9 yX9_term1 yX9_term1 ∈ mGW := mgw_s (List.mem_of_getElem? (i := 69) rfl) rfl
theorem gm_RX9_326 : Cond.methodLink RX9 326 yX9_added1 ∈ mGW := mgw_6 13 rfl rfl
theorem g_instanceMethod_yX9_added1 : Cond.instanceMethod yX9_added1 ∈ mGW := mgw_6 15 rfl rfl
theorem gs_yX9_added1 : Cond.selects RX9 yX9_added1 yX9_added1 ∈ mGW := mgw_s (List.mem_of_getElem? (i := 68) rfl) rfl
theorem gm_RX9_329 : Cond.methodLink RX9 329 yX9_not1 ∈ mGW := mgw_5 151 rfl rfl
theorem g_instanceMethod_yX9_not1 : Cond.instanceMethod yX9_not1 ∈ mGW := mgw_5 153 rfl rfl
theorem gs_yX9_not1 : Cond.selects RX9 yX9_not1 yX9_not1 ∈ mGW := mgw_s (List.mem_of_getElem? (i := 43) rfl) rfl
theorem gm_RX9_332 : Cond.methodLink RX9 332 yX9_both1 ∈ mGW := mgw_6 49 rfl rfl
theorem g_instanceMethod_yX9_both1 : Cond.instanceMethod yX9_both1 ∈ mGW := mgw_6 51 rfl rfl
theorem gs_yX9_both1 : Cond.selects RX9 yX9_both1 yX9_both1 ∈ mGW := mgw_s (List.mem_of_getElem? (i := 77) rfl) rfl
theorem gm_RX9_335 : Cond.methodLink RX9 335 yX9_either1 ∈ mGW := mgw_6 45 rfl rfl
theorem g_instanceMethod_yX9_either1 : Cond.instanceMethod yX9_either1 ∈ mGW := mgw_6 47 rfl rfl
theorem gs_yX9_either1 : Cond.selects RX9 yX9_either1 yX9_either1 ∈ mGW := mgw_s (List.mem_of_getElem? (i := 76) rfl) rfl
theorem gm_RX9_338 : Cond.methodLink RX9 338 yX9_atom0 ∈ mGW := mgw_6 41 rfl rfl
theorem g_instanceMethod_yX9_atom0 : Cond.instanceMethod yX9_atom0 ∈ mGW := mgw_6 43 rfl rfl
theorem gs_yX9_atom0 : Cond.selects RX9 yX9_atom0 yX9_atom0 ∈ mGW := mgw_s (List.mem_of_getElem? (i := 75) rfl) rfl
theorem gm_RX9_341 : Cond.methodLink RX9 341 yX9_term0 ∈ mGW := mgw_6 37 rfl rfl
theorem g_instanceMethod_yX9_term0 : Cond.instanceMethod yX9_term0 ∈ mGW := mgw_6 39 rfl rfl
theorem gs_yX9_term0 : Cond.selects RX9 yX9_term0 yX9_term0 ∈ mGW := mgw_s (List.mem_of_getElem? (i := 74) rfl) rfl
theorem gm_RX9_344 : Cond.methodLink RX9 344 yX9_added0 ∈ mGW := mgw_6 33 rfl rfl
theorem g_instanceMethod_yX9_added0 : Cond.instanceMethod yX9_added0 ∈ mGW := mgw_6 35 rfl rfl
theorem gs_yX9_added0 : Cond.selects RX9 yX9_added0 yX9_added0 ∈ mGW := mgw_s (List.mem_of_getElem? (i := 73) rfl) rfl
theorem gm_RX9_347 : Cond.methodLink RX9 347 yX9_not0 ∈ mGW := mgw_5 143 rfl rfl
theorem g_instanceMethod_yX9_not0 : Cond.instanceMethod yX9_not0 ∈ mGW := mgw_5 145 rfl rfl
theorem gs_yX9_not0 : Cond.selects RX9 yX9_not0 yX9_not0 ∈ mGW := mgw_s (List.mem_of_getElem? (i := 41) rfl) rfl
theorem gm_RX9_350 : Cond.methodLink RX9 350 yX9_both0 ∈ mGW := mgw_5 139 rfl rfl
theorem g_instanceMethod_yX9_both0 : Cond.instanceMethod yX9_both0 ∈ mGW := mgw_5 141 rfl rfl
theorem gs_yX9_both0 : Cond.selects RX9 yX9_both0 yX9_both0 ∈ mGW := mgw_s (List.mem_of_getElem? (i := 40) rfl) rfl
theorem gm_RX9_353 : Cond.methodLink RX9 353 yX9_either0 ∈ mGW := mgw_5 135 rfl rfl
theorem g_instanceMethod_yX9_either0 : Cond.instanceMethod yX9_either0 ∈ mGW := mgw_5 137 rfl rfl
theorem gs_yX9_either0 : Cond.selects RX9 yX9_either0 yX9_either0 ∈ mGW := mgw_s (List.mem_of_getElem? (i := 39) rfl) rfl
theorem gm_RX9_356 : Cond.methodLink RX9 356 yX9_part ∈ mGW := mgw_5 127 rfl rfl
theorem g_instanceMethod_yX9_part : Cond.instanceMethod yX9_part ∈ mGW := mgw_5 129 rfl rfl
theorem gs_yX9_part : Cond.selects RX9 yX9_part yX9_part ∈ mGW := mgw_s (List.mem_of_getElem? (i := 37) rfl) rfl
theorem gm_RX9_360 : Cond.methodLink RX9 360 yX9_read ∈ mGW := mgw_5 102 rfl rfl
theorem g_instanceMethod_yX9_read : Cond.instanceMethod yX9_read ∈ mGW := mgw_5 104 rfl rfl
theorem gs_yX9_read : Cond.selects RX9 yX9_read yX9_read ∈ mGW := mgw_s (List.mem_of_getElem? (i := 32) rfl) rfl
theorem gf_RX9_363 : Cond.fieldLink RX9 363 RX9 "rule" "I" ∈ mGW := mgw_4 126 rfl rfl
theorem gm_RX9_366 : Cond.methodLink RX9 366 yX9_says ∈ mGW := mgw_6 69 rfl rfl
theorem g_instanceMethod_yX9_says : Cond.instanceMethod yX9_says ∈ mGW := mgw_6 71 rfl rfl
theorem gs_yX9_says : Cond.selects RX9 yX9_says yX9_says ∈ mGW := mgw_s (List.mem_of_getElem? (i := 80) rfl) rfl
theorem gm_RX9_370 : Cond.methodLink RX9 370 yX9_lasts ∈ mGW := mgw_6 80 rfl rfl
theorem g_instanceMethod_yX9_lasts : Cond.instanceMethod yX9_lasts ∈ mGW := mgw_6 82 rfl rfl
theorem gs_yX9_lasts : Cond.selects RX9 yX9_lasts yX9_lasts ∈ mGW := mgw_s (List.mem_of_getElem? (i := 82) rfl) rfl
theorem gm_RX9_373 : Cond.methodLink RX9 373 yX9_rainAt ∈ mGW := mgw_6 61 rfl rfl
theorem g_instanceMethod_yX9_rainAt : Cond.instanceMethod yX9_rainAt ∈ mGW := mgw_6 63 rfl rfl
theorem gs_yX9_rainAt : Cond.selects RX9 yX9_rainAt yX9_rainAt ∈ mGW := mgw_s (List.mem_of_getElem? (i := 78) rfl) rfl
theorem gm_RX9_376 : Cond.methodLink RX9 376 yX9_canGo ∈ mGW := mgw_6 65 rfl rfl
theorem g_instanceMethod_yX9_canGo : Cond.instanceMethod yX9_canGo ∈ mGW := mgw_6 67 rfl rfl
theorem gs_yX9_canGo : Cond.selects RX9 yX9_canGo yX9_canGo ∈ mGW := mgw_s (List.mem_of_getElem? (i := 79) rfl) rfl
theorem gm_RX9_380 : Cond.methodLink RX9 380 yX9_hoursOf ∈ mGW := mgw_6 76 rfl rfl
theorem g_instanceMethod_yX9_hoursOf : Cond.instanceMethod yX9_hoursOf ∈ mGW := mgw_6 78 rfl rfl
theorem gs_yX9_hoursOf : Cond.selects RX9 yX9_hoursOf yX9_hoursOf ∈ mGW := mgw_s (List.mem_of_getElem? (i := 81) rfl) rfl
theorem gm_RX9_384 : Cond.methodLink RX9 384 yX9_soaks ∈ mGW := mgw_6 92 rfl rfl
theorem g_instanceMethod_yX9_soaks : Cond.instanceMethod yX9_soaks ∈ mGW := mgw_6 94 rfl rfl
theorem gs_yX9_soaks : Cond.selects RX9 yX9_soaks yX9_soaks ∈ mGW := mgw_s (List.mem_of_getElem? (i := 84) rfl) rfl
theorem gm_RX9_387 : Cond.methodLink RX9 387 yX9_goes ∈ mGW := mgw_6 88 rfl rfl
theorem g_instanceMethod_yX9_goes : Cond.instanceMethod yX9_goes ∈ mGW := mgw_6 90 rfl rfl
theorem gs_yX9_goes : Cond.selects RX9 yX9_goes yX9_goes ∈ mGW := mgw_s (List.mem_of_getElem? (i := 83) rfl) rfl
theorem gc_RX9_390 : Cond.constant RX9 390 99999999 ∈ mGW := mgw_6 104 rfl rfl
theorem gm_RX9_391 : Cond.methodLink RX9 391 yX9_leaves ∈ mGW := mgw_6 105 rfl rfl
theorem g_instanceMethod_yX9_leaves : Cond.instanceMethod yX9_leaves ∈ mGW := mgw_6 107 rfl rfl
theorem gs_yX9_leaves : Cond.selects RX9 yX9_leaves yX9_leaves ∈ mGW := mgw_s (List.mem_of_getElem? (i := 86) rfl) rfl
theorem gf_RX9_394 : Cond.fieldLink RX9 394 RX9 "soonHours" "I" ∈ mGW := mgw_4 158 rfl rfl
theorem gf_RX9_397 : Cond.fieldLink RX9 397 RX9 "soonFirst" "I" ∈ mGW := mgw_4 159 rfl rfl
theorem gm_RX9_400 : Cond.methodLink RX9 400 yX9_seeks ∈ mGW := mgw_6 100 rfl rfl
theorem g_instanceMethod_yX9_seeks : Cond.instanceMethod yX9_seeks ∈ mGW := mgw_6 102 rfl rfl
theorem gs_yX9_seeks : Cond.selects RX9 yX9_seeks yX9_seeks ∈ mGW := mgw_s (List.mem_of_getElem? (i := 85) rfl) rfl
theorem gm_RX9_403 : Cond.methodLink RX9 403 yX9_takesRing ∈ mGW := mgw_6 125 rfl rfl
theorem g_instanceMethod_yX9_takesRing : Cond.instanceMethod yX9_takesRing ∈ mGW := mgw_6 127 rfl rfl
theorem gs_yX9_takesRing : Cond.selects RX9 yX9_takesRing yX9_takesRing ∈ mGW := mgw_s (List.mem_of_getElem? (i := 87) rfl) rfl
theorem gm_RX9_406 : Cond.methodLink RX9 406 yX9_isSheet ∈ mGW := mgw_6 137 rfl rfl
theorem g_static_yX9_isSheet : Cond.static yX9_isSheet ∈ mGW := mgw_6 138 rfl rfl
theorem gj_RX9_409 : Cond.constantLong RX9 409 2 ∈ mGW := mgw_6 149 rfl rfl
theorem gf_RX9_411 : Cond.fieldLink RX9 411 RX9 "hourWas" "I" ∈ mGW := mgw_4 164 rfl rfl
theorem gm_RX9_414 : Cond.methodLink RX9 414 yX9_laysAside ∈ mGW := mgw_6 154 rfl rfl
theorem g_instanceMethod_yX9_laysAside : Cond.instanceMethod yX9_laysAside ∈ mGW := mgw_6 156 rfl rfl
theorem gs_yX9_laysAside : Cond.selects RX9 yX9_laysAside yX9_laysAside ∈ mGW := mgw_s (List.mem_of_getElem? (i := 88) rfl) rfl
theorem gm_RX9_417 : Cond.methodLink RX9 417 yX9_laysBack ∈ mGW := mgw_6 158 rfl rfl
theorem g_instanceMethod_yX9_laysBack : Cond.instanceMethod yX9_laysBack ∈ mGW := mgw_6 160 rfl rfl
theorem gs_yX9_laysBack : Cond.selects RX9 yX9_laysBack yX9_laysBack ∈ mGW := mgw_s (List.mem_of_getElem? (i := 89) rfl) rfl
theorem gc_RX9_420 : Cond.constant RX9 420 1103515245 ∈ mGW := mgw_6 171 rfl rfl
theorem gj_RX9_421 : Cond.constantLong RX9 421 30 ∈ mGW := mgw_6 166 rfl rfl
theorem gm_RX9_423 : Cond.methodLink RX9 423 yX9_draws ∈ mGW := mgw_6 167 rfl rfl
theorem g_instanceMethod_yX9_draws : Cond.instanceMethod yX9_draws ∈ mGW := mgw_6 169 rfl rfl
theorem gs_yX9_draws : Cond.selects RX9 yX9_draws yX9_draws ∈ mGW := mgw_s (List.mem_of_getElem? (i := 90) rfl) rfl
theorem gj_RX9_426 : Cond.constantLong RX9 426 20 ∈ mGW := mgw_6 176 rfl rfl
theorem gj_RX9_428 : Cond.constantLong RX9 428 (-4611686018427387904) ∈ mGW := mgw_6 177 rfl rfl
theorem gf_RX9_430 : Cond.fieldLink RX9 430 RX9 "hourKept" "I" ∈ mGW := mgw_4 170 rfl rfl
theorem gf_RX9_433 : Cond.fieldLink RX9 433 RX9 "ruleKept" "I" ∈ mGW := mgw_4 171 rfl rfl
theorem gm_RX9_436 : Cond.methodLink RX9 436 yX9_told ∈ mGW := mgw_6 190 rfl rfl
theorem g_instanceMethod_yX9_told : Cond.instanceMethod yX9_told ∈ mGW := mgw_5 85 rfl rfl
theorem gs_yX9_told : Cond.selects RX9 yX9_told yX9_told ∈ mGW := mgw_5 86 rfl rfl
theorem gj_RX9_439 : Cond.constantLong RX9 439 3 ∈ mGW := mgw_6 140 rfl rfl
theorem gj_RX9_441 : Cond.constantLong RX9 441 (-1) ∈ mGW := mgw_6 195 rfl rfl
theorem gj_RX9_443 : Cond.constantLong RX9 443 13 ∈ mGW := mgw_6 208 rfl rfl
theorem gm_RX9_445 : Cond.methodLink RX9 445 yX9_mud ∈ mGW := mgw_6 209 rfl rfl
theorem g_instanceMethod_yX9_mud : Cond.instanceMethod yX9_mud ∈ mGW := mgw_5 47 rfl rfl
theorem gs_yX9_mud : Cond.selects RX9 yX9_mud yX9_mud ∈ mGW := mgw_5 48 rfl rfl
theorem gm_RX9_448 : Cond.methodLink RX9 448 yX9_over ∈ mGW := mgw_6 214 rfl rfl
theorem g_static_yX9_over : Cond.static yX9_over ∈ mGW := mgw_6 215 rfl rfl
theorem gf_RJ0_9 : Cond.fieldLink RJ0 9 RJ0 "value" "[B" ∈ mGW := mgw_6 217 rfl rfl
theorem gm_RJ0_335 : Cond.methodLink RJ0 335 yJ0_coder_7d493 ∈ mGW := mgw_1 214 rfl rfl
theorem g_instanceMethod_yJ0_coder_7d493 : Cond.instanceMethod yJ0_coder_7d493 ∈ mGW := mgw_1 215 rfl rfl
theorem gs_yJ0_coder_7d493 : Cond.selects RJ0 yJ0_coder_7d493 yJ0_coder_7d493 ∈ mGW := mgw_1 216 rfl rfl
theorem gm_RJ0_492 : Cond.methodLink RJ0 492 yJ0_isLatin1_aae02 ∈ mGW := mgw_1 224 rfl rfl
theorem g_instanceMethod_yJ0_isLatin1_aae02 : Cond.instanceMethod yJ0_isLatin1_aae02 ∈ mGW := mgw_1 225 rfl rfl
theorem gs_yJ0_isLatin1_aae02 : Cond.selects RJ0 yJ0_isLatin1_aae02 yJ0_isLatin1_aae02 ∈ mGW := mgw_1 226 rfl rfl
theorem gm_RJ0_495 : Cond.methodLink RJ0 495 yJ1_charAt_3b067 ∈ mGW := mgw_1 228 rfl rfl
theorem g_static_yJ1_charAt_3b067 : Cond.static yJ1_charAt_3b067 ∈ mGW := mgw_1 229 rfl rfl
theorem gm_RJ0_498 : Cond.methodLink RJ0 498 yJ2_charAt_3b067 ∈ mGW := mgw_1 239 rfl rfl
theorem g_static_yJ2_charAt_3b067 : Cond.static yJ2_charAt_3b067 ∈ mGW := mgw_2 0 rfl rfl
theorem gf_RJ0_38 : Cond.fieldLink RJ0 38 RJ0 "COMPACT_STRINGS" "Z" ∈ mGW := mgw_1 218 rfl rfl
theorem gf_RJ0_15 : Cond.fieldLink RJ0 15 RJ0 "coder" "B" ∈ mGW := mgw_6 218 rfl rfl
theorem gf_RJ0_1053 : Cond.fieldLink RJ0 1053 RJ3 "SIOOBE_FORMATTER" "Ljava/util/function/BiFunction;" ∈ mGW := mgw_1 234 rfl rfl
theorem gm_RJ0_1059 : Cond.methodLink RJ0 1059 yJ3_checkIndex_8e157 ∈ mGW := mgw_1 236 rfl rfl
theorem g_static_yJ3_checkIndex_8e157 : Cond.static yJ3_checkIndex_8e157 ∈ mGW := mgw_1 237 rfl rfl
theorem gm_RJ1_9 : Cond.methodLink RJ1 9 yJ0_checkIndex_df160 ∈ mGW := mgw_1 231 rfl rfl
theorem g_static_yJ0_checkIndex_df160 : Cond.static yJ0_checkIndex_df160 ∈ mGW := mgw_1 232 rfl rfl
theorem gm_RJ2_48 : Cond.methodLink RJ2 48 yJ2_length_9d52b ∈ mGW := mgw_2 5 rfl rfl
theorem g_static_yJ2_length_9d52b : Cond.static yJ2_length_9d52b ∈ mGW := mgw_2 6 rfl rfl
theorem gm_RJ2_67 : Cond.methodLink RJ2 67 yJ2_checkIndex_2214a ∈ mGW := mgw_2 2 rfl rfl
theorem g_static_yJ2_checkIndex_2214a : Cond.static yJ2_checkIndex_2214a ∈ mGW := mgw_2 3 rfl rfl
theorem gm_RJ2_71 : Cond.methodLink RJ2 71 yJ2_getChar_3b067 ∈ mGW := mgw_2 9 rfl rfl
theorem g_static_yJ2_getChar_3b067 : Cond.static yJ2_getChar_3b067 ∈ mGW := mgw_2 10 rfl rfl
theorem gm_RJ2_414 : Cond.methodLink RJ2 414 yJ0_checkIndex_df160 ∈ mGW := mgw_2 8 rfl rfl
theorem gm_RJ7_316 : Cond.methodLink RJ7 316 ⟨"[I", "clone", "()Ljava/lang/Object;"⟩ ∈ mGW := mgw_2 105 rfl rfl
theorem g_cl_same : Cond.sameMethod "[I" "java/lang/Object" "clone" "()Ljava/lang/Object;" ∈ mGW := mgw_2 106 rfl rfl
theorem g_cl_nat : Cond.native ⟨"java/lang/Object", "clone", "()Ljava/lang/Object;"⟩ ∈ mGW := mgw_2 107 rfl rfl
theorem g_cl_inst : Cond.instanceMethod ⟨"java/lang/Object", "clone", "()Ljava/lang/Object;"⟩ ∈ mGW := mgw_2 108 rfl rfl
theorem g_cl_sel : Cond.selects "[I" ⟨"[I", "clone", "()Ljava/lang/Object;"⟩ ⟨"java/lang/Object", "clone", "()Ljava/lang/Object;"⟩ ∈ mGW := mgw_2 109 rfl rfl
theorem gl_RJ7_317 : Cond.classLink RJ7 317 "[I" ∈ mGW := mgw_2 111 rfl rfl
theorem gm_RJ7_304 : Cond.methodLink RJ7 304 yJ9_min_7cf53 ∈ mGW := mgw_2 112 rfl rfl
theorem gm_RJ7_150 : Cond.methodLink RJ7 150 arraycopyName ∈ mGW := mgw_2 113 rfl rfl
theorem gl_RL_7 : Cond.classLink RL 7 RX8 ∈ mGW := mgw_1 18 rfl rfl
theorem gin_RX8 : Cond.instantiable RX8 13 ∈ mGW := mgw_1 19 rfl rfl
theorem gi_initialized_RX8 : Cond.initialized RX8 ∈ mGW := mgw_1 1 rfl rfl
theorem gm_RL_9 : Cond.methodLink RL 9 yX8_init ∈ mGW := mgw_1 20 rfl rfl
theorem g_instanceMethod_yX8_init : Cond.instanceMethod yX8_init ∈ mGW := mgw_1 21 rfl rfl
theorem gl_RL_10 : Cond.classLink RL 10 RX9 ∈ mGW := mgw_4 113 rfl rfl
theorem gin_RX9 : Cond.instantiable RX9 54 ∈ mGW := mgw_4 114 rfl rfl
theorem gi_initialized_RX9 : Cond.initialized RX9 ∈ mGW := mgw_1 16 rfl rfl
theorem gm_RL_12 : Cond.methodLink RL 12 yX9_init ∈ mGW := mgw_4 115 rfl rfl
theorem g_instanceMethod_yX9_init : Cond.instanceMethod yX9_init ∈ mGW := mgw_4 116 rfl rfl
theorem gm_RL_13 : Cond.methodLink RL 13 yX8_mud ∈ mGW := mgw_2 168 rfl rfl
theorem g_instanceMethod_yX8_mud : Cond.instanceMethod yX8_mud ∈ mGW := mgw_2 169 rfl rfl
theorem gs_yX8_mud : Cond.selects RX8 yX8_mud yX8_mud ∈ mGW := mgw_2 170 rfl rfl
theorem gm_RL_17 : Cond.methodLink RL 17 yX9_mud ∈ mGW := mgw_5 46 rfl rfl
theorem gm_RL_18 : Cond.methodLink RL 18 yX8_far ∈ mGW := mgw_2 195 rfl rfl
theorem gm_RL_22 : Cond.methodLink RL 22 yX9_far ∈ mGW := mgw_5 62 rfl rfl
theorem g_instanceMethod_yX9_far : Cond.instanceMethod yX9_far ∈ mGW := mgw_5 63 rfl rfl
theorem gs_yX9_far : Cond.selects RX9 yX9_far yX9_far ∈ mGW := mgw_5 64 rfl rfl
theorem gm_RL_23 : Cond.methodLink RL 23 yX8_one ∈ mGW := mgw_2 196 rfl rfl
theorem g_instanceMethod_yX8_one : Cond.instanceMethod yX8_one ∈ mGW := mgw_2 197 rfl rfl
theorem gs_yX8_one : Cond.selects RX8 yX8_one yX8_one ∈ mGW := mgw_2 198 rfl rfl
theorem gm_RL_26 : Cond.methodLink RL 26 yX9_one ∈ mGW := mgw_5 66 rfl rfl
theorem g_instanceMethod_yX9_one : Cond.instanceMethod yX9_one ∈ mGW := mgw_5 67 rfl rfl
theorem gs_yX9_one : Cond.selects RX9 yX9_one yX9_one ∈ mGW := mgw_5 68 rfl rfl
theorem gm_RL_27 : Cond.methodLink RL 27 yX8_set ∈ mGW := mgw_2 208 rfl rfl
theorem g_instanceMethod_yX8_set : Cond.instanceMethod yX8_set ∈ mGW := mgw_2 209 rfl rfl
theorem gs_yX8_set : Cond.selects RX8 yX8_set yX8_set ∈ mGW := mgw_2 210 rfl rfl
theorem gm_RL_30 : Cond.methodLink RL 30 yX9_set ∈ mGW := mgw_5 73 rfl rfl
theorem g_instanceMethod_yX9_set : Cond.instanceMethod yX9_set ∈ mGW := mgw_5 74 rfl rfl
theorem gs_yX9_set : Cond.selects RX9 yX9_set yX9_set ∈ mGW := mgw_5 75 rfl rfl
theorem gm_RL_31 : Cond.methodLink RL 31 yX8_told ∈ mGW := mgw_2 220 rfl rfl
theorem g_instanceMethod_yX8_told : Cond.instanceMethod yX8_told ∈ mGW := mgw_2 221 rfl rfl
theorem gs_yX8_told : Cond.selects RX8 yX8_told yX8_told ∈ mGW := mgw_2 222 rfl rfl
theorem gm_RL_34 : Cond.methodLink RL 34 yX9_told ∈ mGW := mgw_5 84 rfl rfl
theorem gm_RL_35 : Cond.methodLink RL 35 yX8_feed ∈ mGW := mgw_3 24 rfl rfl
theorem g_instanceMethod_yX8_feed : Cond.instanceMethod yX8_feed ∈ mGW := mgw_3 25 rfl rfl
theorem gs_yX8_feed : Cond.selects RX8 yX8_feed yX8_feed ∈ mGW := mgw_3 26 rfl rfl
theorem gm_RL_39 : Cond.methodLink RL 39 yX9_feed ∈ mGW := mgw_5 93 rfl rfl
theorem g_instanceMethod_yX9_feed : Cond.instanceMethod yX9_feed ∈ mGW := mgw_5 94 rfl rfl
theorem gs_yX9_feed : Cond.selects RX9 yX9_feed yX9_feed ∈ mGW := mgw_5 95 rfl rfl
theorem gm_RL_40 : Cond.methodLink RL 40 yX8_text ∈ mGW := mgw_3 28 rfl rfl
theorem g_instanceMethod_yX8_text : Cond.instanceMethod yX8_text ∈ mGW := mgw_3 29 rfl rfl
theorem gs_yX8_text : Cond.selects RX8 yX8_text yX8_text ∈ mGW := mgw_3 30 rfl rfl
theorem gm_RL_44 : Cond.methodLink RL 44 yX9_text ∈ mGW := mgw_5 98 rfl rfl
theorem g_instanceMethod_yX9_text : Cond.instanceMethod yX9_text ∈ mGW := mgw_5 99 rfl rfl
theorem gs_yX9_text : Cond.selects RX9 yX9_text yX9_text ∈ mGW := mgw_5 100 rfl rfl
theorem gm_RL_45 : Cond.methodLink RL 45 yX8_force ∈ mGW := mgw_3 32 rfl rfl
theorem g_instanceMethod_yX8_force : Cond.instanceMethod yX8_force ∈ mGW := mgw_3 33 rfl rfl
theorem gs_yX8_force : Cond.selects RX8 yX8_force yX8_force ∈ mGW := mgw_3 34 rfl rfl
theorem gm_RL_48 : Cond.methodLink RL 48 yX9_force ∈ mGW := mgw_6 53 rfl rfl
theorem g_instanceMethod_yX9_force : Cond.instanceMethod yX9_force ∈ mGW := mgw_6 54 rfl rfl
theorem gs_yX9_force : Cond.selects RX9 yX9_force yX9_force ∈ mGW := mgw_6 55 rfl rfl
theorem gm_RL_49 : Cond.methodLink RL 49 yX8_can ∈ mGW := mgw_3 36 rfl rfl
theorem g_instanceMethod_yX8_can : Cond.instanceMethod yX8_can ∈ mGW := mgw_3 37 rfl rfl
theorem gs_yX8_can : Cond.selects RX8 yX8_can yX8_can ∈ mGW := mgw_3 38 rfl rfl
theorem gm_RL_52 : Cond.methodLink RL 52 yX9_can ∈ mGW := mgw_6 57 rfl rfl
theorem g_instanceMethod_yX9_can : Cond.instanceMethod yX9_can ∈ mGW := mgw_6 58 rfl rfl
theorem gs_yX9_can : Cond.selects RX9 yX9_can yX9_can ∈ mGW := mgw_6 59 rfl rfl
theorem gm_RL_53 : Cond.methodLink RL 53 yX8_go ∈ mGW := mgw_3 64 rfl rfl
theorem g_instanceMethod_yX8_go : Cond.instanceMethod yX8_go ∈ mGW := mgw_3 65 rfl rfl
theorem gs_yX8_go : Cond.selects RX8 yX8_go yX8_go ∈ mGW := mgw_3 66 rfl rfl
theorem gm_RL_56 : Cond.methodLink RL 56 yX9_go ∈ mGW := mgw_6 84 rfl rfl
theorem g_instanceMethod_yX9_go : Cond.instanceMethod yX9_go ∈ mGW := mgw_6 85 rfl rfl
theorem gs_yX9_go : Cond.selects RX9 yX9_go yX9_go ∈ mGW := mgw_6 86 rfl rfl
theorem gm_RL_57 : Cond.methodLink RL 57 yX8_soonest ∈ mGW := mgw_3 80 rfl rfl
theorem g_instanceMethod_yX8_soonest : Cond.instanceMethod yX8_soonest ∈ mGW := mgw_3 81 rfl rfl
theorem gs_yX8_soonest : Cond.selects RX8 yX8_soonest yX8_soonest ∈ mGW := mgw_3 82 rfl rfl
theorem gm_RL_60 : Cond.methodLink RL 60 yX9_soonest ∈ mGW := mgw_6 96 rfl rfl
theorem g_instanceMethod_yX9_soonest : Cond.instanceMethod yX9_soonest ∈ mGW := mgw_6 97 rfl rfl
theorem gs_yX9_soonest : Cond.selects RX9 yX9_soonest yX9_soonest ∈ mGW := mgw_6 98 rfl rfl
theorem gm_RL_61 : Cond.methodLink RL 61 yX8_together ∈ mGW := mgw_3 144 rfl rfl
theorem g_instanceMethod_yX8_together : Cond.instanceMethod yX8_together ∈ mGW := mgw_3 145 rfl rfl
theorem gs_yX8_together : Cond.selects RX8 yX8_together yX8_together ∈ mGW := mgw_3 146 rfl rfl
theorem gm_RL_64 : Cond.methodLink RL 64 yX9_together ∈ mGW := mgw_6 109 rfl rfl
theorem g_instanceMethod_yX9_together : Cond.instanceMethod yX9_together ∈ mGW := mgw_6 110 rfl rfl
theorem gs_yX9_together : Cond.selects RX9 yX9_together yX9_together ∈ mGW := mgw_6 111 rfl rfl
theorem gm_RL_65 : Cond.methodLink RL 65 yX8_lend ∈ mGW := mgw_3 164 rfl rfl
theorem g_instanceMethod_yX8_lend : Cond.instanceMethod yX8_lend ∈ mGW := mgw_3 165 rfl rfl
theorem gs_yX8_lend : Cond.selects RX8 yX8_lend yX8_lend ∈ mGW := mgw_3 166 rfl rfl
theorem gm_RL_68 : Cond.methodLink RL 68 yX9_lend ∈ mGW := mgw_6 113 rfl rfl
theorem g_instanceMethod_yX9_lend : Cond.instanceMethod yX9_lend ∈ mGW := mgw_6 114 rfl rfl
theorem gs_yX9_lend : Cond.selects RX9 yX9_lend yX9_lend ∈ mGW := mgw_6 115 rfl rfl
theorem gm_RL_69 : Cond.methodLink RL 69 yX8_owed ∈ mGW := mgw_3 177 rfl rfl
theorem g_instanceMethod_yX8_owed : Cond.instanceMethod yX8_owed ∈ mGW := mgw_3 178 rfl rfl
theorem gs_yX8_owed : Cond.selects RX8 yX8_owed yX8_owed ∈ mGW := mgw_3 179 rfl rfl
theorem gm_RL_72 : Cond.methodLink RL 72 yX9_owed ∈ mGW := mgw_6 117 rfl rfl
theorem g_instanceMethod_yX9_owed : Cond.instanceMethod yX9_owed ∈ mGW := mgw_6 118 rfl rfl
theorem gs_yX9_owed : Cond.selects RX9 yX9_owed yX9_owed ∈ mGW := mgw_6 119 rfl rfl
theorem gm_RL_73 : Cond.methodLink RL 73 yX8_rings ∈ mGW := mgw_3 181 rfl rfl
theorem g_instanceMethod_yX8_rings : Cond.instanceMethod yX8_rings ∈ mGW := mgw_3 182 rfl rfl
theorem gs_yX8_rings : Cond.selects RX8 yX8_rings yX8_rings ∈ mGW := mgw_3 183 rfl rfl
theorem gm_RL_76 : Cond.methodLink RL 76 yX9_rings ∈ mGW := mgw_6 121 rfl rfl
theorem g_instanceMethod_yX9_rings : Cond.instanceMethod yX9_rings ∈ mGW := mgw_6 122 rfl rfl
theorem gs_yX9_rings : Cond.selects RX9 yX9_rings yX9_rings ∈ mGW := mgw_6 123 rfl rfl
theorem gm_RL_77 : Cond.methodLink RL 77 yX8_shaken ∈ mGW := mgw_3 195 rfl rfl
theorem g_instanceMethod_yX8_shaken : Cond.instanceMethod yX8_shaken ∈ mGW := mgw_3 196 rfl rfl
theorem gs_yX8_shaken : Cond.selects RX8 yX8_shaken yX8_shaken ∈ mGW := mgw_3 197 rfl rfl
theorem gm_RL_80 : Cond.methodLink RL 80 yX9_shaken ∈ mGW := mgw_6 129 rfl rfl
theorem g_instanceMethod_yX9_shaken : Cond.instanceMethod yX9_shaken ∈ mGW := mgw_6 130 rfl rfl
theorem gs_yX9_shaken : Cond.selects RX9 yX9_shaken yX9_shaken ∈ mGW := mgw_6 131 rfl rfl
theorem gm_RL_81 : Cond.methodLink RL 81 yX8_prints ∈ mGW := mgw_3 208 rfl rfl
theorem g_instanceMethod_yX8_prints : Cond.instanceMethod yX8_prints ∈ mGW := mgw_3 209 rfl rfl
theorem gs_yX8_prints : Cond.selects RX8 yX8_prints yX8_prints ∈ mGW := mgw_3 210 rfl rfl
theorem gm_RL_84 : Cond.methodLink RL 84 yX9_prints ∈ mGW := mgw_6 133 rfl rfl
theorem g_instanceMethod_yX9_prints : Cond.instanceMethod yX9_prints ∈ mGW := mgw_6 134 rfl rfl
theorem gs_yX9_prints : Cond.selects RX9 yX9_prints yX9_prints ∈ mGW := mgw_6 135 rfl rfl
theorem gm_RL_85 : Cond.methodLink RL 85 yX8_out ∈ mGW := mgw_3 228 rfl rfl
theorem g_instanceMethod_yX8_out : Cond.instanceMethod yX8_out ∈ mGW := mgw_3 229 rfl rfl
theorem gs_yX8_out : Cond.selects RX8 yX8_out yX8_out ∈ mGW := mgw_3 230 rfl rfl
theorem gm_RL_88 : Cond.methodLink RL 88 yX9_out ∈ mGW := mgw_6 141 rfl rfl
theorem g_instanceMethod_yX9_out : Cond.instanceMethod yX9_out ∈ mGW := mgw_6 142 rfl rfl
theorem gs_yX9_out : Cond.selects RX9 yX9_out yX9_out ∈ mGW := mgw_6 143 rfl rfl
theorem gm_RL_89 : Cond.methodLink RL 89 yX8_road ∈ mGW := mgw_3 237 rfl rfl
theorem g_instanceMethod_yX8_road : Cond.instanceMethod yX8_road ∈ mGW := mgw_3 238 rfl rfl
theorem gs_yX8_road : Cond.selects RX8 yX8_road yX8_road ∈ mGW := mgw_3 239 rfl rfl
theorem gm_RL_92 : Cond.methodLink RL 92 yX9_road ∈ mGW := mgw_6 145 rfl rfl
theorem g_instanceMethod_yX9_road : Cond.instanceMethod yX9_road ∈ mGW := mgw_6 146 rfl rfl
theorem gs_yX9_road : Cond.selects RX9 yX9_road yX9_road ∈ mGW := mgw_6 147 rfl rfl
theorem gm_RL_93 : Cond.methodLink RL 93 yX8_judge ∈ mGW := mgw_4 24 rfl rfl
theorem g_instanceMethod_yX8_judge : Cond.instanceMethod yX8_judge ∈ mGW := mgw_4 25 rfl rfl
theorem gs_yX8_judge : Cond.selects RX8 yX8_judge yX8_judge ∈ mGW := mgw_4 26 rfl rfl
theorem gm_RL_96 : Cond.methodLink RL 96 yX9_judge ∈ mGW := mgw_6 150 rfl rfl
theorem g_instanceMethod_yX9_judge : Cond.instanceMethod yX9_judge ∈ mGW := mgw_6 151 rfl rfl
theorem gs_yX9_judge : Cond.selects RX9 yX9_judge yX9_judge ∈ mGW := mgw_6 152 rfl rfl
theorem gm_RL_97 : Cond.methodLink RL 97 yX8_drawn ∈ mGW := mgw_4 33 rfl rfl
theorem g_instanceMethod_yX8_drawn : Cond.instanceMethod yX8_drawn ∈ mGW := mgw_4 34 rfl rfl
theorem gs_yX8_drawn : Cond.selects RX8 yX8_drawn yX8_drawn ∈ mGW := mgw_4 35 rfl rfl
theorem gm_RL_100 : Cond.methodLink RL 100 yX9_drawn ∈ mGW := mgw_6 162 rfl rfl
theorem g_instanceMethod_yX9_drawn : Cond.instanceMethod yX9_drawn ∈ mGW := mgw_6 163 rfl rfl
theorem gs_yX9_drawn : Cond.selects RX9 yX9_drawn yX9_drawn ∈ mGW := mgw_6 164 rfl rfl
theorem gm_RL_101 : Cond.methodLink RL 101 yX8_chance ∈ mGW := mgw_4 42 rfl rfl
theorem g_instanceMethod_yX8_chance : Cond.instanceMethod yX8_chance ∈ mGW := mgw_4 43 rfl rfl
theorem gs_yX8_chance : Cond.selects RX8 yX8_chance yX8_chance ∈ mGW := mgw_4 44 rfl rfl
theorem gm_RL_105 : Cond.methodLink RL 105 yX9_chance ∈ mGW := mgw_6 172 rfl rfl
theorem g_instanceMethod_yX9_chance : Cond.instanceMethod yX9_chance ∈ mGW := mgw_6 173 rfl rfl
theorem gs_yX9_chance : Cond.selects RX9 yX9_chance yX9_chance ∈ mGW := mgw_6 174 rfl rfl
theorem gm_RL_106 : Cond.methodLink RL 106 yX8_image ∈ mGW := mgw_4 50 rfl rfl
theorem g_instanceMethod_yX8_image : Cond.instanceMethod yX8_image ∈ mGW := mgw_4 51 rfl rfl
theorem gs_yX8_image : Cond.selects RX8 yX8_image yX8_image ∈ mGW := mgw_4 52 rfl rfl
theorem gm_RL_109 : Cond.methodLink RL 109 yX9_image ∈ mGW := mgw_6 178 rfl rfl
theorem g_instanceMethod_yX9_image : Cond.instanceMethod yX9_image ∈ mGW := mgw_6 179 rfl rfl
theorem gs_yX9_image : Cond.selects RX9 yX9_image yX9_image ∈ mGW := mgw_6 180 rfl rfl
theorem gm_RL_110 : Cond.methodLink RL 110 yX8_back ∈ mGW := mgw_4 54 rfl rfl
theorem g_instanceMethod_yX8_back : Cond.instanceMethod yX8_back ∈ mGW := mgw_4 55 rfl rfl
theorem gs_yX8_back : Cond.selects RX8 yX8_back yX8_back ∈ mGW := mgw_4 56 rfl rfl
theorem gm_RL_113 : Cond.methodLink RL 113 yX9_back ∈ mGW := mgw_6 182 rfl rfl
theorem g_instanceMethod_yX9_back : Cond.instanceMethod yX9_back ∈ mGW := mgw_6 183 rfl rfl
theorem gs_yX9_back : Cond.selects RX9 yX9_back yX9_back ∈ mGW := mgw_6 184 rfl rfl
theorem gm_RL_114 : Cond.methodLink RL 114 yX8_count ∈ mGW := mgw_4 58 rfl rfl
theorem g_instanceMethod_yX8_count : Cond.instanceMethod yX8_count ∈ mGW := mgw_4 59 rfl rfl
theorem gs_yX8_count : Cond.selects RX8 yX8_count yX8_count ∈ mGW := mgw_4 60 rfl rfl
theorem gm_RL_117 : Cond.methodLink RL 117 yX9_count ∈ mGW := mgw_6 186 rfl rfl
theorem g_instanceMethod_yX9_count : Cond.instanceMethod yX9_count ∈ mGW := mgw_6 187 rfl rfl
theorem gs_yX9_count : Cond.selects RX9 yX9_count yX9_count ∈ mGW := mgw_6 188 rfl rfl
theorem gm_RL_118 : Cond.methodLink RL 118 yX8_sheet ∈ mGW := mgw_4 72 rfl rfl
theorem g_instanceMethod_yX8_sheet : Cond.instanceMethod yX8_sheet ∈ mGW := mgw_4 73 rfl rfl
theorem gs_yX8_sheet : Cond.selects RX8 yX8_sheet yX8_sheet ∈ mGW := mgw_4 74 rfl rfl
theorem gm_RL_121 : Cond.methodLink RL 121 yX9_sheet ∈ mGW := mgw_6 191 rfl rfl
theorem g_instanceMethod_yX9_sheet : Cond.instanceMethod yX9_sheet ∈ mGW := mgw_6 192 rfl rfl
theorem gs_yX9_sheet : Cond.selects RX9 yX9_sheet yX9_sheet ∈ mGW := mgw_6 193 rfl rfl
theorem gm_RL_122 : Cond.methodLink RL 122 yX8_cell ∈ mGW := mgw_4 82 rfl rfl
theorem g_instanceMethod_yX8_cell : Cond.instanceMethod yX8_cell ∈ mGW := mgw_4 83 rfl rfl
theorem gs_yX8_cell : Cond.selects RX8 yX8_cell yX8_cell ∈ mGW := mgw_4 84 rfl rfl
theorem gm_RL_125 : Cond.methodLink RL 125 yX9_cell ∈ mGW := mgw_6 196 rfl rfl
theorem g_instanceMethod_yX9_cell : Cond.instanceMethod yX9_cell ∈ mGW := mgw_6 197 rfl rfl
theorem gs_yX9_cell : Cond.selects RX9 yX9_cell yX9_cell ∈ mGW := mgw_6 198 rfl rfl
theorem gm_RL_126 : Cond.methodLink RL 126 yX8_copy ∈ mGW := mgw_4 90 rfl rfl
theorem g_instanceMethod_yX8_copy : Cond.instanceMethod yX8_copy ∈ mGW := mgw_4 91 rfl rfl
theorem gs_yX8_copy : Cond.selects RX8 yX8_copy yX8_copy ∈ mGW := mgw_4 92 rfl rfl
theorem gm_RL_130 : Cond.methodLink RL 130 yX9_copy ∈ mGW := mgw_6 200 rfl rfl
theorem g_instanceMethod_yX9_copy : Cond.instanceMethod yX9_copy ∈ mGW := mgw_6 201 rfl rfl
theorem gs_yX9_copy : Cond.selects RX9 yX9_copy yX9_copy ∈ mGW := mgw_6 202 rfl rfl
theorem gm_RL_131 : Cond.methodLink RL 131 yX8_muds ∈ mGW := mgw_4 99 rfl rfl
theorem g_instanceMethod_yX8_muds : Cond.instanceMethod yX8_muds ∈ mGW := mgw_4 100 rfl rfl
theorem gs_yX8_muds : Cond.selects RX8 yX8_muds yX8_muds ∈ mGW := mgw_4 101 rfl rfl
theorem gm_RL_135 : Cond.methodLink RL 135 yX9_muds ∈ mGW := mgw_6 204 rfl rfl
theorem g_instanceMethod_yX9_muds : Cond.instanceMethod yX9_muds ∈ mGW := mgw_6 205 rfl rfl
theorem gs_yX9_muds : Cond.selects RX9 yX9_muds yX9_muds ∈ mGW := mgw_6 206 rfl rfl
theorem gm_RL_136 : Cond.methodLink RL 136 yX8_taken ∈ mGW := mgw_4 103 rfl rfl
theorem g_instanceMethod_yX8_taken : Cond.instanceMethod yX8_taken ∈ mGW := mgw_4 104 rfl rfl
theorem gs_yX8_taken : Cond.selects RX8 yX8_taken yX8_taken ∈ mGW := mgw_4 105 rfl rfl
theorem gm_RL_139 : Cond.methodLink RL 139 yX9_taken ∈ mGW := mgw_6 210 rfl rfl
theorem g_instanceMethod_yX9_taken : Cond.instanceMethod yX9_taken ∈ mGW := mgw_6 211 rfl rfl
theorem gs_yX9_taken : Cond.selects RX9 yX9_taken yX9_taken ∈ mGW := mgw_6 212 rfl rfl
theorem gi_initialized_RX2 : Cond.initialized RX2 ∈ mGW := mgw_1 17 rfl rfl
theorem gi_initialized_RJ9 : Cond.initialized RJ9 ∈ mGW := mgw_1 12 rfl rfl
theorem gi_initialized_RJ0 : Cond.initialized RJ0 ∈ mGW := mgw_1 8 rfl rfl
theorem gi_initialized_RJ1 : Cond.initialized RJ1 ∈ mGW := mgw_1 9 rfl rfl
theorem gi_initialized_RJ2 : Cond.initialized RJ2 ∈ mGW := mgw_1 11 rfl rfl
theorem gi_initialized_RJ7 : Cond.initialized RJ7 ∈ mGW := mgw_1 14 rfl rfl
theorem gi_initialized_RJ3 : Cond.initialized RJ3 ∈ mGW := mgw_1 10 rfl rfl
theorem mmf_0 : mMf 0 0 := ⟨(mgw_1 101 rfl rfl : Cond.code yX0_init cX0_init 1 none ∈ mGW), gi_initialized_RX0, ⟨by decide +kernel, by decide +kernel, by decide +kernel⟩, by decide⟩
theorem mmf_1 : mMf 1 3 := ⟨(mgw_2 231 rfl rfl : Cond.code yX0_be cX0_be 4 none ∈ mGW), gi_initialized_RX0, ⟨by decide +kernel, by decide +kernel, by decide +kernel⟩, by decide⟩
theorem mmf_2 : mMf 2 0 := ⟨(mgw_3 7 rfl rfl : Cond.code yX0_reaches cX0_reaches 1 (some FieldType.int) ∈ mGW), gi_initialized_RX0, ⟨by decide +kernel, by decide +kernel, by decide +kernel⟩, by decide⟩
theorem mmf_3 : mMf 3 3 := ⟨(mgw_3 163 rfl rfl : Cond.code yX0_wants cX0_wants 4 (some FieldType.int) ∈ mGW), gi_initialized_RX0, ⟨by decide +kernel, by decide +kernel, by decide +kernel⟩, by decide⟩
theorem mmf_4 : mMf 4 1 := ⟨(mgw_3 172 rfl rfl : Cond.code yX0_lends cX0_lends 2 (some FieldType.int) ∈ mGW), gi_initialized_RX0, ⟨by decide +kernel, by decide +kernel, by decide +kernel⟩, by decide⟩
theorem mmf_5 : mMf 5 3 := ⟨(mgw_3 206 rfl rfl : Cond.code yX0_crosses cX0_crosses 4 (some FieldType.boolean) ∈ mGW), gi_initialized_RX0, ⟨by decide +kernel, by decide +kernel, by decide +kernel⟩, by decide⟩
theorem mmf_6 : mMf 6 3 := ⟨(mgw_3 43 rfl rfl : Cond.code yX0_hours cX0_hours 4 (some FieldType.int) ∈ mGW), gi_initialized_RX0, ⟨by decide +kernel, by decide +kernel, by decide +kernel⟩, by decide⟩
theorem mmf_7 : mMf 7 0 := ⟨(mgw_3 75 rfl rfl : Cond.code yX0_soak cX0_soak 1 none ∈ mGW), gi_initialized_RX0, ⟨by decide +kernel, by decide +kernel, by decide +kernel⟩, by decide⟩
theorem mmf_8 : mMf 8 4 := ⟨(mgw_3 48 rfl rfl : Cond.code yX0_asked cX0_asked 5 (some FieldType.int) ∈ mGW), gi_initialized_RX0, ⟨by decide +kernel, by decide +kernel, by decide +kernel⟩, by decide⟩
theorem mmf_9 : mMf 9 0 := ⟨(mgw_1 67 rfl rfl : Cond.code yX1_init cX1_init 1 none ∈ mGW), gi_initialized_RX1, ⟨by decide +kernel, by decide +kernel, by decide +kernel⟩, by decide⟩
theorem mmf_10 : mMf 10 2 := ⟨(mgw_2 21 rfl rfl : Cond.code yX1_parse cX1_parse 4 (some FieldType.int) ∈ mGW), gi_initialized_RX1, ⟨by decide +kernel, by decide +kernel, by decide +kernel⟩, by decide⟩
theorem mmf_11 : mMf 11 0 := ⟨(mgw_2 99 rfl rfl : Cond.code yX1_newText cX1_newText 1 (some (FieldType.object "RolledUp$Text")) ∈ mGW), gi_initialized_RX1, ⟨by decide +kernel, by decide +kernel, by decide +kernel⟩, by decide⟩
theorem mmf_12 : mMf 12 1 := ⟨(mgw_2 67 rfl rfl : Cond.code yX1_readsEither cX1_readsEither 3 (some FieldType.boolean) ∈ mGW), gi_initialized_RX1, ⟨by decide +kernel, by decide +kernel, by decide +kernel⟩, by decide⟩
theorem mmf_13 : mMf 13 1 := ⟨(mgw_2 71 rfl rfl : Cond.code yX1_readsBoth cX1_readsBoth 3 (some FieldType.boolean) ∈ mGW), gi_initialized_RX1, ⟨by decide +kernel, by decide +kernel, by decide +kernel⟩, by decide⟩
theorem mmf_14 : mMf 14 1 := ⟨(mgw_2 75 rfl rfl : Cond.code yX1_readsNot cX1_readsNot 3 (some FieldType.boolean) ∈ mGW), gi_initialized_RX1, ⟨by decide +kernel, by decide +kernel, by decide +kernel⟩, by decide⟩
theorem mmf_15 : mMf 15 1 := ⟨(mgw_2 87 rfl rfl : Cond.code yX1_readsSum cX1_readsSum 4 (some FieldType.boolean) ∈ mGW), gi_initialized_RX1, ⟨by decide +kernel, by decide +kernel, by decide +kernel⟩, by decide⟩
theorem mmf_16 : mMf 16 1 := ⟨(mgw_2 91 rfl rfl : Cond.code yX1_readsTerm cX1_readsTerm 3 (some FieldType.boolean) ∈ mGW), gi_initialized_RX1, ⟨by decide +kernel, by decide +kernel, by decide +kernel⟩, by decide⟩
theorem mmf_17 : mMf 17 1 := ⟨(mgw_2 95 rfl rfl : Cond.code yX1_readsOne cX1_readsOne 2 (some FieldType.boolean) ∈ mGW), gi_initialized_RX1, ⟨by decide +kernel, by decide +kernel, by decide +kernel⟩, by decide⟩
theorem mmf_18 : mMf 18 1 := ⟨(mgw_2 79 rfl rfl : Cond.code yX1_opens cX1_opens 2 (some FieldType.boolean) ∈ mGW), gi_initialized_RX1, ⟨by decide +kernel, by decide +kernel, by decide +kernel⟩, by decide⟩
theorem mmf_19 : mMf 19 1 := ⟨(mgw_2 63 rfl rfl : Cond.code yX1_takes cX1_takes 2 (some FieldType.boolean) ∈ mGW), gi_initialized_RX1, ⟨by decide +kernel, by decide +kernel, by decide +kernel⟩, by decide⟩
theorem mmf_20 : mMf 20 1 := ⟨(mgw_2 83 rfl rfl : Cond.code yX1_emit cX1_emit 2 none ∈ mGW), gi_initialized_RX1, ⟨by decide +kernel, by decide +kernel, by decide +kernel⟩, by decide⟩
theorem mmf_21 : mMf 21 0 := ⟨(mgw_2 35 rfl rfl : Cond.code yX1_advance cX1_advance 2 none ∈ mGW), gi_initialized_RX1, ⟨by decide +kernel, by decide +kernel, by decide +kernel⟩, by decide⟩
theorem mmf_22 : mMf 22 0 := ⟨(mgw_2 42 rfl rfl : Cond.code yX1_readWord cX1_readWord 4 none ∈ mGW), gi_initialized_RX1, ⟨by decide +kernel, by decide +kernel, by decide +kernel⟩, by decide⟩
theorem mmf_23 : mMf 23 2 := ⟨(mgw_2 49 rfl rfl : Cond.code yX1_isSpelled cX1_isSpelled 4 (some FieldType.boolean) ∈ mGW), gi_initialized_RX1, ⟨by decide +kernel, by decide +kernel, by decide +kernel⟩, by decide⟩
theorem mmf_24 : mMf 24 0 := ⟨(mgw_2 56 rfl rfl : Cond.code yX1_readNumber cX1_readNumber 1 none ∈ mGW), gi_initialized_RX1, ⟨by decide +kernel, by decide +kernel, by decide +kernel⟩, by decide⟩
theorem mmf_25 : mMf 25 1 := ⟨(mgw_2 38 rfl rfl : Cond.code yX1_isLetter cX1_isLetter 1 (some FieldType.boolean) ∈ mGW), gi_initialized_RX1, ⟨by decide +kernel, by decide +kernel, by decide +kernel⟩, by decide⟩
theorem mmf_26 : mMf 26 1 := ⟨(mgw_2 52 rfl rfl : Cond.code yX1_isDigit cX1_isDigit 1 (some FieldType.boolean) ∈ mGW), gi_initialized_RX1, ⟨by decide +kernel, by decide +kernel, by decide +kernel⟩, by decide⟩
theorem mmf_27 : mMf 27 1 := ⟨(mgw_2 59 rfl rfl : Cond.code yX1_isSign cX1_isSign 1 (some FieldType.boolean) ∈ mGW), gi_initialized_RX1, ⟨by decide +kernel, by decide +kernel, by decide +kernel⟩, by decide⟩
theorem mmf_28 : mMf 28 2 := ⟨(mgw_4 109 rfl rfl : Cond.code yX2_isUnder cX2_isUnder 4 (some FieldType.boolean) ∈ mGW), gi_initialized_RX2, ⟨by decide +kernel, by decide +kernel, by decide +kernel⟩, by decide⟩
theorem mmf_29 : mMf 29 4 := ⟨(mgw_3 10 rfl rfl : Cond.code yX2_reaches cX2_reaches 4 (some FieldType.int) ∈ mGW), gi_initialized_RX2, ⟨by decide +kernel, by decide +kernel, by decide +kernel⟩, by decide⟩
theorem mmf_30 : mMf 30 4 := ⟨(mgw_3 63 rfl rfl : Cond.code yX2_lasts cX2_lasts 4 (some FieldType.int) ∈ mGW), gi_initialized_RX2, ⟨by decide +kernel, by decide +kernel, by decide +kernel⟩, by decide⟩
theorem mmf_31 : mMf 31 3 := ⟨(mgw_3 78 rfl rfl : Cond.code yX2_soaks cX2_soaks 4 (some FieldType.int) ∈ mGW), gi_initialized_RX2, ⟨by decide +kernel, by decide +kernel, by decide +kernel⟩, by decide⟩
theorem mmf_32 : mMf 32 0 := ⟨(mgw_1 139 rfl rfl : Cond.code yX3_init cX3_init 1 none ∈ mGW), gi_initialized_RX3, ⟨by decide +kernel, by decide +kernel, by decide +kernel⟩, by decide⟩
theorem mmf_33 : mMf 33 0 := ⟨(mgw_3 92 rfl rfl : Cond.code yX3_forget cX3_forget 1 none ∈ mGW), gi_initialized_RX3, ⟨by decide +kernel, by decide +kernel, by decide +kernel⟩, by decide⟩
theorem mmf_34 : mMf 34 0 := ⟨(mgw_3 139 rfl rfl : Cond.code yX3_hoursFound cX3_hoursFound 1 (some FieldType.int) ∈ mGW), gi_initialized_RX3, ⟨by decide +kernel, by decide +kernel, by decide +kernel⟩, by decide⟩
theorem mmf_35 : mMf 35 0 := ⟨(mgw_3 143 rfl rfl : Cond.code yX3_firstFound cX3_firstFound 1 (some FieldType.int) ∈ mGW), gi_initialized_RX3, ⟨by decide +kernel, by decide +kernel, by decide +kernel⟩, by decide⟩
theorem mmf_36 : mMf 36 4 := ⟨(mgw_3 100 rfl rfl : Cond.code yX3_seek cX3_seek 7 none ∈ mGW), gi_initialized_RX3, ⟨by decide +kernel, by decide +kernel, by decide +kernel⟩, by decide⟩
theorem mmf_37 : mMf 37 1 := ⟨(mgw_3 116 rfl rfl : Cond.code yX3_step cX3_step 5 none ∈ mGW), gi_initialized_RX3, ⟨by decide +kernel, by decide +kernel, by decide +kernel⟩, by decide⟩
theorem mmf_38 : mMf 38 3 := ⟨(mgw_3 120 rfl rfl : Cond.code yX3_between cX3_between 5 (some FieldType.int) ∈ mGW), gi_initialized_RX3, ⟨by decide +kernel, by decide +kernel, by decide +kernel⟩, by decide⟩
theorem mmf_39 : mMf 39 3 := ⟨(mgw_3 129 rfl rfl : Cond.code yX3_offer cX3_offer 4 none ∈ mGW), gi_initialized_RX3, ⟨by decide +kernel, by decide +kernel, by decide +kernel⟩, by decide⟩
theorem mmf_40 : mMf 40 1 := ⟨(mgw_3 134 rfl rfl : Cond.code yX3_noteArrival cX3_noteArrival 2 none ∈ mGW), gi_initialized_RX3, ⟨by decide +kernel, by decide +kernel, by decide +kernel⟩, by decide⟩
theorem mmf_41 : mMf 41 0 := ⟨(mgw_4 4 rfl rfl : Cond.code yX3_clearRoads cX3_clearRoads 1 none ∈ mGW), gi_initialized_RX3, ⟨by decide +kernel, by decide +kernel, by decide +kernel⟩, by decide⟩
theorem mmf_42 : mMf 42 4 := ⟨(mgw_4 8 rfl rfl : Cond.code yX3_tryRoads cX3_tryRoads 7 none ∈ mGW), gi_initialized_RX3, ⟨by decide +kernel, by decide +kernel, by decide +kernel⟩, by decide⟩
theorem mmf_43 : mMf 43 0 := ⟨(mgw_4 14 rfl rfl : Cond.code yX3_bestRoad cX3_bestRoad 5 (some FieldType.int) ∈ mGW), gi_initialized_RX3, ⟨by decide +kernel, by decide +kernel, by decide +kernel⟩, by decide⟩
theorem mmf_44 : mMf 44 1 := ⟨(mgw_4 18 rfl rfl : Cond.code yX3_comersBy cX3_comersBy 2 (some FieldType.int) ∈ mGW), gi_initialized_RX3, ⟨by decide +kernel, by decide +kernel, by decide +kernel⟩, by decide⟩
theorem mmf_45 : mMf 45 1 := ⟨(mgw_4 23 rfl rfl : Cond.code yX3_hoursBy cX3_hoursBy 2 (some FieldType.int) ∈ mGW), gi_initialized_RX3, ⟨by decide +kernel, by decide +kernel, by decide +kernel⟩, by decide⟩
theorem mmf_46 : mMf 46 0 := ⟨(mgw_1 194 rfl rfl : Cond.code yX4_init cX4_init 1 none ∈ mGW), gi_initialized_RX4, ⟨by decide +kernel, by decide +kernel, by decide +kernel⟩, by decide⟩
theorem mmf_47 : mMf 47 0 := ⟨(mgw_3 215 rfl rfl : Cond.code yX4_isMissing cX4_isMissing 1 (some FieldType.boolean) ∈ mGW), gi_initialized_RX4, ⟨by decide +kernel, by decide +kernel, by decide +kernel⟩, by decide⟩
theorem mmf_48 : mMf 48 2 := ⟨(mgw_4 79 rfl rfl : Cond.code yX4_become cX4_become 3 none ∈ mGW), gi_initialized_RX4, ⟨by decide +kernel, by decide +kernel, by decide +kernel⟩, by decide⟩
theorem mmf_49 : mMf 49 1 := ⟨(mgw_3 222 rfl rfl : Cond.code yX4_item cX4_item 2 (some FieldType.int) ∈ mGW), gi_initialized_RX4, ⟨by decide +kernel, by decide +kernel, by decide +kernel⟩, by decide⟩
theorem mmf_50 : mMf 50 2 := ⟨(mgw_4 89 rfl rfl : Cond.code yX4_put cX4_put 3 none ∈ mGW), gi_initialized_RX4, ⟨by decide +kernel, by decide +kernel, by decide +kernel⟩, by decide⟩
theorem mmf_51 : mMf 51 2 := ⟨(mgw_4 97 rfl rfl : Cond.code yX4_hasRun cX4_hasRun 3 (some FieldType.boolean) ∈ mGW), gi_initialized_RX4, ⟨by decide +kernel, by decide +kernel, by decide +kernel⟩, by decide⟩
theorem mmf_52 : mMf 52 0 := ⟨(mgw_1 30 rfl rfl : Cond.code yX5_init cX5_init 1 none ∈ mGW), gi_initialized_RX5, ⟨by decide +kernel, by decide +kernel, by decide +kernel⟩, by decide⟩
theorem mmf_53 : mMf 53 1 := ⟨(mgw_4 31 rfl rfl : Cond.code yX5_become cX5_become 2 none ∈ mGW), gi_initialized_RX5, ⟨by decide +kernel, by decide +kernel, by decide +kernel⟩, by decide⟩
theorem mmf_54 : mMf 54 1 := ⟨(mgw_2 207 rfl rfl : Cond.code yX5_isOne cX5_isOne 2 (some FieldType.boolean) ∈ mGW), gi_initialized_RX5, ⟨by decide +kernel, by decide +kernel, by decide +kernel⟩, by decide⟩
theorem mmf_55 : mMf 55 2 := ⟨(mgw_2 219 rfl rfl : Cond.code yX5_trait cX5_trait 3 (some FieldType.int) ∈ mGW), gi_initialized_RX5, ⟨by decide +kernel, by decide +kernel, by decide +kernel⟩, by decide⟩
theorem mmf_56 : mMf 56 3 := ⟨(mgw_2 203 rfl rfl : Cond.code yX5_put cX5_put 4 none ∈ mGW), gi_initialized_RX5, ⟨by decide +kernel, by decide +kernel, by decide +kernel⟩, by decide⟩
theorem mmf_57 : mMf 57 2 := ⟨(mgw_2 188 rfl rfl : Cond.code yX5_mudBetween cX5_mudBetween 3 (some FieldType.int) ∈ mGW), gi_initialized_RX5, ⟨by decide +kernel, by decide +kernel, by decide +kernel⟩, by decide⟩
theorem mmf_58 : mMf 58 3 := ⟨(mgw_2 193 rfl rfl : Cond.code yX5_putMud cX5_putMud 4 (some FieldType.boolean) ∈ mGW), gi_initialized_RX5, ⟨by decide +kernel, by decide +kernel, by decide +kernel⟩, by decide⟩
theorem mmf_59 : mMf 59 0 := ⟨(mgw_4 65 rfl rfl : Cond.code yX5_muddyPairs cX5_muddyPairs 4 (some FieldType.int) ∈ mGW), gi_initialized_RX5, ⟨by decide +kernel, by decide +kernel, by decide +kernel⟩, by decide⟩
theorem mmf_60 : mMf 60 0 := ⟨(mgw_2 236 rfl rfl : Cond.code yX5_rainNow cX5_rainNow 1 (some FieldType.int) ∈ mGW), gi_initialized_RX5, ⟨by decide +kernel, by decide +kernel, by decide +kernel⟩, by decide⟩
theorem mmf_61 : mMf 61 1 := ⟨(mgw_3 0 rfl rfl : Cond.code yX5_rainIn cX5_rainIn 2 (some FieldType.int) ∈ mGW), gi_initialized_RX5, ⟨by decide +kernel, by decide +kernel, by decide +kernel⟩, by decide⟩
theorem mmf_62 : mMf 62 2 := ⟨(mgw_3 19 rfl rfl : Cond.code yX5_debt cX5_debt 3 (some FieldType.int) ∈ mGW), gi_initialized_RX5, ⟨by decide +kernel, by decide +kernel, by decide +kernel⟩, by decide⟩
theorem mmf_63 : mMf 63 3 := ⟨(mgw_3 176 rfl rfl : Cond.code yX5_putDebt cX5_putDebt 4 none ∈ mGW), gi_initialized_RX5, ⟨by decide +kernel, by decide +kernel, by decide +kernel⟩, by decide⟩
theorem mmf_64 : mMf 64 1 := ⟨(mgw_3 15 rfl rfl : Cond.code yX5_owes cX5_owes 4 (some FieldType.int) ∈ mGW), gi_initialized_RX5, ⟨by decide +kernel, by decide +kernel, by decide +kernel⟩, by decide⟩
theorem mmf_65 : mMf 65 1 := ⟨(mgw_3 23 rfl rfl : Cond.code yX5_isOwed cX5_isOwed 4 (some FieldType.int) ∈ mGW), gi_initialized_RX5, ⟨by decide +kernel, by decide +kernel, by decide +kernel⟩, by decide⟩
theorem mmf_66 : mMf 66 0 := ⟨(mgw_4 70 rfl rfl : Cond.code yX5_allDebts cX5_allDebts 3 (some FieldType.int) ∈ mGW), gi_initialized_RX5, ⟨by decide +kernel, by decide +kernel, by decide +kernel⟩, by decide⟩
theorem mmf_67 : mMf 67 2 := ⟨(mgw_3 188 rfl rfl : Cond.code yX5_closeTwo cX5_closeTwo 4 (some FieldType.int) ∈ mGW), gi_initialized_RX5, ⟨by decide +kernel, by decide +kernel, by decide +kernel⟩, by decide⟩
theorem mmf_68 : mMf 68 3 := ⟨(mgw_3 194 rfl rfl : Cond.code yX5_closeThree cX5_closeThree 5 (some FieldType.int) ∈ mGW), gi_initialized_RX5, ⟨by decide +kernel, by decide +kernel, by decide +kernel⟩, by decide⟩
theorem mmf_69 : mMf 69 2 := ⟨(mgw_2 118 rfl rfl : Cond.code yX6_init cX6_init 3 none ∈ mGW), gi_initialized_RX6, ⟨by decide +kernel, by decide +kernel, by decide +kernel⟩, by decide⟩
theorem mmf_70 : mMf 70 3 := ⟨(mgw_3 52 rfl rfl : Cond.code yX6_value cX6_value 8 (some FieldType.int) ∈ mGW), gi_initialized_RX6, ⟨by decide +kernel, by decide +kernel, by decide +kernel⟩, by decide⟩
theorem mmf_71 : mMf 71 2 := ⟨(mgw_3 56 rfl rfl : Cond.code yX6_ofOne cX6_ofOne 2 (some FieldType.int) ∈ mGW), gi_initialized_RX6, ⟨by decide +kernel, by decide +kernel, by decide +kernel⟩, by decide⟩
theorem mmf_72 : mMf 72 3 := ⟨(mgw_3 59 rfl rfl : Cond.code yX6_ofTwo cX6_ofTwo 3 (some FieldType.int) ∈ mGW), gi_initialized_RX6, ⟨by decide +kernel, by decide +kernel, by decide +kernel⟩, by decide⟩
theorem mmf_73 : mMf 73 0 := ⟨(mgw_1 145 rfl rfl : Cond.code yX7_init cX7_init 1 none ∈ mGW), gi_initialized_RX7, ⟨by decide +kernel, by decide +kernel, by decide +kernel⟩, by decide⟩
theorem mmf_74 : mMf 74 0 := ⟨(mgw_3 96 rfl rfl : Cond.code yX7_forget cX7_forget 1 none ∈ mGW), gi_initialized_RX7, ⟨by decide +kernel, by decide +kernel, by decide +kernel⟩, by decide⟩
theorem mmf_75 : mMf 75 3 := ⟨(mgw_3 109 rfl rfl : Cond.code yX7_learn cX7_learn 9 none ∈ mGW), gi_initialized_RX7, ⟨by decide +kernel, by decide +kernel, by decide +kernel⟩, by decide⟩
theorem mmf_76 : mMf 76 3 := ⟨(mgw_3 124 rfl rfl : Cond.code yX7_between cX7_between 4 (some FieldType.int) ∈ mGW), gi_initialized_RX7, ⟨by decide +kernel, by decide +kernel, by decide +kernel⟩, by decide⟩
theorem mmf_77 : mMf 77 0 := ⟨(mgw_1 22 rfl rfl : Cond.code yX8_init cX8_init 2 none ∈ mGW), gi_initialized_RX8, ⟨by decide +kernel, by decide +kernel, by decide +kernel⟩, by decide⟩
theorem mmf_78 : mMf 78 3 := ⟨(mgw_2 171 rfl rfl : Cond.code yX8_mud cX8_mud 5 (some FieldType.int) ∈ mGW), gi_initialized_RX8, ⟨by decide +kernel, by decide +kernel, by decide +kernel⟩, by decide⟩
theorem mmf_79 : mMf 79 2 := ⟨(mgw_2 175 rfl rfl : Cond.code yX8_far cX8_far 3 (some FieldType.int) ∈ mGW), gi_initialized_RX8, ⟨by decide +kernel, by decide +kernel, by decide +kernel⟩, by decide⟩
theorem mmf_80 : mMf 80 3 := ⟨(mgw_2 199 rfl rfl : Cond.code yX8_one cX8_one 5 (some FieldType.int) ∈ mGW), gi_initialized_RX8, ⟨by decide +kernel, by decide +kernel, by decide +kernel⟩, by decide⟩
theorem mmf_81 : mMf 81 3 := ⟨(mgw_2 211 rfl rfl : Cond.code yX8_set cX8_set 5 (some FieldType.int) ∈ mGW), gi_initialized_RX8, ⟨by decide +kernel, by decide +kernel, by decide +kernel⟩, by decide⟩
theorem mmf_82 : mMf 82 2 := ⟨(mgw_2 223 rfl rfl : Cond.code yX8_told cX8_told 3 (some FieldType.int) ∈ mGW), gi_initialized_RX8, ⟨by decide +kernel, by decide +kernel, by decide +kernel⟩, by decide⟩
theorem mmf_83 : mMf 83 1 := ⟨(mgw_3 27 rfl rfl : Cond.code yX8_feed cX8_feed 2 (some FieldType.int) ∈ mGW), gi_initialized_RX8, ⟨by decide +kernel, by decide +kernel, by decide +kernel⟩, by decide⟩
theorem mmf_84 : mMf 84 0 := ⟨(mgw_3 31 rfl rfl : Cond.code yX8_text cX8_text 2 (some FieldType.int) ∈ mGW), gi_initialized_RX8, ⟨by decide +kernel, by decide +kernel, by decide +kernel⟩, by decide⟩
theorem mmf_85 : mMf 85 1 := ⟨(mgw_3 35 rfl rfl : Cond.code yX8_force cX8_force 3 (some FieldType.int) ∈ mGW), gi_initialized_RX8, ⟨by decide +kernel, by decide +kernel, by decide +kernel⟩, by decide⟩
theorem mmf_86 : mMf 86 3 := ⟨(mgw_3 39 rfl rfl : Cond.code yX8_can cX8_can 6 (some FieldType.int) ∈ mGW), gi_initialized_RX8, ⟨by decide +kernel, by decide +kernel, by decide +kernel⟩, by decide⟩
theorem mmf_87 : mMf 87 2 := ⟨(mgw_3 67 rfl rfl : Cond.code yX8_go cX8_go 3 (some FieldType.int) ∈ mGW), gi_initialized_RX8, ⟨by decide +kernel, by decide +kernel, by decide +kernel⟩, by decide⟩
theorem mmf_88 : mMf 88 3 := ⟨(mgw_3 83 rfl rfl : Cond.code yX8_soonest cX8_soonest 4 (some FieldType.int) ∈ mGW), gi_initialized_RX8, ⟨by decide +kernel, by decide +kernel, by decide +kernel⟩, by decide⟩
theorem mmf_89 : mMf 89 3 := ⟨(mgw_3 147 rfl rfl : Cond.code yX8_together cX8_together 6 (some FieldType.int) ∈ mGW), gi_initialized_RX8, ⟨by decide +kernel, by decide +kernel, by decide +kernel⟩, by decide⟩
theorem mmf_90 : mMf 90 3 := ⟨(mgw_3 167 rfl rfl : Cond.code yX8_lend cX8_lend 8 (some FieldType.int) ∈ mGW), gi_initialized_RX8, ⟨by decide +kernel, by decide +kernel, by decide +kernel⟩, by decide⟩
theorem mmf_91 : mMf 91 2 := ⟨(mgw_3 180 rfl rfl : Cond.code yX8_owed cX8_owed 3 (some FieldType.int) ∈ mGW), gi_initialized_RX8, ⟨by decide +kernel, by decide +kernel, by decide +kernel⟩, by decide⟩
theorem mmf_92 : mMf 92 0 := ⟨(mgw_3 184 rfl rfl : Cond.code yX8_rings cX8_rings 5 (some FieldType.int) ∈ mGW), gi_initialized_RX8, ⟨by decide +kernel, by decide +kernel, by decide +kernel⟩, by decide⟩
theorem mmf_93 : mMf 93 2 := ⟨(mgw_3 198 rfl rfl : Cond.code yX8_shaken cX8_shaken 6 (some FieldType.int) ∈ mGW), gi_initialized_RX8, ⟨by decide +kernel, by decide +kernel, by decide +kernel⟩, by decide⟩
theorem mmf_94 : mMf 94 1 := ⟨(mgw_3 211 rfl rfl : Cond.code yX8_prints cX8_prints 5 (some FieldType.int) ∈ mGW), gi_initialized_RX8, ⟨by decide +kernel, by decide +kernel, by decide +kernel⟩, by decide⟩
theorem mmf_95 : mMf 95 3 := ⟨(mgw_3 231 rfl rfl : Cond.code yX8_out cX8_out 9 (some FieldType.int) ∈ mGW), gi_initialized_RX8, ⟨by decide +kernel, by decide +kernel, by decide +kernel⟩, by decide⟩
theorem mmf_96 : mMf 96 2 := ⟨(mgw_4 0 rfl rfl : Cond.code yX8_road cX8_road 4 (some FieldType.int) ∈ mGW), gi_initialized_RX8, ⟨by decide +kernel, by decide +kernel, by decide +kernel⟩, by decide⟩
theorem mmf_97 : mMf 97 1 := ⟨(mgw_4 27 rfl rfl : Cond.code yX8_judge cX8_judge 6 (some FieldType.int) ∈ mGW), gi_initialized_RX8, ⟨by decide +kernel, by decide +kernel, by decide +kernel⟩, by decide⟩
theorem mmf_98 : mMf 98 3 := ⟨(mgw_4 36 rfl rfl : Cond.code yX8_drawn cX8_drawn 4 (some FieldType.int) ∈ mGW), gi_initialized_RX8, ⟨by decide +kernel, by decide +kernel, by decide +kernel⟩, by decide⟩
theorem mmf_99 : mMf 99 5 := ⟨(mgw_4 45 rfl rfl : Cond.code yX8_chance cX8_chance 8 (some FieldType.long) ∈ mGW), gi_initialized_RX8, ⟨by decide +kernel, by decide +kernel, by decide +kernel⟩, by decide⟩
theorem mmf_100 : mMf 100 0 := ⟨(mgw_4 53 rfl rfl : Cond.code yX8_image cX8_image 1 (some FieldType.int) ∈ mGW), gi_initialized_RX8, ⟨by decide +kernel, by decide +kernel, by decide +kernel⟩, by decide⟩
theorem mmf_101 : mMf 101 0 := ⟨(mgw_4 57 rfl rfl : Cond.code yX8_back cX8_back 1 (some FieldType.int) ∈ mGW), gi_initialized_RX8, ⟨by decide +kernel, by decide +kernel, by decide +kernel⟩, by decide⟩
theorem mmf_102 : mMf 102 1 := ⟨(mgw_4 61 rfl rfl : Cond.code yX8_count cX8_count 2 (some FieldType.int) ∈ mGW), gi_initialized_RX8, ⟨by decide +kernel, by decide +kernel, by decide +kernel⟩, by decide⟩
theorem mmf_103 : mMf 103 3 := ⟨(mgw_4 75 rfl rfl : Cond.code yX8_sheet cX8_sheet 4 (some FieldType.int) ∈ mGW), gi_initialized_RX8, ⟨by decide +kernel, by decide +kernel, by decide +kernel⟩, by decide⟩
theorem mmf_104 : mMf 104 3 := ⟨(mgw_4 85 rfl rfl : Cond.code yX8_cell cX8_cell 5 (some FieldType.int) ∈ mGW), gi_initialized_RX8, ⟨by decide +kernel, by decide +kernel, by decide +kernel⟩, by decide⟩
theorem mmf_105 : mMf 105 5 := ⟨(mgw_4 93 rfl rfl : Cond.code yX8_copy cX8_copy 8 (some FieldType.int) ∈ mGW), gi_initialized_RX8, ⟨by decide +kernel, by decide +kernel, by decide +kernel⟩, by decide⟩
theorem mmf_106 : mMf 106 4 := ⟨(mgw_4 102 rfl rfl : Cond.code yX8_muds cX8_muds 9 (some FieldType.int) ∈ mGW), gi_initialized_RX8, ⟨by decide +kernel, by decide +kernel, by decide +kernel⟩, by decide⟩
theorem mmf_107 : mMf 107 2 := ⟨(mgw_4 106 rfl rfl : Cond.code yX8_taken cX8_taken 3 (some FieldType.int) ∈ mGW), gi_initialized_RX8, ⟨by decide +kernel, by decide +kernel, by decide +kernel⟩, by decide⟩
theorem mmf_108 : mMf 108 2 := ⟨(mgw_2 184 rfl rfl : Cond.code yX8_isWithin cX8_isWithin 2 (some FieldType.boolean) ∈ mGW), gi_initialized_RX8, ⟨by decide +kernel, by decide +kernel, by decide +kernel⟩, by decide⟩
theorem mmf_109 : mMf 109 3 := ⟨(mgw_2 27 rfl rfl : Cond.code yX8_bounded cX8_bounded 3 (some FieldType.int) ∈ mGW), gi_initialized_RX8, ⟨by decide +kernel, by decide +kernel, by decide +kernel⟩, by decide⟩
theorem mmf_110 : mMf 110 1 := ⟨(mgw_2 181 rfl rfl : Cond.code yX8_isStone cX8_isStone 1 (some FieldType.boolean) ∈ mGW), gi_initialized_RX8, ⟨by decide +kernel, by decide +kernel, by decide +kernel⟩, by decide⟩
theorem mmf_111 : mMf 111 2 := ⟨(mgw_2 178 rfl rfl : Cond.code yX8_areTwoStones cX8_areTwoStones 2 (some FieldType.boolean) ∈ mGW), gi_initialized_RX8, ⟨by decide +kernel, by decide +kernel, by decide +kernel⟩, by decide⟩
theorem mmf_112 : mMf 112 2 := ⟨(mgw_3 151 rfl rfl : Cond.code yX8_areTwoPeople cX8_areTwoPeople 3 (some FieldType.boolean) ∈ mGW), gi_initialized_RX8, ⟨by decide +kernel, by decide +kernel, by decide +kernel⟩, by decide⟩
theorem mmf_113 : mMf 113 2 := ⟨(mgw_3 155 rfl rfl : Cond.code yX8_areOnOneStone cX8_areOnOneStone 3 (some FieldType.boolean) ∈ mGW), gi_initialized_RX8, ⟨by decide +kernel, by decide +kernel, by decide +kernel⟩, by decide⟩
theorem mmf_114 : mMf 114 1 := ⟨(mgw_2 215 rfl rfl : Cond.code yX8_mostOf cX8_mostOf 1 (some FieldType.int) ∈ mGW), gi_initialized_RX8, ⟨by decide +kernel, by decide +kernel, by decide +kernel⟩, by decide⟩
theorem mmf_115 : mMf 115 1 := ⟨(mgw_2 227 rfl rfl : Cond.code yX8_ruleOf cX8_ruleOf 2 (some (FieldType.object "RolledUp$Text")) ∈ mGW), gi_initialized_RX8, ⟨by decide +kernel, by decide +kernel, by decide +kernel⟩, by decide⟩
theorem mmf_116 : mMf 116 3 := ⟨(mgw_3 71 rfl rfl : Cond.code yX8_moves cX8_moves 6 (some FieldType.boolean) ∈ mGW), gi_initialized_RX8, ⟨by decide +kernel, by decide +kernel, by decide +kernel⟩, by decide⟩
theorem mmf_117 : mMf 117 3 := ⟨(mgw_3 88 rfl rfl : Cond.code yX8_seek cX8_seek 4 none ∈ mGW), gi_initialized_RX8, ⟨by decide +kernel, by decide +kernel, by decide +kernel⟩, by decide⟩
theorem mmf_118 : mMf 118 1 := ⟨(mgw_3 159 rfl rfl : Cond.code yX8_pooledFrom cX8_pooledFrom 7 (some FieldType.int) ∈ mGW), gi_initialized_RX8, ⟨by decide +kernel, by decide +kernel, by decide +kernel⟩, by decide⟩
theorem mmf_119 : mMf 119 1 := ⟨(mgw_3 202 rfl rfl : Cond.code yX8_followedFrom cX8_followedFrom 6 (some FieldType.int) ∈ mGW), gi_initialized_RX8, ⟨by decide +kernel, by decide +kernel, by decide +kernel⟩, by decide⟩
theorem mmf_120 : mMf 120 1 := ⟨(mgw_3 218 rfl rfl : Cond.code yX8_tellsStones cX8_tellsStones 2 (some FieldType.boolean) ∈ mGW), gi_initialized_RX8, ⟨by decide +kernel, by decide +kernel, by decide +kernel⟩, by decide⟩
theorem mmf_121 : mMf 121 2 := ⟨(mgw_3 227 rfl rfl : Cond.code yX8_canFollow cX8_canFollow 6 (some FieldType.boolean) ∈ mGW), gi_initialized_RX8, ⟨by decide +kernel, by decide +kernel, by decide +kernel⟩, by decide⟩
theorem mmf_122 : mMf 122 2 := ⟨(mgw_3 236 rfl rfl : Cond.code yX8_wasRainSeen cX8_wasRainSeen 4 (some FieldType.boolean) ∈ mGW), gi_initialized_RX8, ⟨by decide +kernel, by decide +kernel, by decide +kernel⟩, by decide⟩
theorem mmf_123 : mMf 123 3 := ⟨(mgw_4 40 rfl rfl : Cond.code yX8_drawnTo cX8_drawnTo 7 (some FieldType.int) ∈ mGW), gi_initialized_RX8, ⟨by decide +kernel, by decide +kernel, by decide +kernel⟩, by decide⟩
theorem mmf_124 : mMf 124 2 := ⟨(mgw_4 49 rfl rfl : Cond.code yX8_commonMeasure cX8_commonMeasure 3 (some FieldType.int) ∈ mGW), gi_initialized_RX8, ⟨by decide +kernel, by decide +kernel, by decide +kernel⟩, by decide⟩
theorem mmf_125 : mMf 125 3 := ⟨(mgw_5 56 rfl rfl : Cond.code yX9_in cX9_in 6 (some FieldType.boolean) ∈ mGW), gi_initialized_RX9, ⟨by decide +kernel, by decide +kernel, by decide +kernel⟩, by decide⟩
theorem mmf_126 : mMf 126 3 := ⟨(mgw_6 75 rfl rfl : Cond.code yX9_within cX9_within 3 (some FieldType.int) ∈ mGW), gi_initialized_RX9, ⟨by decide +kernel, by decide +kernel, by decide +kernel⟩, by decide⟩
theorem mmf_127 : mMf 127 0 := ⟨(mgw_4 117 rfl rfl : Cond.code yX9_init cX9_init 1 none ∈ mGW), gi_initialized_RX9, ⟨by decide +kernel, by decide +kernel, by decide +kernel⟩, by decide⟩
theorem mmf_128 : mMf 128 9 := ⟨(mgw_4 122 rfl rfl : Cond.code yX9_spell cX9_spell 10 none ∈ mGW), gi_initialized_RX9, ⟨by decide +kernel, by decide +kernel, by decide +kernel⟩, by decide⟩
theorem mmf_129 : mMf 129 1 := ⟨(mgw_5 52 rfl rfl : Cond.code yX9_isStone cX9_isStone 1 (some FieldType.boolean) ∈ mGW), gi_initialized_RX9, ⟨by decide +kernel, by decide +kernel, by decide +kernel⟩, by decide⟩
theorem mmf_130 : mMf 130 1 := ⟨(mgw_5 81 rfl rfl : Cond.code yX9_isOne cX9_isOne 2 (some FieldType.boolean) ∈ mGW), gi_initialized_RX9, ⟨by decide +kernel, by decide +kernel, by decide +kernel⟩, by decide⟩
theorem mmf_131 : mMf 131 3 := ⟨(mgw_5 61 rfl rfl : Cond.code yX9_muddy cX9_muddy 4 none ∈ mGW), gi_initialized_RX9, ⟨by decide +kernel, by decide +kernel, by decide +kernel⟩, by decide⟩
theorem mmf_132 : mMf 132 3 := ⟨(mgw_5 49 rfl rfl : Cond.code yX9_mud cX9_mud 5 (some FieldType.int) ∈ mGW), gi_initialized_RX9, ⟨by decide +kernel, by decide +kernel, by decide +kernel⟩, by decide⟩
theorem mmf_133 : mMf 133 2 := ⟨(mgw_5 65 rfl rfl : Cond.code yX9_far cX9_far 3 (some FieldType.int) ∈ mGW), gi_initialized_RX9, ⟨by decide +kernel, by decide +kernel, by decide +kernel⟩, by decide⟩
theorem mmf_134 : mMf 134 3 := ⟨(mgw_5 69 rfl rfl : Cond.code yX9_one cX9_one 5 (some FieldType.int) ∈ mGW), gi_initialized_RX9, ⟨by decide +kernel, by decide +kernel, by decide +kernel⟩, by decide⟩
theorem mmf_135 : mMf 135 3 := ⟨(mgw_5 76 rfl rfl : Cond.code yX9_set cX9_set 5 (some FieldType.int) ∈ mGW), gi_initialized_RX9, ⟨by decide +kernel, by decide +kernel, by decide +kernel⟩, by decide⟩
theorem mmf_136 : mMf 136 2 := ⟨(mgw_5 92 rfl rfl : Cond.code yX9_reaches cX9_reaches 7 (some FieldType.int) ∈ mGW), gi_initialized_RX9, ⟨by decide +kernel, by decide +kernel, by decide +kernel⟩, by decide⟩
theorem mmf_137 : mMf 137 2 := ⟨(mgw_6 83 rfl rfl : Cond.code yX9_lasts cX9_lasts 5 (some FieldType.int) ∈ mGW), gi_initialized_RX9, ⟨by decide +kernel, by decide +kernel, by decide +kernel⟩, by decide⟩
theorem mmf_138 : mMf 138 3 := ⟨(mgw_6 95 rfl rfl : Cond.code yX9_soaks cX9_soaks 6 (some FieldType.int) ∈ mGW), gi_initialized_RX9, ⟨by decide +kernel, by decide +kernel, by decide +kernel⟩, by decide⟩
theorem mmf_139 : mMf 139 2 := ⟨(mgw_5 87 rfl rfl : Cond.code yX9_told cX9_told 5 (some FieldType.int) ∈ mGW), gi_initialized_RX9, ⟨by decide +kernel, by decide +kernel, by decide +kernel⟩, by decide⟩
theorem mmf_140 : mMf 140 1 := ⟨(mgw_5 96 rfl rfl : Cond.code yX9_feed cX9_feed 2 (some FieldType.int) ∈ mGW), gi_initialized_RX9, ⟨by decide +kernel, by decide +kernel, by decide +kernel⟩, by decide⟩
theorem mmf_141 : mMf 141 1 := ⟨(mgw_5 113 rfl rfl : Cond.code yX9_byteAt cX9_byteAt 2 (some FieldType.int) ∈ mGW), gi_initialized_RX9, ⟨by decide +kernel, by decide +kernel, by decide +kernel⟩, by decide⟩
theorem mmf_142 : mMf 142 0 := ⟨(mgw_5 109 rfl rfl : Cond.code yX9_next cX9_next 3 none ∈ mGW), gi_initialized_RX9, ⟨by decide +kernel, by decide +kernel, by decide +kernel⟩, by decide⟩
theorem mmf_143 : mMf 143 0 := ⟨(mgw_5 134 rfl rfl : Cond.code yX9_fail cX9_fail 1 none ∈ mGW), gi_initialized_RX9, ⟨by decide +kernel, by decide +kernel, by decide +kernel⟩, by decide⟩
theorem mmf_144 : mMf 144 2 := ⟨(mgw_5 126 rfl rfl : Cond.code yX9_isLetter cX9_isLetter 3 (some FieldType.boolean) ∈ mGW), gi_initialized_RX9, ⟨by decide +kernel, by decide +kernel, by decide +kernel⟩, by decide⟩
theorem mmf_145 : mMf 145 8 := ⟨(mgw_5 122 rfl rfl : Cond.code yX9_isWord cX9_isWord 9 (some FieldType.boolean) ∈ mGW), gi_initialized_RX9, ⟨by decide +kernel, by decide +kernel, by decide +kernel⟩, by decide⟩
theorem mmf_146 : mMf 146 1 := ⟨(mgw_5 186 rfl rfl : Cond.code yX9_isSign cX9_isSign 2 (some FieldType.boolean) ∈ mGW), gi_initialized_RX9, ⟨by decide +kernel, by decide +kernel, by decide +kernel⟩, by decide⟩
theorem mmf_147 : mMf 147 0 := ⟨(mgw_5 150 rfl rfl : Cond.code yX9_opens cX9_opens 1 (some FieldType.boolean) ∈ mGW), gi_initialized_RX9, ⟨by decide +kernel, by decide +kernel, by decide +kernel⟩, by decide⟩
theorem mmf_148 : mMf 148 0 := ⟨(mgw_5 190 rfl rfl : Cond.code yX9_name cX9_name 1 (some FieldType.int) ∈ mGW), gi_initialized_RX9, ⟨by decide +kernel, by decide +kernel, by decide +kernel⟩, by decide⟩
theorem mmf_149 : mMf 149 0 := ⟨(mgw_5 182 rfl rfl : Cond.code yX9_atom5 cX9_atom5 2 (some FieldType.int) ∈ mGW), gi_initialized_RX9, ⟨by decide +kernel, by decide +kernel, by decide +kernel⟩, by decide⟩
theorem mmf_150 : mMf 150 0 := ⟨(mgw_5 178 rfl rfl : Cond.code yX9_term5 cX9_term5 2 (some FieldType.int) ∈ mGW), gi_initialized_RX9, ⟨by decide +kernel, by decide +kernel, by decide +kernel⟩, by decide⟩
theorem mmf_151 : mMf 151 0 := ⟨(mgw_5 174 rfl rfl : Cond.code yX9_added5 cX9_added5 4 (some FieldType.int) ∈ mGW), gi_initialized_RX9, ⟨by decide +kernel, by decide +kernel, by decide +kernel⟩, by decide⟩
theorem mmf_152 : mMf 152 0 := ⟨(mgw_5 170 rfl rfl : Cond.code yX9_not5 cX9_not5 4 (some FieldType.int) ∈ mGW), gi_initialized_RX9, ⟨by decide +kernel, by decide +kernel, by decide +kernel⟩, by decide⟩
theorem mmf_153 : mMf 153 0 := ⟨(mgw_5 212 rfl rfl : Cond.code yX9_both5 cX9_both5 3 (some FieldType.int) ∈ mGW), gi_initialized_RX9, ⟨by decide +kernel, by decide +kernel, by decide +kernel⟩, by decide⟩
theorem mmf_154 : mMf 154 0 := ⟨(mgw_5 208 rfl rfl : Cond.code yX9_either5 cX9_either5 3 (some FieldType.int) ∈ mGW), gi_initialized_RX9, ⟨by decide +kernel, by decide +kernel, by decide +kernel⟩, by decide⟩
theorem mmf_155 : mMf 155 0 := ⟨(mgw_5 204 rfl rfl : Cond.code yX9_atom4 cX9_atom4 2 (some FieldType.int) ∈ mGW), gi_initialized_RX9, ⟨by decide +kernel, by decide +kernel, by decide +kernel⟩, by decide⟩
theorem mmf_156 : mMf 156 0 := ⟨(mgw_5 200 rfl rfl : Cond.code yX9_term4 cX9_term4 2 (some FieldType.int) ∈ mGW), gi_initialized_RX9, ⟨by decide +kernel, by decide +kernel, by decide +kernel⟩, by decide⟩
theorem mmf_157 : mMf 157 0 := ⟨(mgw_5 196 rfl rfl : Cond.code yX9_added4 cX9_added4 4 (some FieldType.int) ∈ mGW), gi_initialized_RX9, ⟨by decide +kernel, by decide +kernel, by decide +kernel⟩, by decide⟩
theorem mmf_158 : mMf 158 0 := ⟨(mgw_5 166 rfl rfl : Cond.code yX9_not4 cX9_not4 4 (some FieldType.int) ∈ mGW), gi_initialized_RX9, ⟨by decide +kernel, by decide +kernel, by decide +kernel⟩, by decide⟩
theorem mmf_159 : mMf 159 0 := ⟨(mgw_5 232 rfl rfl : Cond.code yX9_both4 cX9_both4 3 (some FieldType.int) ∈ mGW), gi_initialized_RX9, ⟨by decide +kernel, by decide +kernel, by decide +kernel⟩, by decide⟩
theorem mmf_160 : mMf 160 0 := ⟨(mgw_5 228 rfl rfl : Cond.code yX9_either4 cX9_either4 3 (some FieldType.int) ∈ mGW), gi_initialized_RX9, ⟨by decide +kernel, by decide +kernel, by decide +kernel⟩, by decide⟩
theorem mmf_161 : mMf 161 0 := ⟨(mgw_5 224 rfl rfl : Cond.code yX9_atom3 cX9_atom3 2 (some FieldType.int) ∈ mGW), gi_initialized_RX9, ⟨by decide +kernel, by decide +kernel, by decide +kernel⟩, by decide⟩
theorem mmf_162 : mMf 162 0 := ⟨(mgw_5 220 rfl rfl : Cond.code yX9_term3 cX9_term3 2 (some FieldType.int) ∈ mGW), gi_initialized_RX9, ⟨by decide +kernel, by decide +kernel, by decide +kernel⟩, by decide⟩
theorem mmf_163 : mMf 163 0 := ⟨(mgw_5 216 rfl rfl : Cond.code yX9_added3 cX9_added3 4 (some FieldType.int) ∈ mGW), gi_initialized_RX9, ⟨by decide +kernel, by decide +kernel, by decide +kernel⟩, by decide⟩
theorem mmf_164 : mMf 164 0 := ⟨(mgw_5 162 rfl rfl : Cond.code yX9_not3 cX9_not3 4 (some FieldType.int) ∈ mGW), gi_initialized_RX9, ⟨by decide +kernel, by decide +kernel, by decide +kernel⟩, by decide⟩
theorem mmf_165 : mMf 165 0 := ⟨(mgw_6 12 rfl rfl : Cond.code yX9_both3 cX9_both3 3 (some FieldType.int) ∈ mGW), gi_initialized_RX9, ⟨by decide +kernel, by decide +kernel, by decide +kernel⟩, by decide⟩
theorem mmf_166 : mMf 166 0 := ⟨(mgw_6 8 rfl rfl : Cond.code yX9_either3 cX9_either3 3 (some FieldType.int) ∈ mGW), gi_initialized_RX9, ⟨by decide +kernel, by decide +kernel, by decide +kernel⟩, by decide⟩
theorem mmf_167 : mMf 167 0 := ⟨(mgw_6 4 rfl rfl : Cond.code yX9_atom2 cX9_atom2 2 (some FieldType.int) ∈ mGW), gi_initialized_RX9, ⟨by decide +kernel, by decide +kernel, by decide +kernel⟩, by decide⟩
theorem mmf_168 : mMf 168 0 := ⟨(mgw_6 0 rfl rfl : Cond.code yX9_term2 cX9_term2 2 (some FieldType.int) ∈ mGW), gi_initialized_RX9, ⟨by decide +kernel, by decide +kernel, by decide +kernel⟩, by decide⟩
theorem mmf_169 : mMf 169 0 := ⟨(mgw_5 236 rfl rfl : Cond.code yX9_added2 cX9_added2 4 (some FieldType.int) ∈ mGW), gi_initialized_RX9, ⟨by decide +kernel, by decide +kernel, by decide +kernel⟩, by decide⟩
theorem mmf_170 : mMf 170 0 := ⟨(mgw_5 158 rfl rfl : Cond.code yX9_not2 cX9_not2 4 (some FieldType.int) ∈ mGW), gi_initialized_RX9, ⟨by decide +kernel, by decide +kernel, by decide +kernel⟩, by decide⟩
theorem mmf_171 : mMf 171 0 := ⟨(mgw_6 32 rfl rfl : Cond.code yX9_both2 cX9_both2 3 (some FieldType.int) ∈ mGW), gi_initialized_RX9, ⟨by decide +kernel, by decide +kernel, by decide +kernel⟩, by decide⟩
theorem mmf_172 : mMf 172 0 := ⟨(mgw_6 28 rfl rfl : Cond.code yX9_either2 cX9_either2 3 (some FieldType.int) ∈ mGW), gi_initialized_RX9, ⟨by decide +kernel, by decide +kernel, by decide +kernel⟩, by decide⟩
theorem mmf_173 : mMf 173 0 := ⟨(mgw_6 24 rfl rfl : Cond.code yX9_atom1 cX9_atom1 2 (some FieldType.int) ∈ mGW), gi_initialized_RX9, ⟨by decide +kernel, by decide +kernel, by decide +kernel⟩, by decide⟩
theorem mmf_174 : mMf 174 0 := ⟨(mgw_6 20 rfl rfl : Cond.code yX9_term1 cX9_term1 2 (some FieldType.int) ∈ mGW), gi_initialized_RX9, ⟨by decide +kernel, by decide +kernel, by decide +kernel⟩, by decide⟩
theorem mmf_175 : mMf 175 0 := ⟨(mgw_6 16 rfl rfl : Cond.code yX9_added1 cX9_added1 4 (some FieldType.int) ∈ mGW), gi_initialized_RX9, ⟨by decide +kernel, by decide +kernel, by decide +kernel⟩, by decide⟩
theorem mmf_176 : mMf 176 0 := ⟨(mgw_5 154 rfl rfl : Cond.code yX9_not1 cX9_not1 4 (some FieldType.int) ∈ mGW), gi_initialized_RX9, ⟨by decide +kernel, by decide +kernel, by decide +kernel⟩, by decide⟩
theorem mmf_177 : mMf 177 0 := ⟨(mgw_6 52 rfl rfl : Cond.code yX9_both1 cX9_both1 3 (some FieldType.int) ∈ mGW), gi_initialized_RX9, ⟨by decide +kernel, by decide +kernel, by decide +kernel⟩, by decide⟩
theorem mmf_178 : mMf 178 0 := ⟨(mgw_6 48 rfl rfl : Cond.code yX9_either1 cX9_either1 3 (some FieldType.int) ∈ mGW), gi_initialized_RX9, ⟨by decide +kernel, by decide +kernel, by decide +kernel⟩, by decide⟩
theorem mmf_179 : mMf 179 0 := ⟨(mgw_6 44 rfl rfl : Cond.code yX9_atom0 cX9_atom0 2 (some FieldType.int) ∈ mGW), gi_initialized_RX9, ⟨by decide +kernel, by decide +kernel, by decide +kernel⟩, by decide⟩
theorem mmf_180 : mMf 180 0 := ⟨(mgw_6 40 rfl rfl : Cond.code yX9_term0 cX9_term0 2 (some FieldType.int) ∈ mGW), gi_initialized_RX9, ⟨by decide +kernel, by decide +kernel, by decide +kernel⟩, by decide⟩
theorem mmf_181 : mMf 181 0 := ⟨(mgw_6 36 rfl rfl : Cond.code yX9_added0 cX9_added0 4 (some FieldType.int) ∈ mGW), gi_initialized_RX9, ⟨by decide +kernel, by decide +kernel, by decide +kernel⟩, by decide⟩
theorem mmf_182 : mMf 182 0 := ⟨(mgw_5 146 rfl rfl : Cond.code yX9_not0 cX9_not0 4 (some FieldType.int) ∈ mGW), gi_initialized_RX9, ⟨by decide +kernel, by decide +kernel, by decide +kernel⟩, by decide⟩
theorem mmf_183 : mMf 183 0 := ⟨(mgw_5 142 rfl rfl : Cond.code yX9_both0 cX9_both0 3 (some FieldType.int) ∈ mGW), gi_initialized_RX9, ⟨by decide +kernel, by decide +kernel, by decide +kernel⟩, by decide⟩
theorem mmf_184 : mMf 184 0 := ⟨(mgw_5 138 rfl rfl : Cond.code yX9_either0 cX9_either0 3 (some FieldType.int) ∈ mGW), gi_initialized_RX9, ⟨by decide +kernel, by decide +kernel, by decide +kernel⟩, by decide⟩
theorem mmf_185 : mMf 185 1 := ⟨(mgw_5 130 rfl rfl : Cond.code yX9_part cX9_part 3 (some FieldType.int) ∈ mGW), gi_initialized_RX9, ⟨by decide +kernel, by decide +kernel, by decide +kernel⟩, by decide⟩
theorem mmf_186 : mMf 186 2 := ⟨(mgw_5 105 rfl rfl : Cond.code yX9_read cX9_read 6 (some FieldType.int) ∈ mGW), gi_initialized_RX9, ⟨by decide +kernel, by decide +kernel, by decide +kernel⟩, by decide⟩
theorem mmf_187 : mMf 187 0 := ⟨(mgw_5 101 rfl rfl : Cond.code yX9_text cX9_text 2 (some FieldType.int) ∈ mGW), gi_initialized_RX9, ⟨by decide +kernel, by decide +kernel, by decide +kernel⟩, by decide⟩
theorem mmf_188 : mMf 188 1 := ⟨(mgw_6 56 rfl rfl : Cond.code yX9_force cX9_force 3 (some FieldType.int) ∈ mGW), gi_initialized_RX9, ⟨by decide +kernel, by decide +kernel, by decide +kernel⟩, by decide⟩
theorem mmf_189 : mMf 189 6 := ⟨(mgw_6 72 rfl rfl : Cond.code yX9_says cX9_says 7 (some FieldType.int) ∈ mGW), gi_initialized_RX9, ⟨by decide +kernel, by decide +kernel, by decide +kernel⟩, by decide⟩
theorem mmf_190 : mMf 190 1 := ⟨(mgw_6 64 rfl rfl : Cond.code yX9_rainAt cX9_rainAt 2 (some FieldType.int) ∈ mGW), gi_initialized_RX9, ⟨by decide +kernel, by decide +kernel, by decide +kernel⟩, by decide⟩
theorem mmf_191 : mMf 191 5 := ⟨(mgw_6 68 rfl rfl : Cond.code yX9_canGo cX9_canGo 7 (some FieldType.boolean) ∈ mGW), gi_initialized_RX9, ⟨by decide +kernel, by decide +kernel, by decide +kernel⟩, by decide⟩
theorem mmf_192 : mMf 192 5 := ⟨(mgw_6 79 rfl rfl : Cond.code yX9_hoursOf cX9_hoursOf 6 (some FieldType.int) ∈ mGW), gi_initialized_RX9, ⟨by decide +kernel, by decide +kernel, by decide +kernel⟩, by decide⟩
theorem mmf_193 : mMf 193 3 := ⟨(mgw_6 60 rfl rfl : Cond.code yX9_can cX9_can 5 (some FieldType.int) ∈ mGW), gi_initialized_RX9, ⟨by decide +kernel, by decide +kernel, by decide +kernel⟩, by decide⟩
theorem mmf_194 : mMf 194 2 := ⟨(mgw_6 91 rfl rfl : Cond.code yX9_goes cX9_goes 5 (some FieldType.boolean) ∈ mGW), gi_initialized_RX9, ⟨by decide +kernel, by decide +kernel, by decide +kernel⟩, by decide⟩
theorem mmf_195 : mMf 195 2 := ⟨(mgw_6 87 rfl rfl : Cond.code yX9_go cX9_go 3 (some FieldType.int) ∈ mGW), gi_initialized_RX9, ⟨by decide +kernel, by decide +kernel, by decide +kernel⟩, by decide⟩
theorem mmf_196 : mMf 196 3 := ⟨(mgw_6 103 rfl rfl : Cond.code yX9_seeks cX9_seeks 7 none ∈ mGW), gi_initialized_RX9, ⟨by decide +kernel, by decide +kernel, by decide +kernel⟩, by decide⟩
theorem mmf_197 : mMf 197 3 := ⟨(mgw_6 108 rfl rfl : Cond.code yX9_leaves cX9_leaves 10 none ∈ mGW), gi_initialized_RX9, ⟨by decide +kernel, by decide +kernel, by decide +kernel⟩, by decide⟩
theorem mmf_198 : mMf 198 3 := ⟨(mgw_6 99 rfl rfl : Cond.code yX9_soonest cX9_soonest 4 (some FieldType.int) ∈ mGW), gi_initialized_RX9, ⟨by decide +kernel, by decide +kernel, by decide +kernel⟩, by decide⟩
theorem mmf_199 : mMf 199 3 := ⟨(mgw_6 112 rfl rfl : Cond.code yX9_together cX9_together 11 (some FieldType.int) ∈ mGW), gi_initialized_RX9, ⟨by decide +kernel, by decide +kernel, by decide +kernel⟩, by decide⟩
theorem mmf_200 : mMf 200 3 := ⟨(mgw_6 116 rfl rfl : Cond.code yX9_lend cX9_lend 5 (some FieldType.int) ∈ mGW), gi_initialized_RX9, ⟨by decide +kernel, by decide +kernel, by decide +kernel⟩, by decide⟩
theorem mmf_201 : mMf 201 2 := ⟨(mgw_6 120 rfl rfl : Cond.code yX9_owed cX9_owed 3 (some FieldType.int) ∈ mGW), gi_initialized_RX9, ⟨by decide +kernel, by decide +kernel, by decide +kernel⟩, by decide⟩
theorem mmf_202 : mMf 202 3 := ⟨(mgw_6 128 rfl rfl : Cond.code yX9_takesRing cX9_takesRing 8 (some FieldType.int) ∈ mGW), gi_initialized_RX9, ⟨by decide +kernel, by decide +kernel, by decide +kernel⟩, by decide⟩
theorem mmf_203 : mMf 203 0 := ⟨(mgw_6 124 rfl rfl : Cond.code yX9_rings cX9_rings 7 (some FieldType.int) ∈ mGW), gi_initialized_RX9, ⟨by decide +kernel, by decide +kernel, by decide +kernel⟩, by decide⟩
theorem mmf_204 : mMf 204 2 := ⟨(mgw_6 132 rfl rfl : Cond.code yX9_shaken cX9_shaken 10 (some FieldType.int) ∈ mGW), gi_initialized_RX9, ⟨by decide +kernel, by decide +kernel, by decide +kernel⟩, by decide⟩
theorem mmf_205 : mMf 205 1 := ⟨(mgw_6 136 rfl rfl : Cond.code yX9_prints cX9_prints 8 (some FieldType.int) ∈ mGW), gi_initialized_RX9, ⟨by decide +kernel, by decide +kernel, by decide +kernel⟩, by decide⟩
theorem mmf_206 : mMf 206 3 := ⟨(mgw_6 144 rfl rfl : Cond.code yX9_out cX9_out 7 (some FieldType.int) ∈ mGW), gi_initialized_RX9, ⟨by decide +kernel, by decide +kernel, by decide +kernel⟩, by decide⟩
theorem mmf_207 : mMf 207 2 := ⟨(mgw_6 148 rfl rfl : Cond.code yX9_road cX9_road 12 (some FieldType.int) ∈ mGW), gi_initialized_RX9, ⟨by decide +kernel, by decide +kernel, by decide +kernel⟩, by decide⟩
theorem mmf_208 : mMf 208 0 := ⟨(mgw_6 157 rfl rfl : Cond.code yX9_laysAside cX9_laysAside 2 none ∈ mGW), gi_initialized_RX9, ⟨by decide +kernel, by decide +kernel, by decide +kernel⟩, by decide⟩
theorem mmf_209 : mMf 209 0 := ⟨(mgw_6 161 rfl rfl : Cond.code yX9_laysBack cX9_laysBack 2 none ∈ mGW), gi_initialized_RX9, ⟨by decide +kernel, by decide +kernel, by decide +kernel⟩, by decide⟩
theorem mmf_210 : mMf 210 1 := ⟨(mgw_6 153 rfl rfl : Cond.code yX9_judge cX9_judge 6 (some FieldType.int) ∈ mGW), gi_initialized_RX9, ⟨by decide +kernel, by decide +kernel, by decide +kernel⟩, by decide⟩
theorem mmf_211 : mMf 211 3 := ⟨(mgw_6 170 rfl rfl : Cond.code yX9_draws cX9_draws 7 (some FieldType.int) ∈ mGW), gi_initialized_RX9, ⟨by decide +kernel, by decide +kernel, by decide +kernel⟩, by decide⟩
theorem mmf_212 : mMf 212 3 := ⟨(mgw_6 165 rfl rfl : Cond.code yX9_drawn cX9_drawn 4 (some FieldType.int) ∈ mGW), gi_initialized_RX9, ⟨by decide +kernel, by decide +kernel, by decide +kernel⟩, by decide⟩
theorem mmf_213 : mMf 213 5 := ⟨(mgw_6 175 rfl rfl : Cond.code yX9_chance cX9_chance 14 (some FieldType.long) ∈ mGW), gi_initialized_RX9, ⟨by decide +kernel, by decide +kernel, by decide +kernel⟩, by decide⟩
theorem mmf_214 : mMf 214 0 := ⟨(mgw_6 181 rfl rfl : Cond.code yX9_image cX9_image 2 (some FieldType.int) ∈ mGW), gi_initialized_RX9, ⟨by decide +kernel, by decide +kernel, by decide +kernel⟩, by decide⟩
theorem mmf_215 : mMf 215 0 := ⟨(mgw_6 185 rfl rfl : Cond.code yX9_back cX9_back 2 (some FieldType.int) ∈ mGW), gi_initialized_RX9, ⟨by decide +kernel, by decide +kernel, by decide +kernel⟩, by decide⟩
theorem mmf_216 : mMf 216 1 := ⟨(mgw_6 189 rfl rfl : Cond.code yX9_count cX9_count 4 (some FieldType.int) ∈ mGW), gi_initialized_RX9, ⟨by decide +kernel, by decide +kernel, by decide +kernel⟩, by decide⟩
theorem mmf_217 : mMf 217 1 := ⟨(mgw_6 139 rfl rfl : Cond.code yX9_isSheet cX9_isSheet 1 (some FieldType.boolean) ∈ mGW), gi_initialized_RX9, ⟨by decide +kernel, by decide +kernel, by decide +kernel⟩, by decide⟩
theorem mmf_218 : mMf 218 3 := ⟨(mgw_6 194 rfl rfl : Cond.code yX9_sheet cX9_sheet 5 (some FieldType.int) ∈ mGW), gi_initialized_RX9, ⟨by decide +kernel, by decide +kernel, by decide +kernel⟩, by decide⟩
theorem mmf_219 : mMf 219 3 := ⟨(mgw_6 199 rfl rfl : Cond.code yX9_cell cX9_cell 4 (some FieldType.int) ∈ mGW), gi_initialized_RX9, ⟨by decide +kernel, by decide +kernel, by decide +kernel⟩, by decide⟩
theorem mmf_220 : mMf 220 5 := ⟨(mgw_6 203 rfl rfl : Cond.code yX9_copy cX9_copy 9 (some FieldType.int) ∈ mGW), gi_initialized_RX9, ⟨by decide +kernel, by decide +kernel, by decide +kernel⟩, by decide⟩
theorem mmf_221 : mMf 221 4 := ⟨(mgw_6 207 rfl rfl : Cond.code yX9_muds cX9_muds 8 (some FieldType.int) ∈ mGW), gi_initialized_RX9, ⟨by decide +kernel, by decide +kernel, by decide +kernel⟩, by decide⟩
theorem mmf_222 : mMf 222 1 := ⟨(mgw_6 216 rfl rfl : Cond.code yX9_over cX9_over 1 (some FieldType.int) ∈ mGW), gi_initialized_RX9, ⟨by decide +kernel, by decide +kernel, by decide +kernel⟩, by decide⟩
theorem mmf_223 : mMf 223 2 := ⟨(mgw_6 213 rfl rfl : Cond.code yX9_taken cX9_taken 4 (some FieldType.int) ∈ mGW), gi_initialized_RX9, ⟨by decide +kernel, by decide +kernel, by decide +kernel⟩, by decide⟩
theorem mmf_224 : mMf 224 2 := ⟨(mgw_3 3 rfl rfl : Cond.code yJ9_floorMod_7cf53 cJ9_floorMod_7cf53 3 (some FieldType.int) ∈ mGW), gi_initialized_RJ9, ⟨by decide +kernel, by decide +kernel, by decide +kernel⟩, by decide⟩
theorem mmf_225 : mMf 225 2 := ⟨(mgw_2 31 rfl rfl : Cond.code yJ9_max_7cf53 cJ9_max_7cf53 2 (some FieldType.int) ∈ mGW), gi_initialized_RJ9, ⟨by decide +kernel, by decide +kernel, by decide +kernel⟩, by decide⟩
theorem mmf_226 : mMf 226 2 := ⟨(mgw_2 24 rfl rfl : Cond.code yJ9_min_7cf53 cJ9_min_7cf53 2 (some FieldType.int) ∈ mGW), gi_initialized_RJ9, ⟨by decide +kernel, by decide +kernel, by decide +kernel⟩, by decide⟩
theorem mmf_227 : mMf 227 0 := ⟨(mgw_1 213 rfl rfl : Cond.code yJ0_length_8abf5 cJ0_length_8abf5 1 (some FieldType.int) ∈ mGW), gi_initialized_RJ0, ⟨by decide +kernel, by decide +kernel, by decide +kernel⟩, by decide⟩
theorem mmf_228 : mMf 228 1 := ⟨(mgw_1 223 rfl rfl : Cond.code yJ0_charAt_5068e cJ0_charAt_5068e 2 (some FieldType.char) ∈ mGW), gi_initialized_RJ0, ⟨by decide +kernel, by decide +kernel, by decide +kernel⟩, by decide⟩
theorem mmf_229 : mMf 229 0 := ⟨(mgw_1 217 rfl rfl : Cond.code yJ0_coder_7d493 cJ0_coder_7d493 1 (some FieldType.byte) ∈ mGW), gi_initialized_RJ0, ⟨by decide +kernel, by decide +kernel, by decide +kernel⟩, by decide⟩
theorem mmf_230 : mMf 230 0 := ⟨(mgw_1 227 rfl rfl : Cond.code yJ0_isLatin1_aae02 cJ0_isLatin1_aae02 1 (some FieldType.boolean) ∈ mGW), gi_initialized_RJ0, ⟨by decide +kernel, by decide +kernel, by decide +kernel⟩, by decide⟩
theorem mmf_231 : mMf 231 2 := ⟨(mgw_1 233 rfl rfl : Cond.code yJ0_checkIndex_df160 cJ0_checkIndex_df160 2 none ∈ mGW), gi_initialized_RJ0, ⟨by decide +kernel, by decide +kernel, by decide +kernel⟩, by decide⟩
theorem mmf_232 : mMf 232 2 := ⟨(mgw_1 230 rfl rfl : Cond.code yJ1_charAt_3b067 cJ1_charAt_3b067 2 (some FieldType.char) ∈ mGW), gi_initialized_RJ1, ⟨by decide +kernel, by decide +kernel, by decide +kernel⟩, by decide⟩
theorem mmf_233 : mMf 233 2 := ⟨(mgw_2 11 rfl rfl : Cond.code yJ2_getChar_3b067 cJ2_getChar_3b067 2 (some FieldType.char) ∈ mGW), gi_initialized_RJ2, ⟨by decide +kernel, by decide +kernel, by decide +kernel⟩, by decide⟩
theorem mmf_234 : mMf 234 1 := ⟨(mgw_2 7 rfl rfl : Cond.code yJ2_length_9d52b cJ2_length_9d52b 1 (some FieldType.int) ∈ mGW), gi_initialized_RJ2, ⟨by decide +kernel, by decide +kernel, by decide +kernel⟩, by decide⟩
theorem mmf_235 : mMf 235 2 := ⟨(mgw_2 1 rfl rfl : Cond.code yJ2_charAt_3b067 cJ2_charAt_3b067 2 (some FieldType.char) ∈ mGW), gi_initialized_RJ2, ⟨by decide +kernel, by decide +kernel, by decide +kernel⟩, by decide⟩
theorem mmf_236 : mMf 236 2 := ⟨(mgw_2 4 rfl rfl : Cond.code yJ2_checkIndex_2214a cJ2_checkIndex_2214a 2 none ∈ mGW), gi_initialized_RJ2, ⟨by decide +kernel, by decide +kernel, by decide +kernel⟩, by decide⟩
theorem mmf_237 : mMf 237 2 := ⟨(mgw_3 105 rfl rfl : Cond.code yJ7_fill_53178 cJ7_fill_53178 4 none ∈ mGW), gi_initialized_RJ7, ⟨by decide +kernel, by decide +kernel, by decide +kernel⟩, by decide⟩
theorem mmf_238 : mMf 238 2 := ⟨(mgw_2 104 rfl rfl : Cond.code yJ7_copyOf_59c91 cJ7_copyOf_59c91 3 (some (FieldType.array FieldType.int)) ∈ mGW), gi_initialized_RJ7, ⟨by decide +kernel, by decide +kernel, by decide +kernel⟩, by decide⟩
theorem mmf_239 : mMf 239 3 := ⟨(mgw_1 238 rfl rfl : Cond.code yJ3_checkIndex_8e157 cJ3_checkIndex_8e157 3 (some FieldType.int) ∈ mGW), gi_initialized_RJ3, ⟨by decide +kernel, by decide +kernel, by decide +kernel⟩, by decide⟩
