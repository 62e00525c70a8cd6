def mX12_init : MRec := (RX12, cX12_init, 2, (none : Option Jvm.ClassFile.FieldType), yX12_init, 1, 23, 113, 19203, 8498207885068273579033411304839498037273489883632510771191106211206535781025362902823978079484902518213105895774386387355828912333174116938580551385124385758632032909700258804380205056)
set_option maxHeartbeats 8000000 in
theorem t_X12_init {K : Kmap} {V : Vmap} {x : Nat} (h_x : K x = some (0, 23)) (h_d : ∀ j, V x j = defaultValue (tyX12 j)) : MC mX12_init K V [.ref x] (VX (fun K1 V1 => (K1 x = some (0, 11) ∧ vi V1 x 10 = 0 ∧ vi V1 x 47 = 0 ∧ vi V1 x 48 = 0 ∧ vi V1 x 30 = 0 ∧ vi V1 x 9 = 0 ∧ vi V1 x 2 = 0 ∧ vi V1 x 91 = 0 ∧ vi V1 x 133 = 0 ∧ vi V1 x 120 = 0 ∧ ZB V1 x 135 63 ∧ ZB V1 x 136 441) ∧ KE K K1 x)) := by
  refine MC.start 1 (by decide +kernel) rfl rfl rfl (ls0 := [some (.ref x), none]) rfl ?_
  have pf1 := PF.nil h_d
  refine GO.aload_n dX12_init_0 rfl rfl ?_
  refine GO.objInit dX12_init_1 gw_1477 gw_27 gw_28 rfl rfl ?_
  refine GO.aload_n dX12_init_4 rfl rfl ?_
  refine GO.bipush dX12_init_5 rfl ?_
  refine GO.putRW rfl (by decide +kernel) h_x fp_raw_fp_RX12_7 rfl rfl dX12_init_7 (fun V3 e2 => ?_)
  have pf4 := PF.put pf1 e2 rfl
  clear pf1
  refine GO.aload_n dX12_init_10 rfl rfl ?_
  refine GO.sipush dX12_init_11 rfl ?_
  refine GO.putRW rfl (by decide +kernel) h_x fp_raw_fp_RX12_13 rfl rfl dX12_init_14 (fun V6 e5 => ?_)
  have pf7 := PF.put pf4 e5 rfl
  clear pf4
  refine GO.aload_n dX12_init_17 rfl rfl ?_
  refine GO.sipush dX12_init_18 rfl ?_
  refine GO.newT (atype := .int) 9 144 gw_89 rfl rfl (fun _ _ h => h) rfl rfl rfl (Or.inr rfl) (fun _ => okv_df rfl rfl rfl) rfl rfl dX12_init_21 (fun o8 K9 V15 hq10 hK11 hE12 h13 _ hV14 => ?_)
  have h16 := (by rw [hK11, updK_ne (K_old h_x hq10)]; exact h_x : K9 x = some (0, 23))
  have pf17 := PF.nw pf7 hV14 (K_old h_x hq10)
  have h18 := KE.nw KE.rf h_x hq10
  clear pf7
  refine GO.putRF rfl rfl (by decide +kernel) h16 fp_raw_fp_RX12_16 rfl rfl dX12_init_23 (fun V20 e19 => ?_)
  have pf21 := PF.put pf17 e19 rfl
  clear pf17
  refine GO.aload_n dX12_init_26 rfl rfl ?_
  refine GO.sipush dX12_init_27 rfl ?_
  refine GO.newT (atype := .int) 10 144 gw_89 rfl rfl (fun _ _ h => h) rfl rfl rfl (Or.inr rfl) (fun _ => okv_df rfl rfl rfl) rfl rfl dX12_init_30 (fun o22 K23 V29 hq24 hK25 hE26 h27 _ hV28 => ?_)
  have h30 := (by rw [hK25, updK_ne (K_old h16 hq24)]; exact h16 : K23 x = some (0, 23))
  have pf31 := PF.nw pf21 hV28 (K_old h16 hq24)
  have h32 := KE.nw (KE.new KE.rf hq10 hK11) h16 hq24
  clear pf21
  refine GO.putRF rfl rfl (by decide +kernel) h30 fp_raw_fp_RX12_20 rfl rfl dX12_init_32 (fun V34 e33 => ?_)
  have pf35 := PF.put pf31 e33 rfl
  clear pf31
  refine GO.aload_n dX12_init_35 rfl rfl ?_
  refine GO.sipush dX12_init_36 rfl ?_
  refine GO.newT (atype := .int) 11 144 gw_89 rfl rfl (fun _ _ h => h) rfl rfl rfl (Or.inr rfl) (fun _ => okv_df rfl rfl rfl) rfl rfl dX12_init_39 (fun o36 K37 V43 hq38 hK39 hE40 h41 _ hV42 => ?_)
  have h44 := (by rw [hK39, updK_ne (K_old h30 hq38)]; exact h30 : K37 x = some (0, 23))
  have pf45 := PF.nw pf35 hV42 (K_old h30 hq38)
  have h46 := KE.nw (KE.new (KE.new KE.rf hq10 hK11) hq24 hK25) h30 hq38
  clear pf35
  refine GO.putRF rfl rfl (by decide +kernel) h44 fp_raw_fp_RX12_23 rfl rfl dX12_init_41 (fun V48 e47 => ?_)
  have pf49 := PF.put pf45 e47 rfl
  clear pf45
  refine GO.aload_n dX12_init_44 rfl rfl ?_
  refine GO.sipush dX12_init_45 rfl ?_
  refine GO.newT (atype := .int) 12 144 gw_89 rfl rfl (fun _ _ h => h) rfl rfl rfl (Or.inr rfl) (fun _ => okv_df rfl rfl rfl) rfl rfl dX12_init_48 (fun o50 K51 V57 hq52 hK53 hE54 h55 _ hV56 => ?_)
  have h58 := (by rw [hK53, updK_ne (K_old h44 hq52)]; exact h44 : K51 x = some (0, 23))
  have pf59 := PF.nw pf49 hV56 (K_old h44 hq52)
  have h60 := KE.nw (KE.new (KE.new (KE.new KE.rf hq10 hK11) hq24 hK25) hq38 hK39) h44 hq52
  clear pf49
  refine GO.putRF rfl rfl (by decide +kernel) h58 fp_raw_fp_RX12_26 rfl rfl dX12_init_50 (fun V62 e61 => ?_)
  have pf63 := PF.put pf59 e61 rfl
  clear pf59
  refine GO.aload_n dX12_init_53 rfl rfl ?_
  refine GO.bipush dX12_init_54 rfl ?_
  refine GO.newT (atype := .int) 13 9 gw_89 rfl rfl (fun _ _ h => h) rfl rfl rfl (Or.inr rfl) (fun _ => okv_df rfl rfl rfl) rfl rfl dX12_init_56 (fun o64 K65 V71 hq66 hK67 hE68 h69 _ hV70 => ?_)
  have h72 := (by rw [hK67, updK_ne (K_old h58 hq66)]; exact h58 : K65 x = some (0, 23))
  have pf73 := PF.nw pf63 hV70 (K_old h58 hq66)
  have h74 := KE.nw (KE.new (KE.new (KE.new (KE.new KE.rf hq10 hK11) hq24 hK25) hq38 hK39) hq52 hK53) h58 hq66
  clear pf63
  refine GO.putRF rfl rfl (by decide +kernel) h72 fp_raw_fp_RX12_29 rfl rfl dX12_init_58 (fun V76 e75 => ?_)
  have pf77 := PF.put pf73 e75 rfl
  clear pf73
  refine GO.aload_n dX12_init_61 rfl rfl ?_
  refine GO.bipush dX12_init_62 rfl ?_
  refine GO.newT (atype := .int) 14 9 gw_89 rfl rfl (fun _ _ h => h) rfl rfl rfl (Or.inr rfl) (fun _ => okv_df rfl rfl rfl) rfl rfl dX12_init_64 (fun o78 K79 V85 hq80 hK81 hE82 h83 _ hV84 => ?_)
  have h86 := (by rw [hK81, updK_ne (K_old h72 hq80)]; exact h72 : K79 x = some (0, 23))
  have pf87 := PF.nw pf77 hV84 (K_old h72 hq80)
  have h88 := KE.nw (KE.new (KE.new (KE.new (KE.new (KE.new KE.rf hq10 hK11) hq24 hK25) hq38 hK39) hq52 hK53) hq66 hK67) h72 hq80
  clear pf77
  refine GO.putRF rfl rfl (by decide +kernel) h86 fp_raw_fp_RX12_32 rfl rfl dX12_init_66 (fun V90 e89 => ?_)
  have pf91 := PF.put pf87 e89 rfl
  clear pf87
  refine GO.aload_n dX12_init_69 rfl rfl ?_
  refine GO.bipush dX12_init_70 rfl ?_
  refine GO.newT (atype := .int) 15 60 gw_89 rfl rfl (fun _ _ h => h) rfl rfl rfl (Or.inr rfl) (fun _ => okv_df rfl rfl rfl) rfl rfl dX12_init_72 (fun o92 K93 V99 hq94 hK95 hE96 h97 _ hV98 => ?_)
  have h100 := (by rw [hK95, updK_ne (K_old h86 hq94)]; exact h86 : K93 x = some (0, 23))
  have pf101 := PF.nw pf91 hV98 (K_old h86 hq94)
  have h102 := KE.nw (KE.new (KE.new (KE.new (KE.new (KE.new (KE.new KE.rf hq10 hK11) hq24 hK25) hq38 hK39) hq52 hK53) hq66 hK67) hq80 hK81) h86 hq94
  clear pf91
  refine GO.putRF rfl rfl (by decide +kernel) h100 fp_raw_fp_RX12_35 rfl rfl dX12_init_74 (fun V104 e103 => ?_)
  have pf105 := PF.put pf101 e103 rfl
  clear pf101
  refine GO.aload_n dX12_init_77 rfl rfl ?_
  refine GO.bipush dX12_init_78 rfl ?_
  refine GO.newT (atype := .int) 16 60 gw_89 rfl rfl (fun _ _ h => h) rfl rfl rfl (Or.inr rfl) (fun _ => okv_df rfl rfl rfl) rfl rfl dX12_init_80 (fun o106 K107 V113 hq108 hK109 hE110 h111 _ hV112 => ?_)
  have h114 := (by rw [hK109, updK_ne (K_old h100 hq108)]; exact h100 : K107 x = some (0, 23))
  have pf115 := PF.nw pf105 hV112 (K_old h100 hq108)
  have h116 := KE.nw (KE.new (KE.new (KE.new (KE.new (KE.new (KE.new (KE.new KE.rf hq10 hK11) hq24 hK25) hq38 hK39) hq52 hK53) hq66 hK67) hq80 hK81) hq94 hK95) h100 hq108
  clear pf105
  refine GO.putRF rfl rfl (by decide +kernel) h114 fp_raw_fp_RX12_38 rfl rfl dX12_init_82 (fun V118 e117 => ?_)
  have pf119 := PF.put pf115 e117 rfl
  clear pf115
  refine GO.aload_n dX12_init_85 rfl rfl ?_
  refine GO.bipush dX12_init_86 rfl ?_
  refine GO.newT (atype := .int) 17 60 gw_89 rfl rfl (fun _ _ h => h) rfl rfl rfl (Or.inr rfl) (fun _ => okv_df rfl rfl rfl) rfl rfl dX12_init_88 (fun o120 K121 V127 hq122 hK123 hE124 h125 _ hV126 => ?_)
  have h128 := (by rw [hK123, updK_ne (K_old h114 hq122)]; exact h114 : K121 x = some (0, 23))
  have pf129 := PF.nw pf119 hV126 (K_old h114 hq122)
  have h130 := KE.nw (KE.new (KE.new (KE.new (KE.new (KE.new (KE.new (KE.new (KE.new KE.rf hq10 hK11) hq24 hK25) hq38 hK39) hq52 hK53) hq66 hK67) hq80 hK81) hq94 hK95) hq108 hK109) h114 hq122
  clear pf119
  refine GO.putRF rfl rfl (by decide +kernel) h128 fp_raw_fp_RX12_41 rfl rfl dX12_init_90 (fun V132 e131 => ?_)
  have pf133 := PF.put pf129 e131 rfl
  clear pf129
  refine GO.aload_n dX12_init_93 rfl rfl ?_
  refine GO.bipush dX12_init_94 rfl ?_
  refine GO.newT (atype := .int) 18 60 gw_89 rfl rfl (fun _ _ h => h) rfl rfl rfl (Or.inr rfl) (fun _ => okv_df rfl rfl rfl) rfl rfl dX12_init_96 (fun o134 K135 V141 hq136 hK137 hE138 h139 _ hV140 => ?_)
  have h142 := (by rw [hK137, updK_ne (K_old h128 hq136)]; exact h128 : K135 x = some (0, 23))
  have pf143 := PF.nw pf133 hV140 (K_old h128 hq136)
  have h144 := KE.nw (KE.new (KE.new (KE.new (KE.new (KE.new (KE.new (KE.new (KE.new (KE.new KE.rf hq10 hK11) hq24 hK25) hq38 hK39) hq52 hK53) hq66 hK67) hq80 hK81) hq94 hK95) hq108 hK109) hq122 hK123) h128 hq136
  clear pf133
  refine GO.putRF rfl rfl (by decide +kernel) h142 fp_raw_fp_RX12_44 rfl rfl dX12_init_98 (fun V146 e145 => ?_)
  have pf147 := PF.put pf143 e145 rfl
  clear pf143
  refine GO.aload_n dX12_init_101 rfl rfl ?_
  refine GO.bipush dX12_init_102 rfl ?_
  refine GO.newT (atype := .int) 19 60 gw_89 rfl rfl (fun _ _ h => h) rfl rfl rfl (Or.inr rfl) (fun _ => okv_df rfl rfl rfl) rfl rfl dX12_init_104 (fun o148 K149 V155 hq150 hK151 hE152 h153 _ hV154 => ?_)
  have h156 := (by rw [hK151, updK_ne (K_old h142 hq150)]; exact h142 : K149 x = some (0, 23))
  have pf157 := PF.nw pf147 hV154 (K_old h142 hq150)
  have h158 := KE.nw (KE.new (KE.new (KE.new (KE.new (KE.new (KE.new (KE.new (KE.new (KE.new (KE.new KE.rf hq10 hK11) hq24 hK25) hq38 hK39) hq52 hK53) hq66 hK67) hq80 hK81) hq94 hK95) hq108 hK109) hq122 hK123) hq136 hK137) h142 hq150
  clear pf147
  refine GO.putRF rfl rfl (by decide +kernel) h156 fp_raw_fp_RX12_47 rfl rfl dX12_init_106 (fun V160 e159 => ?_)
  have pf161 := PF.put pf157 e159 rfl
  clear pf157
  refine GO.aload_n dX12_init_109 rfl rfl ?_
  refine GO.bipush dX12_init_110 rfl ?_
  refine GO.newT (atype := .int) 20 60 gw_89 rfl rfl (fun _ _ h => h) rfl rfl rfl (Or.inr rfl) (fun _ => okv_df rfl rfl rfl) rfl rfl dX12_init_112 (fun o162 K163 V169 hq164 hK165 hE166 h167 _ hV168 => ?_)
  have h170 := (by rw [hK165, updK_ne (K_old h156 hq164)]; exact h156 : K163 x = some (0, 23))
  have pf171 := PF.nw pf161 hV168 (K_old h156 hq164)
  have h172 := KE.nw (KE.new (KE.new (KE.new (KE.new (KE.new (KE.new (KE.new (KE.new (KE.new (KE.new (KE.new KE.rf hq10 hK11) hq24 hK25) hq38 hK39) hq52 hK53) hq66 hK67) hq80 hK81) hq94 hK95) hq108 hK109) hq122 hK123) hq136 hK137) hq150 hK151) h156 hq164
  clear pf161
  refine GO.putRF rfl rfl (by decide +kernel) h170 fp_raw_fp_RX12_50 rfl rfl dX12_init_114 (fun V174 e173 => ?_)
  have pf175 := PF.put pf171 e173 rfl
  clear pf171
  refine GO.aload_n dX12_init_117 rfl rfl ?_
  refine GO.bipush dX12_init_118 rfl ?_
  refine GO.newT (atype := .int) 21 60 gw_89 rfl rfl (fun _ _ h => h) rfl rfl rfl (Or.inr rfl) (fun _ => okv_df rfl rfl rfl) rfl rfl dX12_init_120 (fun o176 K177 V183 hq178 hK179 hE180 h181 _ hV182 => ?_)
  have h184 := (by rw [hK179, updK_ne (K_old h170 hq178)]; exact h170 : K177 x = some (0, 23))
  have pf185 := PF.nw pf175 hV182 (K_old h170 hq178)
  have h186 := KE.nw (KE.new (KE.new (KE.new (KE.new (KE.new (KE.new (KE.new (KE.new (KE.new (KE.new (KE.new (KE.new KE.rf hq10 hK11) hq24 hK25) hq38 hK39) hq52 hK53) hq66 hK67) hq80 hK81) hq94 hK95) hq108 hK109) hq122 hK123) hq136 hK137) hq150 hK151) hq164 hK165) h170 hq178
  clear pf175
  refine GO.putRF rfl rfl (by decide +kernel) h184 fp_raw_fp_RX12_53 rfl rfl dX12_init_122 (fun V188 e187 => ?_)
  have pf189 := PF.put pf185 e187 rfl
  clear pf185
  refine GO.aload_n dX12_init_125 rfl rfl ?_
  refine GO.bipush dX12_init_126 rfl ?_
  refine GO.newT (atype := .int) 22 60 gw_89 rfl rfl (fun _ _ h => h) rfl rfl rfl (Or.inr rfl) (fun _ => okv_df rfl rfl rfl) rfl rfl dX12_init_128 (fun o190 K191 V197 hq192 hK193 hE194 h195 _ hV196 => ?_)
  have h198 := (by rw [hK193, updK_ne (K_old h184 hq192)]; exact h184 : K191 x = some (0, 23))
  have pf199 := PF.nw pf189 hV196 (K_old h184 hq192)
  have h200 := KE.nw (KE.new (KE.new (KE.new (KE.new (KE.new (KE.new (KE.new (KE.new (KE.new (KE.new (KE.new (KE.new (KE.new KE.rf hq10 hK11) hq24 hK25) hq38 hK39) hq52 hK53) hq66 hK67) hq80 hK81) hq94 hK95) hq108 hK109) hq122 hK123) hq136 hK137) hq150 hK151) hq164 hK165) hq178 hK179) h184 hq192
  clear pf189
  refine GO.putRF rfl rfl (by decide +kernel) h198 fp_raw_fp_RX12_56 rfl rfl dX12_init_130 (fun V202 e201 => ?_)
  have pf203 := PF.put pf199 e201 rfl
  clear pf199
  refine GO.aload_n dX12_init_133 rfl rfl ?_
  refine GO.bipush dX12_init_134 rfl ?_
  refine GO.newT (atype := .int) 23 60 gw_89 rfl rfl (fun _ _ h => h) rfl rfl rfl (Or.inr rfl) (fun _ => okv_df rfl rfl rfl) rfl rfl dX12_init_136 (fun o204 K205 V211 hq206 hK207 hE208 h209 _ hV210 => ?_)
  have h212 := (by rw [hK207, updK_ne (K_old h198 hq206)]; exact h198 : K205 x = some (0, 23))
  have pf213 := PF.nw pf203 hV210 (K_old h198 hq206)
  have h214 := KE.nw (KE.new (KE.new (KE.new (KE.new (KE.new (KE.new (KE.new (KE.new (KE.new (KE.new (KE.new (KE.new (KE.new (KE.new KE.rf hq10 hK11) hq24 hK25) hq38 hK39) hq52 hK53) hq66 hK67) hq80 hK81) hq94 hK95) hq108 hK109) hq122 hK123) hq136 hK137) hq150 hK151) hq164 hK165) hq178 hK179) hq192 hK193) h198 hq206
  clear pf203
  refine GO.putRF rfl rfl (by decide +kernel) h212 fp_raw_fp_RX12_59 rfl rfl dX12_init_138 (fun V216 e215 => ?_)
  have pf217 := PF.put pf213 e215 rfl
  clear pf213
  refine GO.aload_n dX12_init_141 rfl rfl ?_
  refine GO.bipush dX12_init_142 rfl ?_
  refine GO.newT (atype := .int) 24 60 gw_89 rfl rfl (fun _ _ h => h) rfl rfl rfl (Or.inr rfl) (fun _ => okv_df rfl rfl rfl) rfl rfl dX12_init_144 (fun o218 K219 V225 hq220 hK221 hE222 h223 _ hV224 => ?_)
  have h226 := (by rw [hK221, updK_ne (K_old h212 hq220)]; exact h212 : K219 x = some (0, 23))
  have pf227 := PF.nw pf217 hV224 (K_old h212 hq220)
  have h228 := KE.nw (KE.new (KE.new (KE.new (KE.new (KE.new (KE.new (KE.new (KE.new (KE.new (KE.new (KE.new (KE.new (KE.new (KE.new (KE.new KE.rf hq10 hK11) hq24 hK25) hq38 hK39) hq52 hK53) hq66 hK67) hq80 hK81) hq94 hK95) hq108 hK109) hq122 hK123) hq136 hK137) hq150 hK151) hq164 hK165) hq178 hK179) hq192 hK193) hq206 hK207) h212 hq220
  clear pf217
  refine GO.putRF rfl rfl (by decide +kernel) h226 fp_raw_fp_RX12_62 rfl rfl dX12_init_146 (fun V230 e229 => ?_)
  have pf231 := PF.put pf227 e229 rfl
  clear pf227
  refine GO.aload_n dX12_init_149 rfl rfl ?_
  refine GO.sipush dX12_init_150 rfl ?_
  refine GO.newT (atype := .int) 25 240 gw_89 rfl rfl (fun _ _ h => h) rfl rfl rfl (Or.inr rfl) (fun _ => okv_df rfl rfl rfl) rfl rfl dX12_init_153 (fun o232 K233 V239 hq234 hK235 hE236 h237 _ hV238 => ?_)
  have h240 := (by rw [hK235, updK_ne (K_old h226 hq234)]; exact h226 : K233 x = some (0, 23))
  have pf241 := PF.nw pf231 hV238 (K_old h226 hq234)
  have h242 := KE.nw (KE.new (KE.new (KE.new (KE.new (KE.new (KE.new (KE.new (KE.new (KE.new (KE.new (KE.new (KE.new (KE.new (KE.new (KE.new (KE.new KE.rf hq10 hK11) hq24 hK25) hq38 hK39) hq52 hK53) hq66 hK67) hq80 hK81) hq94 hK95) hq108 hK109) hq122 hK123) hq136 hK137) hq150 hK151) hq164 hK165) hq178 hK179) hq192 hK193) hq206 hK207) hq220 hK221) h226 hq234
  clear pf231
  refine GO.putRF rfl rfl (by decide +kernel) h240 fp_raw_fp_RX12_65 rfl rfl dX12_init_155 (fun V244 e243 => ?_)
  have pf245 := PF.put pf241 e243 rfl
  clear pf241
  refine GO.aload_n dX12_init_158 rfl rfl ?_
  refine GO.bipush dX12_init_159 rfl ?_
  refine GO.newT (atype := .int) 26 60 gw_89 rfl rfl (fun _ _ h => h) rfl rfl rfl (Or.inr rfl) (fun _ => okv_df rfl rfl rfl) rfl rfl dX12_init_161 (fun o246 K247 V253 hq248 hK249 hE250 h251 _ hV252 => ?_)
  have h254 := (by rw [hK249, updK_ne (K_old h240 hq248)]; exact h240 : K247 x = some (0, 23))
  have pf255 := PF.nw pf245 hV252 (K_old h240 hq248)
  have h256 := KE.nw (KE.new (KE.new (KE.new (KE.new (KE.new (KE.new (KE.new (KE.new (KE.new (KE.new (KE.new (KE.new (KE.new (KE.new (KE.new (KE.new (KE.new KE.rf hq10 hK11) hq24 hK25) hq38 hK39) hq52 hK53) hq66 hK67) hq80 hK81) hq94 hK95) hq108 hK109) hq122 hK123) hq136 hK137) hq150 hK151) hq164 hK165) hq178 hK179) hq192 hK193) hq206 hK207) hq220 hK221) hq234 hK235) h240 hq248
  clear pf245
  refine GO.putRF rfl rfl (by decide +kernel) h254 fp_raw_fp_RX12_68 rfl rfl dX12_init_163 (fun V258 e257 => ?_)
  have pf259 := PF.put pf255 e257 rfl
  clear pf255
  refine GO.aload_n dX12_init_166 rfl rfl ?_
  refine GO.bipush dX12_init_167 rfl ?_
  refine GO.newT (atype := .int) 27 60 gw_89 rfl rfl (fun _ _ h => h) rfl rfl rfl (Or.inr rfl) (fun _ => okv_df rfl rfl rfl) rfl rfl dX12_init_169 (fun o260 K261 V267 hq262 hK263 hE264 h265 _ hV266 => ?_)
  have h268 := (by rw [hK263, updK_ne (K_old h254 hq262)]; exact h254 : K261 x = some (0, 23))
  have pf269 := PF.nw pf259 hV266 (K_old h254 hq262)
  have h270 := KE.nw (KE.new (KE.new (KE.new (KE.new (KE.new (KE.new (KE.new (KE.new (KE.new (KE.new (KE.new (KE.new (KE.new (KE.new (KE.new (KE.new (KE.new (KE.new KE.rf hq10 hK11) hq24 hK25) hq38 hK39) hq52 hK53) hq66 hK67) hq80 hK81) hq94 hK95) hq108 hK109) hq122 hK123) hq136 hK137) hq150 hK151) hq164 hK165) hq178 hK179) hq192 hK193) hq206 hK207) hq220 hK221) hq234 hK235) hq248 hK249) h254 hq262
  clear pf259
  refine GO.putRF rfl rfl (by decide +kernel) h268 fp_raw_fp_RX12_71 rfl rfl dX12_init_171 (fun V272 e271 => ?_)
  have pf273 := PF.put pf269 e271 rfl
  clear pf269
  refine GO.aload_n dX12_init_174 rfl rfl ?_
  refine GO.sipush dX12_init_175 rfl ?_
  refine GO.newT (atype := .int) 28 600 gw_89 rfl rfl (fun _ _ h => h) rfl rfl rfl (Or.inr rfl) (fun _ => okv_df rfl rfl rfl) rfl rfl dX12_init_178 (fun o274 K275 V281 hq276 hK277 hE278 h279 _ hV280 => ?_)
  have h282 := (by rw [hK277, updK_ne (K_old h268 hq276)]; exact h268 : K275 x = some (0, 23))
  have pf283 := PF.nw pf273 hV280 (K_old h268 hq276)
  have h284 := KE.nw (KE.new (KE.new (KE.new (KE.new (KE.new (KE.new (KE.new (KE.new (KE.new (KE.new (KE.new (KE.new (KE.new (KE.new (KE.new (KE.new (KE.new (KE.new (KE.new KE.rf hq10 hK11) hq24 hK25) hq38 hK39) hq52 hK53) hq66 hK67) hq80 hK81) hq94 hK95) hq108 hK109) hq122 hK123) hq136 hK137) hq150 hK151) hq164 hK165) hq178 hK179) hq192 hK193) hq206 hK207) hq220 hK221) hq234 hK235) hq248 hK249) hq262 hK263) h268 hq276
  clear pf273
  refine GO.putRF rfl rfl (by decide +kernel) h282 fp_raw_fp_RX12_74 rfl rfl dX12_init_180 (fun V286 e285 => ?_)
  have pf287 := PF.put pf283 e285 rfl
  clear pf283
  refine GO.aload_n dX12_init_183 rfl rfl ?_
  refine GO.sipush dX12_init_184 rfl ?_
  refine GO.newT (atype := .int) 29 600 gw_89 rfl rfl (fun _ _ h => h) rfl rfl rfl (Or.inr rfl) (fun _ => okv_df rfl rfl rfl) rfl rfl dX12_init_187 (fun o288 K289 V295 hq290 hK291 hE292 h293 _ hV294 => ?_)
  have h296 := (by rw [hK291, updK_ne (K_old h282 hq290)]; exact h282 : K289 x = some (0, 23))
  have pf297 := PF.nw pf287 hV294 (K_old h282 hq290)
  have h298 := KE.nw (KE.new (KE.new (KE.new (KE.new (KE.new (KE.new (KE.new (KE.new (KE.new (KE.new (KE.new (KE.new (KE.new (KE.new (KE.new (KE.new (KE.new (KE.new (KE.new (KE.new KE.rf hq10 hK11) hq24 hK25) hq38 hK39) hq52 hK53) hq66 hK67) hq80 hK81) hq94 hK95) hq108 hK109) hq122 hK123) hq136 hK137) hq150 hK151) hq164 hK165) hq178 hK179) hq192 hK193) hq206 hK207) hq220 hK221) hq234 hK235) hq248 hK249) hq262 hK263) hq276 hK277) h282 hq290
  clear pf287
  refine GO.putRF rfl rfl (by decide +kernel) h296 fp_raw_fp_RX12_77 rfl rfl dX12_init_189 (fun V300 e299 => ?_)
  have pf301 := PF.put pf297 e299 rfl
  clear pf297
  refine GO.aload_n dX12_init_192 rfl rfl ?_
  refine GO.bipush dX12_init_193 rfl ?_
  refine GO.newT (atype := .boolean) 30 60 gw_1936 rfl rfl (fun _ _ h => h) rfl rfl rfl (Or.inr rfl) (fun _ => okv_df rfl rfl rfl) rfl rfl dX12_init_195 (fun o302 K303 V309 hq304 hK305 hE306 h307 _ hV308 => ?_)
  have h310 := (by rw [hK305, updK_ne (K_old h296 hq304)]; exact h296 : K303 x = some (0, 23))
  have pf311 := PF.nw pf301 hV308 (K_old h296 hq304)
  have h312 := KE.nw (KE.new (KE.new (KE.new (KE.new (KE.new (KE.new (KE.new (KE.new (KE.new (KE.new (KE.new (KE.new (KE.new (KE.new (KE.new (KE.new (KE.new (KE.new (KE.new (KE.new (KE.new KE.rf hq10 hK11) hq24 hK25) hq38 hK39) hq52 hK53) hq66 hK67) hq80 hK81) hq94 hK95) hq108 hK109) hq122 hK123) hq136 hK137) hq150 hK151) hq164 hK165) hq178 hK179) hq192 hK193) hq206 hK207) hq220 hK221) hq234 hK235) hq248 hK249) hq262 hK263) hq276 hK277) hq290 hK291) h296 hq304
  clear pf301
  refine GO.putRF rfl rfl (by decide +kernel) h310 fp_raw_fp_RX12_80 rfl rfl dX12_init_197 (fun V314 e313 => ?_)
  have pf315 := PF.put pf311 e313 rfl
  clear pf311
  refine GO.aload_n dX12_init_200 rfl rfl ?_
  refine GO.sipush dX12_init_201 rfl ?_
  refine GO.newT (atype := .byte) 31 400 gw_815 rfl rfl (fun _ _ h => h) rfl rfl rfl (Or.inr rfl) (fun _ => okv_df rfl rfl rfl) rfl rfl dX12_init_204 (fun o316 K317 V323 hq318 hK319 hE320 h321 _ hV322 => ?_)
  have h324 := (by rw [hK319, updK_ne (K_old h310 hq318)]; exact h310 : K317 x = some (0, 23))
  have pf325 := PF.nw pf315 hV322 (K_old h310 hq318)
  have h326 := KE.nw (KE.new (KE.new (KE.new (KE.new (KE.new (KE.new (KE.new (KE.new (KE.new (KE.new (KE.new (KE.new (KE.new (KE.new (KE.new (KE.new (KE.new (KE.new (KE.new (KE.new (KE.new (KE.new KE.rf hq10 hK11) hq24 hK25) hq38 hK39) hq52 hK53) hq66 hK67) hq80 hK81) hq94 hK95) hq108 hK109) hq122 hK123) hq136 hK137) hq150 hK151) hq164 hK165) hq178 hK179) hq192 hK193) hq206 hK207) hq220 hK221) hq234 hK235) hq248 hK249) hq262 hK263) hq276 hK277) hq290 hK291) hq304 hK305) h310 hq318
  clear pf315
  refine GO.putRF rfl rfl (by decide +kernel) h324 fp_raw_fp_RX12_84 rfl rfl dX12_init_206 (fun V328 e327 => ?_)
  have pf329 := PF.put pf325 e327 rfl
  clear pf325
  refine GO.aload_n dX12_init_209 rfl rfl ?_
  refine GO.sipush dX12_init_210 rfl ?_
  refine GO.newT (atype := .int) 32 220 gw_89 rfl rfl (fun _ _ h => h) rfl rfl rfl (Or.inr rfl) (fun _ => okv_df rfl rfl rfl) rfl rfl dX12_init_213 (fun o330 K331 V337 hq332 hK333 hE334 h335 _ hV336 => ?_)
  have h338 := (by rw [hK333, updK_ne (K_old h324 hq332)]; exact h324 : K331 x = some (0, 23))
  have pf339 := PF.nw pf329 hV336 (K_old h324 hq332)
  have h340 := KE.nw (KE.new (KE.new (KE.new (KE.new (KE.new (KE.new (KE.new (KE.new (KE.new (KE.new (KE.new (KE.new (KE.new (KE.new (KE.new (KE.new (KE.new (KE.new (KE.new (KE.new (KE.new (KE.new (KE.new KE.rf hq10 hK11) hq24 hK25) hq38 hK39) hq52 hK53) hq66 hK67) hq80 hK81) hq94 hK95) hq108 hK109) hq122 hK123) hq136 hK137) hq150 hK151) hq164 hK165) hq178 hK179) hq192 hK193) hq206 hK207) hq220 hK221) hq234 hK235) hq248 hK249) hq262 hK263) hq276 hK277) hq290 hK291) hq304 hK305) hq318 hK319) h324 hq332
  clear pf329
  refine GO.putRF rfl rfl (by decide +kernel) h338 fp_raw_fp_RX12_88 rfl rfl dX12_init_215 (fun V342 e341 => ?_)
  have pf343 := PF.put pf339 e341 rfl
  clear pf339
  refine GO.aload_n dX12_init_218 rfl rfl ?_
  refine GO.sipush dX12_init_219 rfl ?_
  refine GO.newT (atype := .int) 33 220 gw_89 rfl rfl (fun _ _ h => h) rfl rfl rfl (Or.inr rfl) (fun _ => okv_df rfl rfl rfl) rfl rfl dX12_init_222 (fun o344 K345 V351 hq346 hK347 hE348 h349 _ hV350 => ?_)
  have h352 := (by rw [hK347, updK_ne (K_old h338 hq346)]; exact h338 : K345 x = some (0, 23))
  have pf353 := PF.nw pf343 hV350 (K_old h338 hq346)
  have h354 := KE.nw (KE.new (KE.new (KE.new (KE.new (KE.new (KE.new (KE.new (KE.new (KE.new (KE.new (KE.new (KE.new (KE.new (KE.new (KE.new (KE.new (KE.new (KE.new (KE.new (KE.new (KE.new (KE.new (KE.new (KE.new KE.rf hq10 hK11) hq24 hK25) hq38 hK39) hq52 hK53) hq66 hK67) hq80 hK81) hq94 hK95) hq108 hK109) hq122 hK123) hq136 hK137) hq150 hK151) hq164 hK165) hq178 hK179) hq192 hK193) hq206 hK207) hq220 hK221) hq234 hK235) hq248 hK249) hq262 hK263) hq276 hK277) hq290 hK291) hq304 hK305) hq318 hK319) hq332 hK333) h338 hq346
  clear pf343
  refine GO.putRF rfl rfl (by decide +kernel) h352 fp_raw_fp_RX12_91 rfl rfl dX12_init_224 (fun V356 e355 => ?_)
  have pf357 := PF.put pf353 e355 rfl
  clear pf353
  refine GO.aload_n dX12_init_227 rfl rfl ?_
  refine GO.bipush dX12_init_228 rfl ?_
  refine GO.newT (atype := .int) 34 12 gw_89 rfl rfl (fun _ _ h => h) rfl rfl rfl (Or.inr rfl) (fun _ => okv_df rfl rfl rfl) rfl rfl dX12_init_230 (fun o358 K359 V365 hq360 hK361 hE362 h363 _ hV364 => ?_)
  have h366 := (by rw [hK361, updK_ne (K_old h352 hq360)]; exact h352 : K359 x = some (0, 23))
  have pf367 := PF.nw pf357 hV364 (K_old h352 hq360)
  have h368 := KE.nw (KE.new (KE.new (KE.new (KE.new (KE.new (KE.new (KE.new (KE.new (KE.new (KE.new (KE.new (KE.new (KE.new (KE.new (KE.new (KE.new (KE.new (KE.new (KE.new (KE.new (KE.new (KE.new (KE.new (KE.new (KE.new KE.rf hq10 hK11) hq24 hK25) hq38 hK39) hq52 hK53) hq66 hK67) hq80 hK81) hq94 hK95) hq108 hK109) hq122 hK123) hq136 hK137) hq150 hK151) hq164 hK165) hq178 hK179) hq192 hK193) hq206 hK207) hq220 hK221) hq234 hK235) hq248 hK249) hq262 hK263) hq276 hK277) hq290 hK291) hq304 hK305) hq318 hK319) hq332 hK333) hq346 hK347) h352 hq360
  clear pf357
  refine GO.putRF rfl rfl (by decide +kernel) h366 fp_raw_fp_RX12_94 rfl rfl dX12_init_232 (fun V370 e369 => ?_)
  have pf371 := PF.put pf367 e369 rfl
  clear pf367
  refine GO.aload_n dX12_init_235 rfl rfl ?_
  refine GO.bipush dX12_init_236 rfl ?_
  refine GO.newT (atype := .int) 35 12 gw_89 rfl rfl (fun _ _ h => h) rfl rfl rfl (Or.inr rfl) (fun _ => okv_df rfl rfl rfl) rfl rfl dX12_init_238 (fun o372 K373 V379 hq374 hK375 hE376 h377 _ hV378 => ?_)
  have h380 := (by rw [hK375, updK_ne (K_old h366 hq374)]; exact h366 : K373 x = some (0, 23))
  have pf381 := PF.nw pf371 hV378 (K_old h366 hq374)
  have h382 := KE.nw (KE.new (KE.new (KE.new (KE.new (KE.new (KE.new (KE.new (KE.new (KE.new (KE.new (KE.new (KE.new (KE.new (KE.new (KE.new (KE.new (KE.new (KE.new (KE.new (KE.new (KE.new (KE.new (KE.new (KE.new (KE.new (KE.new KE.rf hq10 hK11) hq24 hK25) hq38 hK39) hq52 hK53) hq66 hK67) hq80 hK81) hq94 hK95) hq108 hK109) hq122 hK123) hq136 hK137) hq150 hK151) hq164 hK165) hq178 hK179) hq192 hK193) hq206 hK207) hq220 hK221) hq234 hK235) hq248 hK249) hq262 hK263) hq276 hK277) hq290 hK291) hq304 hK305) hq318 hK319) hq332 hK333) hq346 hK347) hq360 hK361) h366 hq374
  clear pf371
  refine GO.putRF rfl rfl (by decide +kernel) h380 fp_raw_fp_RX12_97 rfl rfl dX12_init_240 (fun V384 e383 => ?_)
  have pf385 := PF.put pf381 e383 rfl
  clear pf381
  refine GO.aload_n dX12_init_243 rfl rfl ?_
  refine GO.bipush dX12_init_244 rfl ?_
  refine GO.newT (atype := .int) 36 12 gw_89 rfl rfl (fun _ _ h => h) rfl rfl rfl (Or.inr rfl) (fun _ => okv_df rfl rfl rfl) rfl rfl dX12_init_246 (fun o386 K387 V393 hq388 hK389 hE390 h391 _ hV392 => ?_)
  have h394 := (by rw [hK389, updK_ne (K_old h380 hq388)]; exact h380 : K387 x = some (0, 23))
  have pf395 := PF.nw pf385 hV392 (K_old h380 hq388)
  have h396 := KE.nw (KE.new (KE.new (KE.new (KE.new (KE.new (KE.new (KE.new (KE.new (KE.new (KE.new (KE.new (KE.new (KE.new (KE.new (KE.new (KE.new (KE.new (KE.new (KE.new (KE.new (KE.new (KE.new (KE.new (KE.new (KE.new (KE.new (KE.new KE.rf hq10 hK11) hq24 hK25) hq38 hK39) hq52 hK53) hq66 hK67) hq80 hK81) hq94 hK95) hq108 hK109) hq122 hK123) hq136 hK137) hq150 hK151) hq164 hK165) hq178 hK179) hq192 hK193) hq206 hK207) hq220 hK221) hq234 hK235) hq248 hK249) hq262 hK263) hq276 hK277) hq290 hK291) hq304 hK305) hq318 hK319) hq332 hK333) hq346 hK347) hq360 hK361) hq374 hK375) h380 hq388
  clear pf385
  refine GO.putRF rfl rfl (by decide +kernel) h394 fp_raw_fp_RX12_100 rfl rfl dX12_init_248 (fun V398 e397 => ?_)
  have pf399 := PF.put pf395 e397 rfl
  clear pf395
  refine GO.aload_n dX12_init_251 rfl rfl ?_
  refine GO.bipush dX12_init_252 rfl ?_
  refine GO.newT (atype := .int) 37 12 gw_89 rfl rfl (fun _ _ h => h) rfl rfl rfl (Or.inr rfl) (fun _ => okv_df rfl rfl rfl) rfl rfl dX12_init_254 (fun o400 K401 V407 hq402 hK403 hE404 h405 _ hV406 => ?_)
  have h408 := (by rw [hK403, updK_ne (K_old h394 hq402)]; exact h394 : K401 x = some (0, 23))
  have pf409 := PF.nw pf399 hV406 (K_old h394 hq402)
  have h410 := KE.nw (KE.new (KE.new (KE.new (KE.new (KE.new (KE.new (KE.new (KE.new (KE.new (KE.new (KE.new (KE.new (KE.new (KE.new (KE.new (KE.new (KE.new (KE.new (KE.new (KE.new (KE.new (KE.new (KE.new (KE.new (KE.new (KE.new (KE.new (KE.new KE.rf hq10 hK11) hq24 hK25) hq38 hK39) hq52 hK53) hq66 hK67) hq80 hK81) hq94 hK95) hq108 hK109) hq122 hK123) hq136 hK137) hq150 hK151) hq164 hK165) hq178 hK179) hq192 hK193) hq206 hK207) hq220 hK221) hq234 hK235) hq248 hK249) hq262 hK263) hq276 hK277) hq290 hK291) hq304 hK305) hq318 hK319) hq332 hK333) hq346 hK347) hq360 hK361) hq374 hK375) hq388 hK389) h394 hq402
  clear pf399
  refine GO.putRF rfl rfl (by decide +kernel) h408 fp_raw_fp_RX12_103 rfl rfl dX12_init_256 (fun V412 e411 => ?_)
  have pf413 := PF.put pf409 e411 rfl
  clear pf409
  refine GO.aload_n dX12_init_259 rfl rfl ?_
  refine GO.bipush dX12_init_260 rfl ?_
  refine GO.newT (atype := .int) 38 12 gw_89 rfl rfl (fun _ _ h => h) rfl rfl rfl (Or.inr rfl) (fun _ => okv_df rfl rfl rfl) rfl rfl dX12_init_262 (fun o414 K415 V421 hq416 hK417 hE418 h419 _ hV420 => ?_)
  have h422 := (by rw [hK417, updK_ne (K_old h408 hq416)]; exact h408 : K415 x = some (0, 23))
  have pf423 := PF.nw pf413 hV420 (K_old h408 hq416)
  have h424 := KE.nw (KE.new (KE.new (KE.new (KE.new (KE.new (KE.new (KE.new (KE.new (KE.new (KE.new (KE.new (KE.new (KE.new (KE.new (KE.new (KE.new (KE.new (KE.new (KE.new (KE.new (KE.new (KE.new (KE.new (KE.new (KE.new (KE.new (KE.new (KE.new (KE.new KE.rf hq10 hK11) hq24 hK25) hq38 hK39) hq52 hK53) hq66 hK67) hq80 hK81) hq94 hK95) hq108 hK109) hq122 hK123) hq136 hK137) hq150 hK151) hq164 hK165) hq178 hK179) hq192 hK193) hq206 hK207) hq220 hK221) hq234 hK235) hq248 hK249) hq262 hK263) hq276 hK277) hq290 hK291) hq304 hK305) hq318 hK319) hq332 hK333) hq346 hK347) hq360 hK361) hq374 hK375) hq388 hK389) hq402 hK403) h408 hq416
  clear pf413
  refine GO.putRF rfl rfl (by decide +kernel) h422 fp_raw_fp_RX12_106 rfl rfl dX12_init_264 (fun V426 e425 => ?_)
  have pf427 := PF.put pf423 e425 rfl
  clear pf423
  refine GO.aload_n dX12_init_267 rfl rfl ?_
  refine GO.bipush dX12_init_268 rfl ?_
  refine GO.newT (atype := .int) 39 12 gw_89 rfl rfl (fun _ _ h => h) rfl rfl rfl (Or.inr rfl) (fun _ => okv_df rfl rfl rfl) rfl rfl dX12_init_270 (fun o428 K429 V435 hq430 hK431 hE432 h433 _ hV434 => ?_)
  have h436 := (by rw [hK431, updK_ne (K_old h422 hq430)]; exact h422 : K429 x = some (0, 23))
  have pf437 := PF.nw pf427 hV434 (K_old h422 hq430)
  have h438 := KE.nw (KE.new (KE.new (KE.new (KE.new (KE.new (KE.new (KE.new (KE.new (KE.new (KE.new (KE.new (KE.new (KE.new (KE.new (KE.new (KE.new (KE.new (KE.new (KE.new (KE.new (KE.new (KE.new (KE.new (KE.new (KE.new (KE.new (KE.new (KE.new (KE.new (KE.new KE.rf hq10 hK11) hq24 hK25) hq38 hK39) hq52 hK53) hq66 hK67) hq80 hK81) hq94 hK95) hq108 hK109) hq122 hK123) hq136 hK137) hq150 hK151) hq164 hK165) hq178 hK179) hq192 hK193) hq206 hK207) hq220 hK221) hq234 hK235) hq248 hK249) hq262 hK263) hq276 hK277) hq290 hK291) hq304 hK305) hq318 hK319) hq332 hK333) hq346 hK347) hq360 hK361) hq374 hK375) hq388 hK389) hq402 hK403) hq416 hK417) h422 hq430
  clear pf427
  refine GO.putRF rfl rfl (by decide +kernel) h436 fp_raw_fp_RX12_109 rfl rfl dX12_init_272 (fun V440 e439 => ?_)
  have pf441 := PF.put pf437 e439 rfl
  clear pf437
  refine GO.aload_n dX12_init_275 rfl rfl ?_
  refine GO.sipush dX12_init_276 rfl ?_
  refine GO.newT (atype := .int) 40 4400 gw_89 rfl rfl (fun _ _ h => h) rfl rfl rfl (Or.inr rfl) (fun _ => okv_df rfl rfl rfl) rfl rfl dX12_init_279 (fun o442 K443 V449 hq444 hK445 hE446 h447 _ hV448 => ?_)
  have h450 := (by rw [hK445, updK_ne (K_old h436 hq444)]; exact h436 : K443 x = some (0, 23))
  have pf451 := PF.nw pf441 hV448 (K_old h436 hq444)
  have h452 := KE.nw (KE.new (KE.new (KE.new (KE.new (KE.new (KE.new (KE.new (KE.new (KE.new (KE.new (KE.new (KE.new (KE.new (KE.new (KE.new (KE.new (KE.new (KE.new (KE.new (KE.new (KE.new (KE.new (KE.new (KE.new (KE.new (KE.new (KE.new (KE.new (KE.new (KE.new (KE.new KE.rf hq10 hK11) hq24 hK25) hq38 hK39) hq52 hK53) hq66 hK67) hq80 hK81) hq94 hK95) hq108 hK109) hq122 hK123) hq136 hK137) hq150 hK151) hq164 hK165) hq178 hK179) hq192 hK193) hq206 hK207) hq220 hK221) hq234 hK235) hq248 hK249) hq262 hK263) hq276 hK277) hq290 hK291) hq304 hK305) hq318 hK319) hq332 hK333) hq346 hK347) hq360 hK361) hq374 hK375) hq388 hK389) hq402 hK403) hq416 hK417) hq430 hK431) h436 hq444
  clear pf441
  refine GO.putRF rfl rfl (by decide +kernel) h450 fp_raw_fp_RX12_112 rfl rfl dX12_init_281 (fun V454 e453 => ?_)
  have pf455 := PF.put pf451 e453 rfl
  clear pf451
  refine GO.aload_n dX12_init_284 rfl rfl ?_
  refine GO.bipush dX12_init_285 rfl ?_
  refine GO.newT (atype := .int) 41 20 gw_89 rfl rfl (fun _ _ h => h) rfl rfl rfl (Or.inr rfl) (fun _ => okv_df rfl rfl rfl) rfl rfl dX12_init_287 (fun o456 K457 V463 hq458 hK459 hE460 h461 _ hV462 => ?_)
  have h464 := (by rw [hK459, updK_ne (K_old h450 hq458)]; exact h450 : K457 x = some (0, 23))
  have pf465 := PF.nw pf455 hV462 (K_old h450 hq458)
  have h466 := KE.nw (KE.new (KE.new (KE.new (KE.new (KE.new (KE.new (KE.new (KE.new (KE.new (KE.new (KE.new (KE.new (KE.new (KE.new (KE.new (KE.new (KE.new (KE.new (KE.new (KE.new (KE.new (KE.new (KE.new (KE.new (KE.new (KE.new (KE.new (KE.new (KE.new (KE.new (KE.new (KE.new KE.rf hq10 hK11) hq24 hK25) hq38 hK39) hq52 hK53) hq66 hK67) hq80 hK81) hq94 hK95) hq108 hK109) hq122 hK123) hq136 hK137) hq150 hK151) hq164 hK165) hq178 hK179) hq192 hK193) hq206 hK207) hq220 hK221) hq234 hK235) hq248 hK249) hq262 hK263) hq276 hK277) hq290 hK291) hq304 hK305) hq318 hK319) hq332 hK333) hq346 hK347) hq360 hK361) hq374 hK375) hq388 hK389) hq402 hK403) hq416 hK417) hq430 hK431) hq444 hK445) h450 hq458
  clear pf455
  refine GO.putRF rfl rfl (by decide +kernel) h464 fp_raw_fp_RX12_115 rfl rfl dX12_init_289 (fun V468 e467 => ?_)
  have pf469 := PF.put pf465 e467 rfl
  clear pf465
  refine GO.aload_n dX12_init_292 rfl rfl ?_
  refine GO.bipush dX12_init_293 rfl ?_
  refine GO.newT (atype := .int) 42 20 gw_89 rfl rfl (fun _ _ h => h) rfl rfl rfl (Or.inr rfl) (fun _ => okv_df rfl rfl rfl) rfl rfl dX12_init_295 (fun o470 K471 V477 hq472 hK473 hE474 h475 _ hV476 => ?_)
  have h478 := (by rw [hK473, updK_ne (K_old h464 hq472)]; exact h464 : K471 x = some (0, 23))
  have pf479 := PF.nw pf469 hV476 (K_old h464 hq472)
  have h480 := KE.nw (KE.new (KE.new (KE.new (KE.new (KE.new (KE.new (KE.new (KE.new (KE.new (KE.new (KE.new (KE.new (KE.new (KE.new (KE.new (KE.new (KE.new (KE.new (KE.new (KE.new (KE.new (KE.new (KE.new (KE.new (KE.new (KE.new (KE.new (KE.new (KE.new (KE.new (KE.new (KE.new (KE.new KE.rf hq10 hK11) hq24 hK25) hq38 hK39) hq52 hK53) hq66 hK67) hq80 hK81) hq94 hK95) hq108 hK109) hq122 hK123) hq136 hK137) hq150 hK151) hq164 hK165) hq178 hK179) hq192 hK193) hq206 hK207) hq220 hK221) hq234 hK235) hq248 hK249) hq262 hK263) hq276 hK277) hq290 hK291) hq304 hK305) hq318 hK319) hq332 hK333) hq346 hK347) hq360 hK361) hq374 hK375) hq388 hK389) hq402 hK403) hq416 hK417) hq430 hK431) hq444 hK445) hq458 hK459) h464 hq472
  clear pf469
  refine GO.putRF rfl rfl (by decide +kernel) h478 fp_raw_fp_RX12_118 rfl rfl dX12_init_297 (fun V482 e481 => ?_)
  have pf483 := PF.put pf479 e481 rfl
  clear pf479
  refine GO.aload_n dX12_init_300 rfl rfl ?_
  refine GO.bipush dX12_init_301 rfl ?_
  refine GO.newT (atype := .int) 43 20 gw_89 rfl rfl (fun _ _ h => h) rfl rfl rfl (Or.inr rfl) (fun _ => okv_df rfl rfl rfl) rfl rfl dX12_init_303 (fun o484 K485 V491 hq486 hK487 hE488 h489 _ hV490 => ?_)
  have h492 := (by rw [hK487, updK_ne (K_old h478 hq486)]; exact h478 : K485 x = some (0, 23))
  have pf493 := PF.nw pf483 hV490 (K_old h478 hq486)
  have h494 := KE.nw (KE.new (KE.new (KE.new (KE.new (KE.new (KE.new (KE.new (KE.new (KE.new (KE.new (KE.new (KE.new (KE.new (KE.new (KE.new (KE.new (KE.new (KE.new (KE.new (KE.new (KE.new (KE.new (KE.new (KE.new (KE.new (KE.new (KE.new (KE.new (KE.new (KE.new (KE.new (KE.new (KE.new (KE.new KE.rf hq10 hK11) hq24 hK25) hq38 hK39) hq52 hK53) hq66 hK67) hq80 hK81) hq94 hK95) hq108 hK109) hq122 hK123) hq136 hK137) hq150 hK151) hq164 hK165) hq178 hK179) hq192 hK193) hq206 hK207) hq220 hK221) hq234 hK235) hq248 hK249) hq262 hK263) hq276 hK277) hq290 hK291) hq304 hK305) hq318 hK319) hq332 hK333) hq346 hK347) hq360 hK361) hq374 hK375) hq388 hK389) hq402 hK403) hq416 hK417) hq430 hK431) hq444 hK445) hq458 hK459) hq472 hK473) h478 hq486
  clear pf483
  refine GO.putRF rfl rfl (by decide +kernel) h492 fp_raw_fp_RX12_121 rfl rfl dX12_init_305 (fun V496 e495 => ?_)
  have pf497 := PF.put pf493 e495 rfl
  clear pf493
  refine GO.aload_n dX12_init_308 rfl rfl ?_
  refine GO.sipush dX12_init_309 rfl ?_
  refine GO.newT (atype := .int) 44 240 gw_89 rfl rfl (fun _ _ h => h) rfl rfl rfl (Or.inr rfl) (fun _ => okv_df rfl rfl rfl) rfl rfl dX12_init_312 (fun o498 K499 V505 hq500 hK501 hE502 h503 _ hV504 => ?_)
  have h506 := (by rw [hK501, updK_ne (K_old h492 hq500)]; exact h492 : K499 x = some (0, 23))
  have pf507 := PF.nw pf497 hV504 (K_old h492 hq500)
  have h508 := KE.nw (KE.new (KE.new (KE.new (KE.new (KE.new (KE.new (KE.new (KE.new (KE.new (KE.new (KE.new (KE.new (KE.new (KE.new (KE.new (KE.new (KE.new (KE.new (KE.new (KE.new (KE.new (KE.new (KE.new (KE.new (KE.new (KE.new (KE.new (KE.new (KE.new (KE.new (KE.new (KE.new (KE.new (KE.new (KE.new KE.rf hq10 hK11) hq24 hK25) hq38 hK39) hq52 hK53) hq66 hK67) hq80 hK81) hq94 hK95) hq108 hK109) hq122 hK123) hq136 hK137) hq150 hK151) hq164 hK165) hq178 hK179) hq192 hK193) hq206 hK207) hq220 hK221) hq234 hK235) hq248 hK249) hq262 hK263) hq276 hK277) hq290 hK291) hq304 hK305) hq318 hK319) hq332 hK333) hq346 hK347) hq360 hK361) hq374 hK375) hq388 hK389) hq402 hK403) hq416 hK417) hq430 hK431) hq444 hK445) hq458 hK459) hq472 hK473) hq486 hK487) h492 hq500
  clear pf497
  refine GO.putRF rfl rfl (by decide +kernel) h506 fp_raw_fp_RX12_124 rfl rfl dX12_init_314 (fun V510 e509 => ?_)
  have pf511 := PF.put pf507 e509 rfl
  clear pf507
  refine GO.aload_n dX12_init_317 rfl rfl ?_
  refine GO.sipush dX12_init_318 rfl ?_
  refine GO.newT (atype := .int) 45 240 gw_89 rfl rfl (fun _ _ h => h) rfl rfl rfl (Or.inr rfl) (fun _ => okv_df rfl rfl rfl) rfl rfl dX12_init_321 (fun o512 K513 V519 hq514 hK515 hE516 h517 _ hV518 => ?_)
  have h520 := (by rw [hK515, updK_ne (K_old h506 hq514)]; exact h506 : K513 x = some (0, 23))
  have pf521 := PF.nw pf511 hV518 (K_old h506 hq514)
  have h522 := KE.nw (KE.new (KE.new (KE.new (KE.new (KE.new (KE.new (KE.new (KE.new (KE.new (KE.new (KE.new (KE.new (KE.new (KE.new (KE.new (KE.new (KE.new (KE.new (KE.new (KE.new (KE.new (KE.new (KE.new (KE.new (KE.new (KE.new (KE.new (KE.new (KE.new (KE.new (KE.new (KE.new (KE.new (KE.new (KE.new (KE.new KE.rf hq10 hK11) hq24 hK25) hq38 hK39) hq52 hK53) hq66 hK67) hq80 hK81) hq94 hK95) hq108 hK109) hq122 hK123) hq136 hK137) hq150 hK151) hq164 hK165) hq178 hK179) hq192 hK193) hq206 hK207) hq220 hK221) hq234 hK235) hq248 hK249) hq262 hK263) hq276 hK277) hq290 hK291) hq304 hK305) hq318 hK319) hq332 hK333) hq346 hK347) hq360 hK361) hq374 hK375) hq388 hK389) hq402 hK403) hq416 hK417) hq430 hK431) hq444 hK445) hq458 hK459) hq472 hK473) hq486 hK487) hq500 hK501) h506 hq514
  clear pf511
  refine GO.putRF rfl rfl (by decide +kernel) h520 fp_raw_fp_RX12_127 rfl rfl dX12_init_323 (fun V524 e523 => ?_)
  have pf525 := PF.put pf521 e523 rfl
  clear pf521
  refine GO.aload_n dX12_init_326 rfl rfl ?_
  refine GO.sipush dX12_init_327 rfl ?_
  refine GO.newT (atype := .int) 46 240 gw_89 rfl rfl (fun _ _ h => h) rfl rfl rfl (Or.inr rfl) (fun _ => okv_df rfl rfl rfl) rfl rfl dX12_init_330 (fun o526 K527 V533 hq528 hK529 hE530 h531 _ hV532 => ?_)
  have h534 := (by rw [hK529, updK_ne (K_old h520 hq528)]; exact h520 : K527 x = some (0, 23))
  have pf535 := PF.nw pf525 hV532 (K_old h520 hq528)
  have h536 := KE.nw (KE.new (KE.new (KE.new (KE.new (KE.new (KE.new (KE.new (KE.new (KE.new (KE.new (KE.new (KE.new (KE.new (KE.new (KE.new (KE.new (KE.new (KE.new (KE.new (KE.new (KE.new (KE.new (KE.new (KE.new (KE.new (KE.new (KE.new (KE.new (KE.new (KE.new (KE.new (KE.new (KE.new (KE.new (KE.new (KE.new (KE.new KE.rf hq10 hK11) hq24 hK25) hq38 hK39) hq52 hK53) hq66 hK67) hq80 hK81) hq94 hK95) hq108 hK109) hq122 hK123) hq136 hK137) hq150 hK151) hq164 hK165) hq178 hK179) hq192 hK193) hq206 hK207) hq220 hK221) hq234 hK235) hq248 hK249) hq262 hK263) hq276 hK277) hq290 hK291) hq304 hK305) hq318 hK319) hq332 hK333) hq346 hK347) hq360 hK361) hq374 hK375) hq388 hK389) hq402 hK403) hq416 hK417) hq430 hK431) hq444 hK445) hq458 hK459) hq472 hK473) hq486 hK487) hq500 hK501) hq514 hK515) h520 hq528
  clear pf525
  refine GO.putRF rfl rfl (by decide +kernel) h534 fp_raw_fp_RX12_130 rfl rfl dX12_init_332 (fun V538 e537 => ?_)
  have pf539 := PF.put pf535 e537 rfl
  clear pf535
  refine GO.aload_n dX12_init_335 rfl rfl ?_
  refine GO.sipush dX12_init_336 rfl ?_
  refine GO.newT (atype := .int) 47 240 gw_89 rfl rfl (fun _ _ h => h) rfl rfl rfl (Or.inr rfl) (fun _ => okv_df rfl rfl rfl) rfl rfl dX12_init_339 (fun o540 K541 V547 hq542 hK543 hE544 h545 _ hV546 => ?_)
  have h548 := (by rw [hK543, updK_ne (K_old h534 hq542)]; exact h534 : K541 x = some (0, 23))
  have pf549 := PF.nw pf539 hV546 (K_old h534 hq542)
  have h550 := KE.nw (KE.new (KE.new (KE.new (KE.new (KE.new (KE.new (KE.new (KE.new (KE.new (KE.new (KE.new (KE.new (KE.new (KE.new (KE.new (KE.new (KE.new (KE.new (KE.new (KE.new (KE.new (KE.new (KE.new (KE.new (KE.new (KE.new (KE.new (KE.new (KE.new (KE.new (KE.new (KE.new (KE.new (KE.new (KE.new (KE.new (KE.new (KE.new KE.rf hq10 hK11) hq24 hK25) hq38 hK39) hq52 hK53) hq66 hK67) hq80 hK81) hq94 hK95) hq108 hK109) hq122 hK123) hq136 hK137) hq150 hK151) hq164 hK165) hq178 hK179) hq192 hK193) hq206 hK207) hq220 hK221) hq234 hK235) hq248 hK249) hq262 hK263) hq276 hK277) hq290 hK291) hq304 hK305) hq318 hK319) hq332 hK333) hq346 hK347) hq360 hK361) hq374 hK375) hq388 hK389) hq402 hK403) hq416 hK417) hq430 hK431) hq444 hK445) hq458 hK459) hq472 hK473) hq486 hK487) hq500 hK501) hq514 hK515) hq528 hK529) h534 hq542
  clear pf539
  refine GO.putRF rfl rfl (by decide +kernel) h548 fp_raw_fp_RX12_133 rfl rfl dX12_init_341 (fun V552 e551 => ?_)
  have pf553 := PF.put pf549 e551 rfl
  clear pf549
  refine GO.aload_n dX12_init_344 rfl rfl ?_
  refine GO.sipush dX12_init_345 rfl ?_
  refine GO.newT (atype := .int) 48 240 gw_89 rfl rfl (fun _ _ h => h) rfl rfl rfl (Or.inr rfl) (fun _ => okv_df rfl rfl rfl) rfl rfl dX12_init_348 (fun o554 K555 V561 hq556 hK557 hE558 h559 _ hV560 => ?_)
  have h562 := (by rw [hK557, updK_ne (K_old h548 hq556)]; exact h548 : K555 x = some (0, 23))
  have pf563 := PF.nw pf553 hV560 (K_old h548 hq556)
  have h564 := KE.nw (KE.new (KE.new (KE.new (KE.new (KE.new (KE.new (KE.new (KE.new (KE.new (KE.new (KE.new (KE.new (KE.new (KE.new (KE.new (KE.new (KE.new (KE.new (KE.new (KE.new (KE.new (KE.new (KE.new (KE.new (KE.new (KE.new (KE.new (KE.new (KE.new (KE.new (KE.new (KE.new (KE.new (KE.new (KE.new (KE.new (KE.new (KE.new (KE.new KE.rf hq10 hK11) hq24 hK25) hq38 hK39) hq52 hK53) hq66 hK67) hq80 hK81) hq94 hK95) hq108 hK109) hq122 hK123) hq136 hK137) hq150 hK151) hq164 hK165) hq178 hK179) hq192 hK193) hq206 hK207) hq220 hK221) hq234 hK235) hq248 hK249) hq262 hK263) hq276 hK277) hq290 hK291) hq304 hK305) hq318 hK319) hq332 hK333) hq346 hK347) hq360 hK361) hq374 hK375) hq388 hK389) hq402 hK403) hq416 hK417) hq430 hK431) hq444 hK445) hq458 hK459) hq472 hK473) hq486 hK487) hq500 hK501) hq514 hK515) hq528 hK529) hq542 hK543) h548 hq556
  clear pf553
  refine GO.putRF rfl rfl (by decide +kernel) h562 fp_raw_fp_RX12_136 rfl rfl dX12_init_350 (fun V566 e565 => ?_)
  have pf567 := PF.put pf563 e565 rfl
  clear pf563
  refine GO.aload_n dX12_init_353 rfl rfl ?_
  refine GO.sipush dX12_init_354 rfl ?_
  refine GO.newT (atype := .int) 49 240 gw_89 rfl rfl (fun _ _ h => h) rfl rfl rfl (Or.inr rfl) (fun _ => okv_df rfl rfl rfl) rfl rfl dX12_init_357 (fun o568 K569 V575 hq570 hK571 hE572 h573 _ hV574 => ?_)
  have h576 := (by rw [hK571, updK_ne (K_old h562 hq570)]; exact h562 : K569 x = some (0, 23))
  have pf577 := PF.nw pf567 hV574 (K_old h562 hq570)
  have h578 := KE.nw (KE.new (KE.new (KE.new (KE.new (KE.new (KE.new (KE.new (KE.new (KE.new (KE.new (KE.new (KE.new (KE.new (KE.new (KE.new (KE.new (KE.new (KE.new (KE.new (KE.new (KE.new (KE.new (KE.new (KE.new (KE.new (KE.new (KE.new (KE.new (KE.new (KE.new (KE.new (KE.new (KE.new (KE.new (KE.new (KE.new (KE.new (KE.new (KE.new (KE.new KE.rf hq10 hK11) hq24 hK25) hq38 hK39) hq52 hK53) hq66 hK67) hq80 hK81) hq94 hK95) hq108 hK109) hq122 hK123) hq136 hK137) hq150 hK151) hq164 hK165) hq178 hK179) hq192 hK193) hq206 hK207) hq220 hK221) hq234 hK235) hq248 hK249) hq262 hK263) hq276 hK277) hq290 hK291) hq304 hK305) hq318 hK319) hq332 hK333) hq346 hK347) hq360 hK361) hq374 hK375) hq388 hK389) hq402 hK403) hq416 hK417) hq430 hK431) hq444 hK445) hq458 hK459) hq472 hK473) hq486 hK487) hq500 hK501) hq514 hK515) hq528 hK529) hq542 hK543) hq556 hK557) h562 hq570
  clear pf567
  refine GO.putRF rfl rfl (by decide +kernel) h576 fp_raw_fp_RX12_139 rfl rfl dX12_init_359 (fun V580 e579 => ?_)
  have pf581 := PF.put pf577 e579 rfl
  clear pf577
  refine GO.aload_n dX12_init_362 rfl rfl ?_
  refine GO.sipush dX12_init_363 rfl ?_
  refine GO.newT (atype := .int) 50 180 gw_89 rfl rfl (fun _ _ h => h) rfl rfl rfl (Or.inr rfl) (fun _ => okv_df rfl rfl rfl) rfl rfl dX12_init_366 (fun o582 K583 V589 hq584 hK585 hE586 h587 _ hV588 => ?_)
  have h590 := (by rw [hK585, updK_ne (K_old h576 hq584)]; exact h576 : K583 x = some (0, 23))
  have pf591 := PF.nw pf581 hV588 (K_old h576 hq584)
  have h592 := KE.nw (KE.new (KE.new (KE.new (KE.new (KE.new (KE.new (KE.new (KE.new (KE.new (KE.new (KE.new (KE.new (KE.new (KE.new (KE.new (KE.new (KE.new (KE.new (KE.new (KE.new (KE.new (KE.new (KE.new (KE.new (KE.new (KE.new (KE.new (KE.new (KE.new (KE.new (KE.new (KE.new (KE.new (KE.new (KE.new (KE.new (KE.new (KE.new (KE.new (KE.new (KE.new KE.rf hq10 hK11) hq24 hK25) hq38 hK39) hq52 hK53) hq66 hK67) hq80 hK81) hq94 hK95) hq108 hK109) hq122 hK123) hq136 hK137) hq150 hK151) hq164 hK165) hq178 hK179) hq192 hK193) hq206 hK207) hq220 hK221) hq234 hK235) hq248 hK249) hq262 hK263) hq276 hK277) hq290 hK291) hq304 hK305) hq318 hK319) hq332 hK333) hq346 hK347) hq360 hK361) hq374 hK375) hq388 hK389) hq402 hK403) hq416 hK417) hq430 hK431) hq444 hK445) hq458 hK459) hq472 hK473) hq486 hK487) hq500 hK501) hq514 hK515) hq528 hK529) hq542 hK543) hq556 hK557) hq570 hK571) h576 hq584
  clear pf581
  refine GO.putRF rfl rfl (by decide +kernel) h590 fp_raw_fp_RX12_142 rfl rfl dX12_init_368 (fun V594 e593 => ?_)
  have pf595 := PF.put pf591 e593 rfl
  clear pf591
  refine GO.aload_n dX12_init_371 rfl rfl ?_
  refine GO.sipush dX12_init_372 rfl ?_
  refine GO.newT (atype := .int) 51 2200 gw_89 rfl rfl (fun _ _ h => h) rfl rfl rfl (Or.inr rfl) (fun _ => okv_df rfl rfl rfl) rfl rfl dX12_init_375 (fun o596 K597 V603 hq598 hK599 hE600 h601 _ hV602 => ?_)
  have h604 := (by rw [hK599, updK_ne (K_old h590 hq598)]; exact h590 : K597 x = some (0, 23))
  have pf605 := PF.nw pf595 hV602 (K_old h590 hq598)
  have h606 := KE.nw (KE.new (KE.new (KE.new (KE.new (KE.new (KE.new (KE.new (KE.new (KE.new (KE.new (KE.new (KE.new (KE.new (KE.new (KE.new (KE.new (KE.new (KE.new (KE.new (KE.new (KE.new (KE.new (KE.new (KE.new (KE.new (KE.new (KE.new (KE.new (KE.new (KE.new (KE.new (KE.new (KE.new (KE.new (KE.new (KE.new (KE.new (KE.new (KE.new (KE.new (KE.new (KE.new KE.rf hq10 hK11) hq24 hK25) hq38 hK39) hq52 hK53) hq66 hK67) hq80 hK81) hq94 hK95) hq108 hK109) hq122 hK123) hq136 hK137) hq150 hK151) hq164 hK165) hq178 hK179) hq192 hK193) hq206 hK207) hq220 hK221) hq234 hK235) hq248 hK249) hq262 hK263) hq276 hK277) hq290 hK291) hq304 hK305) hq318 hK319) hq332 hK333) hq346 hK347) hq360 hK361) hq374 hK375) hq388 hK389) hq402 hK403) hq416 hK417) hq430 hK431) hq444 hK445) hq458 hK459) hq472 hK473) hq486 hK487) hq500 hK501) hq514 hK515) hq528 hK529) hq542 hK543) hq556 hK557) hq570 hK571) hq584 hK585) h590 hq598
  clear pf595
  refine GO.putRF rfl rfl (by decide +kernel) h604 fp_raw_fp_RX12_145 rfl rfl dX12_init_377 (fun V608 e607 => ?_)
  have pf609 := PF.put pf605 e607 rfl
  clear pf605
  refine GO.aload_n dX12_init_380 rfl rfl ?_
  refine GO.bipush dX12_init_381 rfl ?_
  refine GO.newT (atype := .int) 52 20 gw_89 rfl rfl (fun _ _ h => h) rfl rfl rfl (Or.inr rfl) (fun _ => okv_df rfl rfl rfl) rfl rfl dX12_init_383 (fun o610 K611 V617 hq612 hK613 hE614 h615 _ hV616 => ?_)
  have h618 := (by rw [hK613, updK_ne (K_old h604 hq612)]; exact h604 : K611 x = some (0, 23))
  have pf619 := PF.nw pf609 hV616 (K_old h604 hq612)
  have h620 := KE.nw (KE.new (KE.new (KE.new (KE.new (KE.new (KE.new (KE.new (KE.new (KE.new (KE.new (KE.new (KE.new (KE.new (KE.new (KE.new (KE.new (KE.new (KE.new (KE.new (KE.new (KE.new (KE.new (KE.new (KE.new (KE.new (KE.new (KE.new (KE.new (KE.new (KE.new (KE.new (KE.new (KE.new (KE.new (KE.new (KE.new (KE.new (KE.new (KE.new (KE.new (KE.new (KE.new (KE.new KE.rf hq10 hK11) hq24 hK25) hq38 hK39) hq52 hK53) hq66 hK67) hq80 hK81) hq94 hK95) hq108 hK109) hq122 hK123) hq136 hK137) hq150 hK151) hq164 hK165) hq178 hK179) hq192 hK193) hq206 hK207) hq220 hK221) hq234 hK235) hq248 hK249) hq262 hK263) hq276 hK277) hq290 hK291) hq304 hK305) hq318 hK319) hq332 hK333) hq346 hK347) hq360 hK361) hq374 hK375) hq388 hK389) hq402 hK403) hq416 hK417) hq430 hK431) hq444 hK445) hq458 hK459) hq472 hK473) hq486 hK487) hq500 hK501) hq514 hK515) hq528 hK529) hq542 hK543) hq556 hK557) hq570 hK571) hq584 hK585) hq598 hK599) h604 hq612
  clear pf609
  refine GO.putRF rfl rfl (by decide +kernel) h618 fp_raw_fp_RX12_148 rfl rfl dX12_init_385 (fun V622 e621 => ?_)
  have pf623 := PF.put pf619 e621 rfl
  clear pf619
  refine GO.aload_n dX12_init_388 rfl rfl ?_
  refine GO.bipush dX12_init_389 rfl ?_
  refine GO.newT (atype := .int) 53 20 gw_89 rfl rfl (fun _ _ h => h) rfl rfl rfl (Or.inr rfl) (fun _ => okv_df rfl rfl rfl) rfl rfl dX12_init_391 (fun o624 K625 V631 hq626 hK627 hE628 h629 _ hV630 => ?_)
  have h632 := (by rw [hK627, updK_ne (K_old h618 hq626)]; exact h618 : K625 x = some (0, 23))
  have pf633 := PF.nw pf623 hV630 (K_old h618 hq626)
  have h634 := KE.nw (KE.new (KE.new (KE.new (KE.new (KE.new (KE.new (KE.new (KE.new (KE.new (KE.new (KE.new (KE.new (KE.new (KE.new (KE.new (KE.new (KE.new (KE.new (KE.new (KE.new (KE.new (KE.new (KE.new (KE.new (KE.new (KE.new (KE.new (KE.new (KE.new (KE.new (KE.new (KE.new (KE.new (KE.new (KE.new (KE.new (KE.new (KE.new (KE.new (KE.new (KE.new (KE.new (KE.new (KE.new KE.rf hq10 hK11) hq24 hK25) hq38 hK39) hq52 hK53) hq66 hK67) hq80 hK81) hq94 hK95) hq108 hK109) hq122 hK123) hq136 hK137) hq150 hK151) hq164 hK165) hq178 hK179) hq192 hK193) hq206 hK207) hq220 hK221) hq234 hK235) hq248 hK249) hq262 hK263) hq276 hK277) hq290 hK291) hq304 hK305) hq318 hK319) hq332 hK333) hq346 hK347) hq360 hK361) hq374 hK375) hq388 hK389) hq402 hK403) hq416 hK417) hq430 hK431) hq444 hK445) hq458 hK459) hq472 hK473) hq486 hK487) hq500 hK501) hq514 hK515) hq528 hK529) hq542 hK543) hq556 hK557) hq570 hK571) hq584 hK585) hq598 hK599) hq612 hK613) h618 hq626
  clear pf623
  refine GO.putRF rfl rfl (by decide +kernel) h632 fp_raw_fp_RX12_151 rfl rfl dX12_init_393 (fun V636 e635 => ?_)
  have pf637 := PF.put pf633 e635 rfl
  clear pf633
  refine GO.aload_n dX12_init_396 rfl rfl ?_
  refine GO.bipush dX12_init_397 rfl ?_
  refine GO.newT (atype := .int) 54 20 gw_89 rfl rfl (fun _ _ h => h) rfl rfl rfl (Or.inr rfl) (fun _ => okv_df rfl rfl rfl) rfl rfl dX12_init_399 (fun o638 K639 V645 hq640 hK641 hE642 h643 _ hV644 => ?_)
  have h646 := (by rw [hK641, updK_ne (K_old h632 hq640)]; exact h632 : K639 x = some (0, 23))
  have pf647 := PF.nw pf637 hV644 (K_old h632 hq640)
  have h648 := KE.nw (KE.new (KE.new (KE.new (KE.new (KE.new (KE.new (KE.new (KE.new (KE.new (KE.new (KE.new (KE.new (KE.new (KE.new (KE.new (KE.new (KE.new (KE.new (KE.new (KE.new (KE.new (KE.new (KE.new (KE.new (KE.new (KE.new (KE.new (KE.new (KE.new (KE.new (KE.new (KE.new (KE.new (KE.new (KE.new (KE.new (KE.new (KE.new (KE.new (KE.new (KE.new (KE.new (KE.new (KE.new (KE.new KE.rf hq10 hK11) hq24 hK25) hq38 hK39) hq52 hK53) hq66 hK67) hq80 hK81) hq94 hK95) hq108 hK109) hq122 hK123) hq136 hK137) hq150 hK151) hq164 hK165) hq178 hK179) hq192 hK193) hq206 hK207) hq220 hK221) hq234 hK235) hq248 hK249) hq262 hK263) hq276 hK277) hq290 hK291) hq304 hK305) hq318 hK319) hq332 hK333) hq346 hK347) hq360 hK361) hq374 hK375) hq388 hK389) hq402 hK403) hq416 hK417) hq430 hK431) hq444 hK445) hq458 hK459) hq472 hK473) hq486 hK487) hq500 hK501) hq514 hK515) hq528 hK529) hq542 hK543) hq556 hK557) hq570 hK571) hq584 hK585) hq598 hK599) hq612 hK613) hq626 hK627) h632 hq640
  clear pf637
  refine GO.putRF rfl rfl (by decide +kernel) h646 fp_raw_fp_RX12_154 rfl rfl dX12_init_401 (fun V650 e649 => ?_)
  have pf651 := PF.put pf647 e649 rfl
  clear pf647
  refine GO.aload_n dX12_init_404 rfl rfl ?_
  refine GO.bipush dX12_init_405 rfl ?_
  refine GO.newT (atype := .boolean) 55 20 gw_1936 rfl rfl (fun _ _ h => h) rfl rfl rfl (Or.inr rfl) (fun _ => okv_df rfl rfl rfl) rfl rfl dX12_init_407 (fun o652 K653 V659 hq654 hK655 hE656 h657 _ hV658 => ?_)
  have h660 := (by rw [hK655, updK_ne (K_old h646 hq654)]; exact h646 : K653 x = some (0, 23))
  have pf661 := PF.nw pf651 hV658 (K_old h646 hq654)
  have h662 := KE.nw (KE.new (KE.new (KE.new (KE.new (KE.new (KE.new (KE.new (KE.new (KE.new (KE.new (KE.new (KE.new (KE.new (KE.new (KE.new (KE.new (KE.new (KE.new (KE.new (KE.new (KE.new (KE.new (KE.new (KE.new (KE.new (KE.new (KE.new (KE.new (KE.new (KE.new (KE.new (KE.new (KE.new (KE.new (KE.new (KE.new (KE.new (KE.new (KE.new (KE.new (KE.new (KE.new (KE.new (KE.new (KE.new (KE.new KE.rf hq10 hK11) hq24 hK25) hq38 hK39) hq52 hK53) hq66 hK67) hq80 hK81) hq94 hK95) hq108 hK109) hq122 hK123) hq136 hK137) hq150 hK151) hq164 hK165) hq178 hK179) hq192 hK193) hq206 hK207) hq220 hK221) hq234 hK235) hq248 hK249) hq262 hK263) hq276 hK277) hq290 hK291) hq304 hK305) hq318 hK319) hq332 hK333) hq346 hK347) hq360 hK361) hq374 hK375) hq388 hK389) hq402 hK403) hq416 hK417) hq430 hK431) hq444 hK445) hq458 hK459) hq472 hK473) hq486 hK487) hq500 hK501) hq514 hK515) hq528 hK529) hq542 hK543) hq556 hK557) hq570 hK571) hq584 hK585) hq598 hK599) hq612 hK613) hq626 hK627) hq640 hK641) h646 hq654
  clear pf651
  refine GO.putRF rfl rfl (by decide +kernel) h660 fp_raw_fp_RX12_157 rfl rfl dX12_init_409 (fun V664 e663 => ?_)
  have pf665 := PF.put pf661 e663 rfl
  clear pf661
  refine GO.aload_n dX12_init_412 rfl rfl ?_
  refine GO.sipush dX12_init_413 rfl ?_
  refine GO.newT (atype := .boolean) 56 240 gw_1936 rfl rfl (fun _ _ h => h) rfl rfl rfl (Or.inr rfl) (fun _ => okv_df rfl rfl rfl) rfl rfl dX12_init_416 (fun o666 K667 V673 hq668 hK669 hE670 h671 _ hV672 => ?_)
  have h674 := (by rw [hK669, updK_ne (K_old h660 hq668)]; exact h660 : K667 x = some (0, 23))
  have pf675 := PF.nw pf665 hV672 (K_old h660 hq668)
  have h676 := KE.nw (KE.new (KE.new (KE.new (KE.new (KE.new (KE.new (KE.new (KE.new (KE.new (KE.new (KE.new (KE.new (KE.new (KE.new (KE.new (KE.new (KE.new (KE.new (KE.new (KE.new (KE.new (KE.new (KE.new (KE.new (KE.new (KE.new (KE.new (KE.new (KE.new (KE.new (KE.new (KE.new (KE.new (KE.new (KE.new (KE.new (KE.new (KE.new (KE.new (KE.new (KE.new (KE.new (KE.new (KE.new (KE.new (KE.new (KE.new KE.rf hq10 hK11) hq24 hK25) hq38 hK39) hq52 hK53) hq66 hK67) hq80 hK81) hq94 hK95) hq108 hK109) hq122 hK123) hq136 hK137) hq150 hK151) hq164 hK165) hq178 hK179) hq192 hK193) hq206 hK207) hq220 hK221) hq234 hK235) hq248 hK249) hq262 hK263) hq276 hK277) hq290 hK291) hq304 hK305) hq318 hK319) hq332 hK333) hq346 hK347) hq360 hK361) hq374 hK375) hq388 hK389) hq402 hK403) hq416 hK417) hq430 hK431) hq444 hK445) hq458 hK459) hq472 hK473) hq486 hK487) hq500 hK501) hq514 hK515) hq528 hK529) hq542 hK543) hq556 hK557) hq570 hK571) hq584 hK585) hq598 hK599) hq612 hK613) hq626 hK627) hq640 hK641) hq654 hK655) h660 hq668
  clear pf665
  refine GO.putRF rfl rfl (by decide +kernel) h674 fp_raw_fp_RX12_160 rfl rfl dX12_init_418 (fun V678 e677 => ?_)
  have pf679 := PF.put pf675 e677 rfl
  clear pf675
  refine GO.aload_n dX12_init_421 rfl rfl ?_
  refine GO.bipush dX12_init_422 rfl ?_
  refine GO.newT (atype := .int) 57 100 gw_89 rfl rfl (fun _ _ h => h) rfl rfl rfl (Or.inr rfl) (fun _ => okv_df rfl rfl rfl) rfl rfl dX12_init_424 (fun o680 K681 V687 hq682 hK683 hE684 h685 _ hV686 => ?_)
  have h688 := (by rw [hK683, updK_ne (K_old h674 hq682)]; exact h674 : K681 x = some (0, 23))
  have pf689 := PF.nw pf679 hV686 (K_old h674 hq682)
  have h690 := KE.nw (KE.new (KE.new (KE.new (KE.new (KE.new (KE.new (KE.new (KE.new (KE.new (KE.new (KE.new (KE.new (KE.new (KE.new (KE.new (KE.new (KE.new (KE.new (KE.new (KE.new (KE.new (KE.new (KE.new (KE.new (KE.new (KE.new (KE.new (KE.new (KE.new (KE.new (KE.new (KE.new (KE.new (KE.new (KE.new (KE.new (KE.new (KE.new (KE.new (KE.new (KE.new (KE.new (KE.new (KE.new (KE.new (KE.new (KE.new (KE.new KE.rf hq10 hK11) hq24 hK25) hq38 hK39) hq52 hK53) hq66 hK67) hq80 hK81) hq94 hK95) hq108 hK109) hq122 hK123) hq136 hK137) hq150 hK151) hq164 hK165) hq178 hK179) hq192 hK193) hq206 hK207) hq220 hK221) hq234 hK235) hq248 hK249) hq262 hK263) hq276 hK277) hq290 hK291) hq304 hK305) hq318 hK319) hq332 hK333) hq346 hK347) hq360 hK361) hq374 hK375) hq388 hK389) hq402 hK403) hq416 hK417) hq430 hK431) hq444 hK445) hq458 hK459) hq472 hK473) hq486 hK487) hq500 hK501) hq514 hK515) hq528 hK529) hq542 hK543) hq556 hK557) hq570 hK571) hq584 hK585) hq598 hK599) hq612 hK613) hq626 hK627) hq640 hK641) hq654 hK655) hq668 hK669) h674 hq682
  clear pf679
  refine GO.putRF rfl rfl (by decide +kernel) h688 fp_raw_fp_RX12_163 rfl rfl dX12_init_426 (fun V692 e691 => ?_)
  have pf693 := PF.put pf689 e691 rfl
  clear pf689
  refine GO.aload_n dX12_init_429 rfl rfl ?_
  refine GO.bipush dX12_init_430 rfl ?_
  refine GO.newT (atype := .int) 58 100 gw_89 rfl rfl (fun _ _ h => h) rfl rfl rfl (Or.inr rfl) (fun _ => okv_df rfl rfl rfl) rfl rfl dX12_init_432 (fun o694 K695 V701 hq696 hK697 hE698 h699 _ hV700 => ?_)
  have h702 := (by rw [hK697, updK_ne (K_old h688 hq696)]; exact h688 : K695 x = some (0, 23))
  have pf703 := PF.nw pf693 hV700 (K_old h688 hq696)
  have h704 := KE.nw (KE.new (KE.new (KE.new (KE.new (KE.new (KE.new (KE.new (KE.new (KE.new (KE.new (KE.new (KE.new (KE.new (KE.new (KE.new (KE.new (KE.new (KE.new (KE.new (KE.new (KE.new (KE.new (KE.new (KE.new (KE.new (KE.new (KE.new (KE.new (KE.new (KE.new (KE.new (KE.new (KE.new (KE.new (KE.new (KE.new (KE.new (KE.new (KE.new (KE.new (KE.new (KE.new (KE.new (KE.new (KE.new (KE.new (KE.new (KE.new (KE.new KE.rf hq10 hK11) hq24 hK25) hq38 hK39) hq52 hK53) hq66 hK67) hq80 hK81) hq94 hK95) hq108 hK109) hq122 hK123) hq136 hK137) hq150 hK151) hq164 hK165) hq178 hK179) hq192 hK193) hq206 hK207) hq220 hK221) hq234 hK235) hq248 hK249) hq262 hK263) hq276 hK277) hq290 hK291) hq304 hK305) hq318 hK319) hq332 hK333) hq346 hK347) hq360 hK361) hq374 hK375) hq388 hK389) hq402 hK403) hq416 hK417) hq430 hK431) hq444 hK445) hq458 hK459) hq472 hK473) hq486 hK487) hq500 hK501) hq514 hK515) hq528 hK529) hq542 hK543) hq556 hK557) hq570 hK571) hq584 hK585) hq598 hK599) hq612 hK613) hq626 hK627) hq640 hK641) hq654 hK655) hq668 hK669) hq682 hK683) h688 hq696
  clear pf693
  refine GO.putRF rfl rfl (by decide +kernel) h702 fp_raw_fp_RX12_166 rfl rfl dX12_init_434 (fun V706 e705 => ?_)
  have pf707 := PF.put pf703 e705 rfl
  clear pf703
  refine GO.aload_n dX12_init_437 rfl rfl ?_
  refine GO.bipush dX12_init_438 rfl ?_
  refine GO.newT (atype := .int) 59 100 gw_89 rfl rfl (fun _ _ h => h) rfl rfl rfl (Or.inr rfl) (fun _ => okv_df rfl rfl rfl) rfl rfl dX12_init_440 (fun o708 K709 V715 hq710 hK711 hE712 h713 _ hV714 => ?_)
  have h716 := (by rw [hK711, updK_ne (K_old h702 hq710)]; exact h702 : K709 x = some (0, 23))
  have pf717 := PF.nw pf707 hV714 (K_old h702 hq710)
  have h718 := KE.nw (KE.new (KE.new (KE.new (KE.new (KE.new (KE.new (KE.new (KE.new (KE.new (KE.new (KE.new (KE.new (KE.new (KE.new (KE.new (KE.new (KE.new (KE.new (KE.new (KE.new (KE.new (KE.new (KE.new (KE.new (KE.new (KE.new (KE.new (KE.new (KE.new (KE.new (KE.new (KE.new (KE.new (KE.new (KE.new (KE.new (KE.new (KE.new (KE.new (KE.new (KE.new (KE.new (KE.new (KE.new (KE.new (KE.new (KE.new (KE.new (KE.new (KE.new KE.rf hq10 hK11) hq24 hK25) hq38 hK39) hq52 hK53) hq66 hK67) hq80 hK81) hq94 hK95) hq108 hK109) hq122 hK123) hq136 hK137) hq150 hK151) hq164 hK165) hq178 hK179) hq192 hK193) hq206 hK207) hq220 hK221) hq234 hK235) hq248 hK249) hq262 hK263) hq276 hK277) hq290 hK291) hq304 hK305) hq318 hK319) hq332 hK333) hq346 hK347) hq360 hK361) hq374 hK375) hq388 hK389) hq402 hK403) hq416 hK417) hq430 hK431) hq444 hK445) hq458 hK459) hq472 hK473) hq486 hK487) hq500 hK501) hq514 hK515) hq528 hK529) hq542 hK543) hq556 hK557) hq570 hK571) hq584 hK585) hq598 hK599) hq612 hK613) hq626 hK627) hq640 hK641) hq654 hK655) hq668 hK669) hq682 hK683) hq696 hK697) h702 hq710
  clear pf707
  refine GO.putRF rfl rfl (by decide +kernel) h716 fp_raw_fp_RX12_169 rfl rfl dX12_init_442 (fun V720 e719 => ?_)
  have pf721 := PF.put pf717 e719 rfl
  clear pf717
  refine GO.aload_n dX12_init_445 rfl rfl ?_
  refine GO.bipush dX12_init_446 rfl ?_
  refine GO.newT (atype := .int) 60 100 gw_89 rfl rfl (fun _ _ h => h) rfl rfl rfl (Or.inr rfl) (fun _ => okv_df rfl rfl rfl) rfl rfl dX12_init_448 (fun o722 K723 V729 hq724 hK725 hE726 h727 _ hV728 => ?_)
  have h730 := (by rw [hK725, updK_ne (K_old h716 hq724)]; exact h716 : K723 x = some (0, 23))
  have pf731 := PF.nw pf721 hV728 (K_old h716 hq724)
  have h732 := KE.nw (KE.new (KE.new (KE.new (KE.new (KE.new (KE.new (KE.new (KE.new (KE.new (KE.new (KE.new (KE.new (KE.new (KE.new (KE.new (KE.new (KE.new (KE.new (KE.new (KE.new (KE.new (KE.new (KE.new (KE.new (KE.new (KE.new (KE.new (KE.new (KE.new (KE.new (KE.new (KE.new (KE.new (KE.new (KE.new (KE.new (KE.new (KE.new (KE.new (KE.new (KE.new (KE.new (KE.new (KE.new (KE.new (KE.new (KE.new (KE.new (KE.new (KE.new (KE.new KE.rf hq10 hK11) hq24 hK25) hq38 hK39) hq52 hK53) hq66 hK67) hq80 hK81) hq94 hK95) hq108 hK109) hq122 hK123) hq136 hK137) hq150 hK151) hq164 hK165) hq178 hK179) hq192 hK193) hq206 hK207) hq220 hK221) hq234 hK235) hq248 hK249) hq262 hK263) hq276 hK277) hq290 hK291) hq304 hK305) hq318 hK319) hq332 hK333) hq346 hK347) hq360 hK361) hq374 hK375) hq388 hK389) hq402 hK403) hq416 hK417) hq430 hK431) hq444 hK445) hq458 hK459) hq472 hK473) hq486 hK487) hq500 hK501) hq514 hK515) hq528 hK529) hq542 hK543) hq556 hK557) hq570 hK571) hq584 hK585) hq598 hK599) hq612 hK613) hq626 hK627) hq640 hK641) hq654 hK655) hq668 hK669) hq682 hK683) hq696 hK697) hq710 hK711) h716 hq724
  clear pf721
  refine GO.putRF rfl rfl (by decide +kernel) h730 fp_raw_fp_RX12_172 rfl rfl dX12_init_450 (fun V734 e733 => ?_)
  have pf735 := PF.put pf731 e733 rfl
  clear pf731
  refine GO.aload_n dX12_init_453 rfl rfl ?_
  refine GO.bipush dX12_init_454 rfl ?_
  refine GO.newT (atype := .int) 61 100 gw_89 rfl rfl (fun _ _ h => h) rfl rfl rfl (Or.inr rfl) (fun _ => okv_df rfl rfl rfl) rfl rfl dX12_init_456 (fun o736 K737 V743 hq738 hK739 hE740 h741 _ hV742 => ?_)
  have h744 := (by rw [hK739, updK_ne (K_old h730 hq738)]; exact h730 : K737 x = some (0, 23))
  have pf745 := PF.nw pf735 hV742 (K_old h730 hq738)
  have h746 := KE.nw (KE.new (KE.new (KE.new (KE.new (KE.new (KE.new (KE.new (KE.new (KE.new (KE.new (KE.new (KE.new (KE.new (KE.new (KE.new (KE.new (KE.new (KE.new (KE.new (KE.new (KE.new (KE.new (KE.new (KE.new (KE.new (KE.new (KE.new (KE.new (KE.new (KE.new (KE.new (KE.new (KE.new (KE.new (KE.new (KE.new (KE.new (KE.new (KE.new (KE.new (KE.new (KE.new (KE.new (KE.new (KE.new (KE.new (KE.new (KE.new (KE.new (KE.new (KE.new (KE.new KE.rf hq10 hK11) hq24 hK25) hq38 hK39) hq52 hK53) hq66 hK67) hq80 hK81) hq94 hK95) hq108 hK109) hq122 hK123) hq136 hK137) hq150 hK151) hq164 hK165) hq178 hK179) hq192 hK193) hq206 hK207) hq220 hK221) hq234 hK235) hq248 hK249) hq262 hK263) hq276 hK277) hq290 hK291) hq304 hK305) hq318 hK319) hq332 hK333) hq346 hK347) hq360 hK361) hq374 hK375) hq388 hK389) hq402 hK403) hq416 hK417) hq430 hK431) hq444 hK445) hq458 hK459) hq472 hK473) hq486 hK487) hq500 hK501) hq514 hK515) hq528 hK529) hq542 hK543) hq556 hK557) hq570 hK571) hq584 hK585) hq598 hK599) hq612 hK613) hq626 hK627) hq640 hK641) hq654 hK655) hq668 hK669) hq682 hK683) hq696 hK697) hq710 hK711) hq724 hK725) h730 hq738
  clear pf735
  refine GO.putRF rfl rfl (by decide +kernel) h744 fp_raw_fp_RX12_175 rfl rfl dX12_init_458 (fun V748 e747 => ?_)
  have pf749 := PF.put pf745 e747 rfl
  clear pf745
  refine GO.aload_n dX12_init_461 rfl rfl ?_
  refine GO.bipush dX12_init_462 rfl ?_
  refine GO.newT (atype := .int) 62 100 gw_89 rfl rfl (fun _ _ h => h) rfl rfl rfl (Or.inr rfl) (fun _ => okv_df rfl rfl rfl) rfl rfl dX12_init_464 (fun o750 K751 V757 hq752 hK753 hE754 h755 _ hV756 => ?_)
  have h758 := (by rw [hK753, updK_ne (K_old h744 hq752)]; exact h744 : K751 x = some (0, 23))
  have pf759 := PF.nw pf749 hV756 (K_old h744 hq752)
  have h760 := KE.nw (KE.new (KE.new (KE.new (KE.new (KE.new (KE.new (KE.new (KE.new (KE.new (KE.new (KE.new (KE.new (KE.new (KE.new (KE.new (KE.new (KE.new (KE.new (KE.new (KE.new (KE.new (KE.new (KE.new (KE.new (KE.new (KE.new (KE.new (KE.new (KE.new (KE.new (KE.new (KE.new (KE.new (KE.new (KE.new (KE.new (KE.new (KE.new (KE.new (KE.new (KE.new (KE.new (KE.new (KE.new (KE.new (KE.new (KE.new (KE.new (KE.new (KE.new (KE.new (KE.new (KE.new KE.rf hq10 hK11) hq24 hK25) hq38 hK39) hq52 hK53) hq66 hK67) hq80 hK81) hq94 hK95) hq108 hK109) hq122 hK123) hq136 hK137) hq150 hK151) hq164 hK165) hq178 hK179) hq192 hK193) hq206 hK207) hq220 hK221) hq234 hK235) hq248 hK249) hq262 hK263) hq276 hK277) hq290 hK291) hq304 hK305) hq318 hK319) hq332 hK333) hq346 hK347) hq360 hK361) hq374 hK375) hq388 hK389) hq402 hK403) hq416 hK417) hq430 hK431) hq444 hK445) hq458 hK459) hq472 hK473) hq486 hK487) hq500 hK501) hq514 hK515) hq528 hK529) hq542 hK543) hq556 hK557) hq570 hK571) hq584 hK585) hq598 hK599) hq612 hK613) hq626 hK627) hq640 hK641) hq654 hK655) hq668 hK669) hq682 hK683) hq696 hK697) hq710 hK711) hq724 hK725) hq738 hK739) h744 hq752
  clear pf749
  refine GO.putRF rfl rfl (by decide +kernel) h758 fp_raw_fp_RX12_178 rfl rfl dX12_init_466 (fun V762 e761 => ?_)
  have pf763 := PF.put pf759 e761 rfl
  clear pf759
  refine GO.aload_n dX12_init_469 rfl rfl ?_
  refine GO.bipush dX12_init_470 rfl ?_
  refine GO.newT (atype := .int) 63 100 gw_89 rfl rfl (fun _ _ h => h) rfl rfl rfl (Or.inr rfl) (fun _ => okv_df rfl rfl rfl) rfl rfl dX12_init_472 (fun o764 K765 V771 hq766 hK767 hE768 h769 _ hV770 => ?_)
  have h772 := (by rw [hK767, updK_ne (K_old h758 hq766)]; exact h758 : K765 x = some (0, 23))
  have pf773 := PF.nw pf763 hV770 (K_old h758 hq766)
  have h774 := KE.nw (KE.new (KE.new (KE.new (KE.new (KE.new (KE.new (KE.new (KE.new (KE.new (KE.new (KE.new (KE.new (KE.new (KE.new (KE.new (KE.new (KE.new (KE.new (KE.new (KE.new (KE.new (KE.new (KE.new (KE.new (KE.new (KE.new (KE.new (KE.new (KE.new (KE.new (KE.new (KE.new (KE.new (KE.new (KE.new (KE.new (KE.new (KE.new (KE.new (KE.new (KE.new (KE.new (KE.new (KE.new (KE.new (KE.new (KE.new (KE.new (KE.new (KE.new (KE.new (KE.new (KE.new (KE.new KE.rf hq10 hK11) hq24 hK25) hq38 hK39) hq52 hK53) hq66 hK67) hq80 hK81) hq94 hK95) hq108 hK109) hq122 hK123) hq136 hK137) hq150 hK151) hq164 hK165) hq178 hK179) hq192 hK193) hq206 hK207) hq220 hK221) hq234 hK235) hq248 hK249) hq262 hK263) hq276 hK277) hq290 hK291) hq304 hK305) hq318 hK319) hq332 hK333) hq346 hK347) hq360 hK361) hq374 hK375) hq388 hK389) hq402 hK403) hq416 hK417) hq430 hK431) hq444 hK445) hq458 hK459) hq472 hK473) hq486 hK487) hq500 hK501) hq514 hK515) hq528 hK529) hq542 hK543) hq556 hK557) hq570 hK571) hq584 hK585) hq598 hK599) hq612 hK613) hq626 hK627) hq640 hK641) hq654 hK655) hq668 hK669) hq682 hK683) hq696 hK697) hq710 hK711) hq724 hK725) hq738 hK739) hq752 hK753) h758 hq766
  clear pf763
  refine GO.putRF rfl rfl (by decide +kernel) h772 fp_raw_fp_RX12_181 rfl rfl dX12_init_474 (fun V776 e775 => ?_)
  have pf777 := PF.put pf773 e775 rfl
  clear pf773
  refine GO.aload_n dX12_init_477 rfl rfl ?_
  refine GO.bipush dX12_init_478 rfl ?_
  refine GO.newT (atype := .int) 64 100 gw_89 rfl rfl (fun _ _ h => h) rfl rfl rfl (Or.inr rfl) (fun _ => okv_df rfl rfl rfl) rfl rfl dX12_init_480 (fun o778 K779 V785 hq780 hK781 hE782 h783 _ hV784 => ?_)
  have h786 := (by rw [hK781, updK_ne (K_old h772 hq780)]; exact h772 : K779 x = some (0, 23))
  have pf787 := PF.nw pf777 hV784 (K_old h772 hq780)
  have h788 := KE.nw (KE.new (KE.new (KE.new (KE.new (KE.new (KE.new (KE.new (KE.new (KE.new (KE.new (KE.new (KE.new (KE.new (KE.new (KE.new (KE.new (KE.new (KE.new (KE.new (KE.new (KE.new (KE.new (KE.new (KE.new (KE.new (KE.new (KE.new (KE.new (KE.new (KE.new (KE.new (KE.new (KE.new (KE.new (KE.new (KE.new (KE.new (KE.new (KE.new (KE.new (KE.new (KE.new (KE.new (KE.new (KE.new (KE.new (KE.new (KE.new (KE.new (KE.new (KE.new (KE.new (KE.new (KE.new (KE.new KE.rf hq10 hK11) hq24 hK25) hq38 hK39) hq52 hK53) hq66 hK67) hq80 hK81) hq94 hK95) hq108 hK109) hq122 hK123) hq136 hK137) hq150 hK151) hq164 hK165) hq178 hK179) hq192 hK193) hq206 hK207) hq220 hK221) hq234 hK235) hq248 hK249) hq262 hK263) hq276 hK277) hq290 hK291) hq304 hK305) hq318 hK319) hq332 hK333) hq346 hK347) hq360 hK361) hq374 hK375) hq388 hK389) hq402 hK403) hq416 hK417) hq430 hK431) hq444 hK445) hq458 hK459) hq472 hK473) hq486 hK487) hq500 hK501) hq514 hK515) hq528 hK529) hq542 hK543) hq556 hK557) hq570 hK571) hq584 hK585) hq598 hK599) hq612 hK613) hq626 hK627) hq640 hK641) hq654 hK655) hq668 hK669) hq682 hK683) hq696 hK697) hq710 hK711) hq724 hK725) hq738 hK739) hq752 hK753) hq766 hK767) h772 hq780
  clear pf777
  refine GO.putRF rfl rfl (by decide +kernel) h786 fp_raw_fp_RX12_184 rfl rfl dX12_init_482 (fun V790 e789 => ?_)
  have pf791 := PF.put pf787 e789 rfl
  clear pf787
  refine GO.aload_n dX12_init_485 rfl rfl ?_
  refine GO.bipush dX12_init_486 rfl ?_
  refine GO.newT (atype := .int) 65 100 gw_89 rfl rfl (fun _ _ h => h) rfl rfl rfl (Or.inr rfl) (fun _ => okv_df rfl rfl rfl) rfl rfl dX12_init_488 (fun o792 K793 V799 hq794 hK795 hE796 h797 _ hV798 => ?_)
  have h800 := (by rw [hK795, updK_ne (K_old h786 hq794)]; exact h786 : K793 x = some (0, 23))
  have pf801 := PF.nw pf791 hV798 (K_old h786 hq794)
  have h802 := KE.nw (KE.new (KE.new (KE.new (KE.new (KE.new (KE.new (KE.new (KE.new (KE.new (KE.new (KE.new (KE.new (KE.new (KE.new (KE.new (KE.new (KE.new (KE.new (KE.new (KE.new (KE.new (KE.new (KE.new (KE.new (KE.new (KE.new (KE.new (KE.new (KE.new (KE.new (KE.new (KE.new (KE.new (KE.new (KE.new (KE.new (KE.new (KE.new (KE.new (KE.new (KE.new (KE.new (KE.new (KE.new (KE.new (KE.new (KE.new (KE.new (KE.new (KE.new (KE.new (KE.new (KE.new (KE.new (KE.new (KE.new KE.rf hq10 hK11) hq24 hK25) hq38 hK39) hq52 hK53) hq66 hK67) hq80 hK81) hq94 hK95) hq108 hK109) hq122 hK123) hq136 hK137) hq150 hK151) hq164 hK165) hq178 hK179) hq192 hK193) hq206 hK207) hq220 hK221) hq234 hK235) hq248 hK249) hq262 hK263) hq276 hK277) hq290 hK291) hq304 hK305) hq318 hK319) hq332 hK333) hq346 hK347) hq360 hK361) hq374 hK375) hq388 hK389) hq402 hK403) hq416 hK417) hq430 hK431) hq444 hK445) hq458 hK459) hq472 hK473) hq486 hK487) hq500 hK501) hq514 hK515) hq528 hK529) hq542 hK543) hq556 hK557) hq570 hK571) hq584 hK585) hq598 hK599) hq612 hK613) hq626 hK627) hq640 hK641) hq654 hK655) hq668 hK669) hq682 hK683) hq696 hK697) hq710 hK711) hq724 hK725) hq738 hK739) hq752 hK753) hq766 hK767) hq780 hK781) h786 hq794
  clear pf791
  refine GO.putRF rfl rfl (by decide +kernel) h800 fp_raw_fp_RX12_187 rfl rfl dX12_init_490 (fun V804 e803 => ?_)
  have pf805 := PF.put pf801 e803 rfl
  clear pf801
  refine GO.aload_n dX12_init_493 rfl rfl ?_
  refine GO.bipush dX12_init_494 rfl ?_
  refine GO.newT (atype := .int) 66 100 gw_89 rfl rfl (fun _ _ h => h) rfl rfl rfl (Or.inr rfl) (fun _ => okv_df rfl rfl rfl) rfl rfl dX12_init_496 (fun o806 K807 V813 hq808 hK809 hE810 h811 _ hV812 => ?_)
  have h814 := (by rw [hK809, updK_ne (K_old h800 hq808)]; exact h800 : K807 x = some (0, 23))
  have pf815 := PF.nw pf805 hV812 (K_old h800 hq808)
  have h816 := KE.nw (KE.new (KE.new (KE.new (KE.new (KE.new (KE.new (KE.new (KE.new (KE.new (KE.new (KE.new (KE.new (KE.new (KE.new (KE.new (KE.new (KE.new (KE.new (KE.new (KE.new (KE.new (KE.new (KE.new (KE.new (KE.new (KE.new (KE.new (KE.new (KE.new (KE.new (KE.new (KE.new (KE.new (KE.new (KE.new (KE.new (KE.new (KE.new (KE.new (KE.new (KE.new (KE.new (KE.new (KE.new (KE.new (KE.new (KE.new (KE.new (KE.new (KE.new (KE.new (KE.new (KE.new (KE.new (KE.new (KE.new (KE.new KE.rf hq10 hK11) hq24 hK25) hq38 hK39) hq52 hK53) hq66 hK67) hq80 hK81) hq94 hK95) hq108 hK109) hq122 hK123) hq136 hK137) hq150 hK151) hq164 hK165) hq178 hK179) hq192 hK193) hq206 hK207) hq220 hK221) hq234 hK235) hq248 hK249) hq262 hK263) hq276 hK277) hq290 hK291) hq304 hK305) hq318 hK319) hq332 hK333) hq346 hK347) hq360 hK361) hq374 hK375) hq388 hK389) hq402 hK403) hq416 hK417) hq430 hK431) hq444 hK445) hq458 hK459) hq472 hK473) hq486 hK487) hq500 hK501) hq514 hK515) hq528 hK529) hq542 hK543) hq556 hK557) hq570 hK571) hq584 hK585) hq598 hK599) hq612 hK613) hq626 hK627) hq640 hK641) hq654 hK655) hq668 hK669) hq682 hK683) hq696 hK697) hq710 hK711) hq724 hK725) hq738 hK739) hq752 hK753) hq766 hK767) hq780 hK781) hq794 hK795) h800 hq808
  clear pf805
  refine GO.putRF rfl rfl (by decide +kernel) h814 fp_raw_fp_RX12_190 rfl rfl dX12_init_498 (fun V818 e817 => ?_)
  have pf819 := PF.put pf815 e817 rfl
  clear pf815
  refine GO.aload_n dX12_init_501 rfl rfl ?_
  refine GO.bipush dX12_init_502 rfl ?_
  refine GO.newT (atype := .int) 67 100 gw_89 rfl rfl (fun _ _ h => h) rfl rfl rfl (Or.inr rfl) (fun _ => okv_df rfl rfl rfl) rfl rfl dX12_init_504 (fun o820 K821 V827 hq822 hK823 hE824 h825 _ hV826 => ?_)
  have h828 := (by rw [hK823, updK_ne (K_old h814 hq822)]; exact h814 : K821 x = some (0, 23))
  have pf829 := PF.nw pf819 hV826 (K_old h814 hq822)
  have h830 := KE.nw (KE.new (KE.new (KE.new (KE.new (KE.new (KE.new (KE.new (KE.new (KE.new (KE.new (KE.new (KE.new (KE.new (KE.new (KE.new (KE.new (KE.new (KE.new (KE.new (KE.new (KE.new (KE.new (KE.new (KE.new (KE.new (KE.new (KE.new (KE.new (KE.new (KE.new (KE.new (KE.new (KE.new (KE.new (KE.new (KE.new (KE.new (KE.new (KE.new (KE.new (KE.new (KE.new (KE.new (KE.new (KE.new (KE.new (KE.new (KE.new (KE.new (KE.new (KE.new (KE.new (KE.new (KE.new (KE.new (KE.new (KE.new (KE.new KE.rf hq10 hK11) hq24 hK25) hq38 hK39) hq52 hK53) hq66 hK67) hq80 hK81) hq94 hK95) hq108 hK109) hq122 hK123) hq136 hK137) hq150 hK151) hq164 hK165) hq178 hK179) hq192 hK193) hq206 hK207) hq220 hK221) hq234 hK235) hq248 hK249) hq262 hK263) hq276 hK277) hq290 hK291) hq304 hK305) hq318 hK319) hq332 hK333) hq346 hK347) hq360 hK361) hq374 hK375) hq388 hK389) hq402 hK403) hq416 hK417) hq430 hK431) hq444 hK445) hq458 hK459) hq472 hK473) hq486 hK487) hq500 hK501) hq514 hK515) hq528 hK529) hq542 hK543) hq556 hK557) hq570 hK571) hq584 hK585) hq598 hK599) hq612 hK613) hq626 hK627) hq640 hK641) hq654 hK655) hq668 hK669) hq682 hK683) hq696 hK697) hq710 hK711) hq724 hK725) hq738 hK739) hq752 hK753) hq766 hK767) hq780 hK781) hq794 hK795) hq808 hK809) h814 hq822
  clear pf819
  refine GO.putRF rfl rfl (by decide +kernel) h828 fp_raw_fp_RX12_193 rfl rfl dX12_init_506 (fun V832 e831 => ?_)
  have pf833 := PF.put pf829 e831 rfl
  clear pf829
  refine GO.aload_n dX12_init_509 rfl rfl ?_
  refine GO.bipush dX12_init_510 rfl ?_
  refine GO.newT (atype := .int) 68 100 gw_89 rfl rfl (fun _ _ h => h) rfl rfl rfl (Or.inr rfl) (fun _ => okv_df rfl rfl rfl) rfl rfl dX12_init_512 (fun o834 K835 V841 hq836 hK837 hE838 h839 _ hV840 => ?_)
  have h842 := (by rw [hK837, updK_ne (K_old h828 hq836)]; exact h828 : K835 x = some (0, 23))
  have pf843 := PF.nw pf833 hV840 (K_old h828 hq836)
  have h844 := KE.nw (KE.new (KE.new (KE.new (KE.new (KE.new (KE.new (KE.new (KE.new (KE.new (KE.new (KE.new (KE.new (KE.new (KE.new (KE.new (KE.new (KE.new (KE.new (KE.new (KE.new (KE.new (KE.new (KE.new (KE.new (KE.new (KE.new (KE.new (KE.new (KE.new (KE.new (KE.new (KE.new (KE.new (KE.new (KE.new (KE.new (KE.new (KE.new (KE.new (KE.new (KE.new (KE.new (KE.new (KE.new (KE.new (KE.new (KE.new (KE.new (KE.new (KE.new (KE.new (KE.new (KE.new (KE.new (KE.new (KE.new (KE.new (KE.new (KE.new KE.rf hq10 hK11) hq24 hK25) hq38 hK39) hq52 hK53) hq66 hK67) hq80 hK81) hq94 hK95) hq108 hK109) hq122 hK123) hq136 hK137) hq150 hK151) hq164 hK165) hq178 hK179) hq192 hK193) hq206 hK207) hq220 hK221) hq234 hK235) hq248 hK249) hq262 hK263) hq276 hK277) hq290 hK291) hq304 hK305) hq318 hK319) hq332 hK333) hq346 hK347) hq360 hK361) hq374 hK375) hq388 hK389) hq402 hK403) hq416 hK417) hq430 hK431) hq444 hK445) hq458 hK459) hq472 hK473) hq486 hK487) hq500 hK501) hq514 hK515) hq528 hK529) hq542 hK543) hq556 hK557) hq570 hK571) hq584 hK585) hq598 hK599) hq612 hK613) hq626 hK627) hq640 hK641) hq654 hK655) hq668 hK669) hq682 hK683) hq696 hK697) hq710 hK711) hq724 hK725) hq738 hK739) hq752 hK753) hq766 hK767) hq780 hK781) hq794 hK795) hq808 hK809) hq822 hK823) h828 hq836
  clear pf833
  refine GO.putRF rfl rfl (by decide +kernel) h842 fp_raw_fp_RX12_196 rfl rfl dX12_init_514 (fun V846 e845 => ?_)
  have pf847 := PF.put pf843 e845 rfl
  clear pf843
  refine GO.aload_n dX12_init_517 rfl rfl ?_
  refine GO.bipush dX12_init_518 rfl ?_
  refine GO.newT (atype := .int) 69 100 gw_89 rfl rfl (fun _ _ h => h) rfl rfl rfl (Or.inr rfl) (fun _ => okv_df rfl rfl rfl) rfl rfl dX12_init_520 (fun o848 K849 V855 hq850 hK851 hE852 h853 _ hV854 => ?_)
  have h856 := (by rw [hK851, updK_ne (K_old h842 hq850)]; exact h842 : K849 x = some (0, 23))
  have pf857 := PF.nw pf847 hV854 (K_old h842 hq850)
  have h858 := KE.nw (KE.new (KE.new (KE.new (KE.new (KE.new (KE.new (KE.new (KE.new (KE.new (KE.new (KE.new (KE.new (KE.new (KE.new (KE.new (KE.new (KE.new (KE.new (KE.new (KE.new (KE.new (KE.new (KE.new (KE.new (KE.new (KE.new (KE.new (KE.new (KE.new (KE.new (KE.new (KE.new (KE.new (KE.new (KE.new (KE.new (KE.new (KE.new (KE.new (KE.new (KE.new (KE.new (KE.new (KE.new (KE.new (KE.new (KE.new (KE.new (KE.new (KE.new (KE.new (KE.new (KE.new (KE.new (KE.new (KE.new (KE.new (KE.new (KE.new (KE.new KE.rf hq10 hK11) hq24 hK25) hq38 hK39) hq52 hK53) hq66 hK67) hq80 hK81) hq94 hK95) hq108 hK109) hq122 hK123) hq136 hK137) hq150 hK151) hq164 hK165) hq178 hK179) hq192 hK193) hq206 hK207) hq220 hK221) hq234 hK235) hq248 hK249) hq262 hK263) hq276 hK277) hq290 hK291) hq304 hK305) hq318 hK319) hq332 hK333) hq346 hK347) hq360 hK361) hq374 hK375) hq388 hK389) hq402 hK403) hq416 hK417) hq430 hK431) hq444 hK445) hq458 hK459) hq472 hK473) hq486 hK487) hq500 hK501) hq514 hK515) hq528 hK529) hq542 hK543) hq556 hK557) hq570 hK571) hq584 hK585) hq598 hK599) hq612 hK613) hq626 hK627) hq640 hK641) hq654 hK655) hq668 hK669) hq682 hK683) hq696 hK697) hq710 hK711) hq724 hK725) hq738 hK739) hq752 hK753) hq766 hK767) hq780 hK781) hq794 hK795) hq808 hK809) hq822 hK823) hq836 hK837) h842 hq850
  clear pf847
  refine GO.putRF rfl rfl (by decide +kernel) h856 fp_raw_fp_RX12_199 rfl rfl dX12_init_522 (fun V860 e859 => ?_)
  have pf861 := PF.put pf857 e859 rfl
  clear pf857
  refine GO.aload_n dX12_init_525 rfl rfl ?_
  refine GO.sipush dX12_init_526 rfl ?_
  refine GO.newT (atype := .int) 70 900 gw_89 rfl rfl (fun _ _ h => h) rfl rfl rfl (Or.inr rfl) (fun _ => okv_df rfl rfl rfl) rfl rfl dX12_init_529 (fun o862 K863 V869 hq864 hK865 hE866 h867 _ hV868 => ?_)
  have h870 := (by rw [hK865, updK_ne (K_old h856 hq864)]; exact h856 : K863 x = some (0, 23))
  have pf871 := PF.nw pf861 hV868 (K_old h856 hq864)
  have h872 := KE.nw (KE.new (KE.new (KE.new (KE.new (KE.new (KE.new (KE.new (KE.new (KE.new (KE.new (KE.new (KE.new (KE.new (KE.new (KE.new (KE.new (KE.new (KE.new (KE.new (KE.new (KE.new (KE.new (KE.new (KE.new (KE.new (KE.new (KE.new (KE.new (KE.new (KE.new (KE.new (KE.new (KE.new (KE.new (KE.new (KE.new (KE.new (KE.new (KE.new (KE.new (KE.new (KE.new (KE.new (KE.new (KE.new (KE.new (KE.new (KE.new (KE.new (KE.new (KE.new (KE.new (KE.new (KE.new (KE.new (KE.new (KE.new (KE.new (KE.new (KE.new (KE.new KE.rf hq10 hK11) hq24 hK25) hq38 hK39) hq52 hK53) hq66 hK67) hq80 hK81) hq94 hK95) hq108 hK109) hq122 hK123) hq136 hK137) hq150 hK151) hq164 hK165) hq178 hK179) hq192 hK193) hq206 hK207) hq220 hK221) hq234 hK235) hq248 hK249) hq262 hK263) hq276 hK277) hq290 hK291) hq304 hK305) hq318 hK319) hq332 hK333) hq346 hK347) hq360 hK361) hq374 hK375) hq388 hK389) hq402 hK403) hq416 hK417) hq430 hK431) hq444 hK445) hq458 hK459) hq472 hK473) hq486 hK487) hq500 hK501) hq514 hK515) hq528 hK529) hq542 hK543) hq556 hK557) hq570 hK571) hq584 hK585) hq598 hK599) hq612 hK613) hq626 hK627) hq640 hK641) hq654 hK655) hq668 hK669) hq682 hK683) hq696 hK697) hq710 hK711) hq724 hK725) hq738 hK739) hq752 hK753) hq766 hK767) hq780 hK781) hq794 hK795) hq808 hK809) hq822 hK823) hq836 hK837) hq850 hK851) h856 hq864
  clear pf861
  refine GO.putRF rfl rfl (by decide +kernel) h870 fp_raw_fp_RX12_202 rfl rfl dX12_init_531 (fun V874 e873 => ?_)
  have pf875 := PF.put pf871 e873 rfl
  clear pf871
  refine GO.aload_n dX12_init_534 rfl rfl ?_
  refine GO.sipush dX12_init_535 rfl ?_
  refine GO.newT (atype := .int) 71 220 gw_89 rfl rfl (fun _ _ h => h) rfl rfl rfl (Or.inr rfl) (fun _ => okv_df rfl rfl rfl) rfl rfl dX12_init_538 (fun o876 K877 V883 hq878 hK879 hE880 h881 _ hV882 => ?_)
  have h884 := (by rw [hK879, updK_ne (K_old h870 hq878)]; exact h870 : K877 x = some (0, 23))
  have pf885 := PF.nw pf875 hV882 (K_old h870 hq878)
  have h886 := KE.nw (KE.new (KE.new (KE.new (KE.new (KE.new (KE.new (KE.new (KE.new (KE.new (KE.new (KE.new (KE.new (KE.new (KE.new (KE.new (KE.new (KE.new (KE.new (KE.new (KE.new (KE.new (KE.new (KE.new (KE.new (KE.new (KE.new (KE.new (KE.new (KE.new (KE.new (KE.new (KE.new (KE.new (KE.new (KE.new (KE.new (KE.new (KE.new (KE.new (KE.new (KE.new (KE.new (KE.new (KE.new (KE.new (KE.new (KE.new (KE.new (KE.new (KE.new (KE.new (KE.new (KE.new (KE.new (KE.new (KE.new (KE.new (KE.new (KE.new (KE.new (KE.new (KE.new KE.rf hq10 hK11) hq24 hK25) hq38 hK39) hq52 hK53) hq66 hK67) hq80 hK81) hq94 hK95) hq108 hK109) hq122 hK123) hq136 hK137) hq150 hK151) hq164 hK165) hq178 hK179) hq192 hK193) hq206 hK207) hq220 hK221) hq234 hK235) hq248 hK249) hq262 hK263) hq276 hK277) hq290 hK291) hq304 hK305) hq318 hK319) hq332 hK333) hq346 hK347) hq360 hK361) hq374 hK375) hq388 hK389) hq402 hK403) hq416 hK417) hq430 hK431) hq444 hK445) hq458 hK459) hq472 hK473) hq486 hK487) hq500 hK501) hq514 hK515) hq528 hK529) hq542 hK543) hq556 hK557) hq570 hK571) hq584 hK585) hq598 hK599) hq612 hK613) hq626 hK627) hq640 hK641) hq654 hK655) hq668 hK669) hq682 hK683) hq696 hK697) hq710 hK711) hq724 hK725) hq738 hK739) hq752 hK753) hq766 hK767) hq780 hK781) hq794 hK795) hq808 hK809) hq822 hK823) hq836 hK837) hq850 hK851) hq864 hK865) h870 hq878
  clear pf875
  refine GO.putRF rfl rfl (by decide +kernel) h884 fp_raw_fp_RX12_205 rfl rfl dX12_init_540 (fun V888 e887 => ?_)
  have pf889 := PF.put pf885 e887 rfl
  clear pf885
  refine GO.aload_n dX12_init_543 rfl rfl ?_
  refine GO.bipush dX12_init_544 rfl ?_
  refine GO.newT (atype := .int) 72 10 gw_89 rfl rfl (fun _ _ h => h) rfl rfl rfl (Or.inr rfl) (fun _ => okv_df rfl rfl rfl) rfl rfl dX12_init_546 (fun o890 K891 V897 hq892 hK893 hE894 h895 _ hV896 => ?_)
  have h898 := (by rw [hK893, updK_ne (K_old h884 hq892)]; exact h884 : K891 x = some (0, 23))
  have pf899 := PF.nw pf889 hV896 (K_old h884 hq892)
  have h900 := KE.nw (KE.new (KE.new (KE.new (KE.new (KE.new (KE.new (KE.new (KE.new (KE.new (KE.new (KE.new (KE.new (KE.new (KE.new (KE.new (KE.new (KE.new (KE.new (KE.new (KE.new (KE.new (KE.new (KE.new (KE.new (KE.new (KE.new (KE.new (KE.new (KE.new (KE.new (KE.new (KE.new (KE.new (KE.new (KE.new (KE.new (KE.new (KE.new (KE.new (KE.new (KE.new (KE.new (KE.new (KE.new (KE.new (KE.new (KE.new (KE.new (KE.new (KE.new (KE.new (KE.new (KE.new (KE.new (KE.new (KE.new (KE.new (KE.new (KE.new (KE.new (KE.new (KE.new (KE.new KE.rf hq10 hK11) hq24 hK25) hq38 hK39) hq52 hK53) hq66 hK67) hq80 hK81) hq94 hK95) hq108 hK109) hq122 hK123) hq136 hK137) hq150 hK151) hq164 hK165) hq178 hK179) hq192 hK193) hq206 hK207) hq220 hK221) hq234 hK235) hq248 hK249) hq262 hK263) hq276 hK277) hq290 hK291) hq304 hK305) hq318 hK319) hq332 hK333) hq346 hK347) hq360 hK361) hq374 hK375) hq388 hK389) hq402 hK403) hq416 hK417) hq430 hK431) hq444 hK445) hq458 hK459) hq472 hK473) hq486 hK487) hq500 hK501) hq514 hK515) hq528 hK529) hq542 hK543) hq556 hK557) hq570 hK571) hq584 hK585) hq598 hK599) hq612 hK613) hq626 hK627) hq640 hK641) hq654 hK655) hq668 hK669) hq682 hK683) hq696 hK697) hq710 hK711) hq724 hK725) hq738 hK739) hq752 hK753) hq766 hK767) hq780 hK781) hq794 hK795) hq808 hK809) hq822 hK823) hq836 hK837) hq850 hK851) hq864 hK865) hq878 hK879) h884 hq892
  clear pf889
  refine GO.putRF rfl rfl (by decide +kernel) h898 fp_raw_fp_RX12_208 rfl rfl dX12_init_548 (fun V902 e901 => ?_)
  have pf903 := PF.put pf899 e901 rfl
  clear pf899
  refine GO.aload_n dX12_init_551 rfl rfl ?_
  refine GO.bipush dX12_init_552 rfl ?_
  refine GO.newT (atype := .int) 73 10 gw_89 rfl rfl (fun _ _ h => h) rfl rfl rfl (Or.inr rfl) (fun _ => okv_df rfl rfl rfl) rfl rfl dX12_init_554 (fun o904 K905 V911 hq906 hK907 hE908 h909 _ hV910 => ?_)
  have h912 := (by rw [hK907, updK_ne (K_old h898 hq906)]; exact h898 : K905 x = some (0, 23))
  have pf913 := PF.nw pf903 hV910 (K_old h898 hq906)
  have h914 := KE.nw (KE.new (KE.new (KE.new (KE.new (KE.new (KE.new (KE.new (KE.new (KE.new (KE.new (KE.new (KE.new (KE.new (KE.new (KE.new (KE.new (KE.new (KE.new (KE.new (KE.new (KE.new (KE.new (KE.new (KE.new (KE.new (KE.new (KE.new (KE.new (KE.new (KE.new (KE.new (KE.new (KE.new (KE.new (KE.new (KE.new (KE.new (KE.new (KE.new (KE.new (KE.new (KE.new (KE.new (KE.new (KE.new (KE.new (KE.new (KE.new (KE.new (KE.new (KE.new (KE.new (KE.new (KE.new (KE.new (KE.new (KE.new (KE.new (KE.new (KE.new (KE.new (KE.new (KE.new (KE.new KE.rf hq10 hK11) hq24 hK25) hq38 hK39) hq52 hK53) hq66 hK67) hq80 hK81) hq94 hK95) hq108 hK109) hq122 hK123) hq136 hK137) hq150 hK151) hq164 hK165) hq178 hK179) hq192 hK193) hq206 hK207) hq220 hK221) hq234 hK235) hq248 hK249) hq262 hK263) hq276 hK277) hq290 hK291) hq304 hK305) hq318 hK319) hq332 hK333) hq346 hK347) hq360 hK361) hq374 hK375) hq388 hK389) hq402 hK403) hq416 hK417) hq430 hK431) hq444 hK445) hq458 hK459) hq472 hK473) hq486 hK487) hq500 hK501) hq514 hK515) hq528 hK529) hq542 hK543) hq556 hK557) hq570 hK571) hq584 hK585) hq598 hK599) hq612 hK613) hq626 hK627) hq640 hK641) hq654 hK655) hq668 hK669) hq682 hK683) hq696 hK697) hq710 hK711) hq724 hK725) hq738 hK739) hq752 hK753) hq766 hK767) hq780 hK781) hq794 hK795) hq808 hK809) hq822 hK823) hq836 hK837) hq850 hK851) hq864 hK865) hq878 hK879) hq892 hK893) h898 hq906
  clear pf903
  refine GO.putRF rfl rfl (by decide +kernel) h912 fp_raw_fp_RX12_211 rfl rfl dX12_init_556 (fun V916 e915 => ?_)
  have pf917 := PF.put pf913 e915 rfl
  clear pf913
  refine GO.aload_n dX12_init_559 rfl rfl ?_
  refine GO.bipush dX12_init_560 rfl ?_
  refine GO.newT (atype := .int) 74 10 gw_89 rfl rfl (fun _ _ h => h) rfl rfl rfl (Or.inr rfl) (fun _ => okv_df rfl rfl rfl) rfl rfl dX12_init_562 (fun o918 K919 V925 hq920 hK921 hE922 h923 _ hV924 => ?_)
  have h926 := (by rw [hK921, updK_ne (K_old h912 hq920)]; exact h912 : K919 x = some (0, 23))
  have pf927 := PF.nw pf917 hV924 (K_old h912 hq920)
  have h928 := KE.nw (KE.new (KE.new (KE.new (KE.new (KE.new (KE.new (KE.new (KE.new (KE.new (KE.new (KE.new (KE.new (KE.new (KE.new (KE.new (KE.new (KE.new (KE.new (KE.new (KE.new (KE.new (KE.new (KE.new (KE.new (KE.new (KE.new (KE.new (KE.new (KE.new (KE.new (KE.new (KE.new (KE.new (KE.new (KE.new (KE.new (KE.new (KE.new (KE.new (KE.new (KE.new (KE.new (KE.new (KE.new (KE.new (KE.new (KE.new (KE.new (KE.new (KE.new (KE.new (KE.new (KE.new (KE.new (KE.new (KE.new (KE.new (KE.new (KE.new (KE.new (KE.new (KE.new (KE.new (KE.new (KE.new KE.rf hq10 hK11) hq24 hK25) hq38 hK39) hq52 hK53) hq66 hK67) hq80 hK81) hq94 hK95) hq108 hK109) hq122 hK123) hq136 hK137) hq150 hK151) hq164 hK165) hq178 hK179) hq192 hK193) hq206 hK207) hq220 hK221) hq234 hK235) hq248 hK249) hq262 hK263) hq276 hK277) hq290 hK291) hq304 hK305) hq318 hK319) hq332 hK333) hq346 hK347) hq360 hK361) hq374 hK375) hq388 hK389) hq402 hK403) hq416 hK417) hq430 hK431) hq444 hK445) hq458 hK459) hq472 hK473) hq486 hK487) hq500 hK501) hq514 hK515) hq528 hK529) hq542 hK543) hq556 hK557) hq570 hK571) hq584 hK585) hq598 hK599) hq612 hK613) hq626 hK627) hq640 hK641) hq654 hK655) hq668 hK669) hq682 hK683) hq696 hK697) hq710 hK711) hq724 hK725) hq738 hK739) hq752 hK753) hq766 hK767) hq780 hK781) hq794 hK795) hq808 hK809) hq822 hK823) hq836 hK837) hq850 hK851) hq864 hK865) hq878 hK879) hq892 hK893) hq906 hK907) h912 hq920
  clear pf917
  refine GO.putRF rfl rfl (by decide +kernel) h926 fp_raw_fp_RX12_214 rfl rfl dX12_init_564 (fun V930 e929 => ?_)
  have pf931 := PF.put pf927 e929 rfl
  clear pf927
  refine GO.aload_n dX12_init_567 rfl rfl ?_
  refine GO.bipush dX12_init_568 rfl ?_
  refine GO.newT (atype := .int) 75 10 gw_89 rfl rfl (fun _ _ h => h) rfl rfl rfl (Or.inr rfl) (fun _ => okv_df rfl rfl rfl) rfl rfl dX12_init_570 (fun o932 K933 V939 hq934 hK935 hE936 h937 _ hV938 => ?_)
  have h940 := (by rw [hK935, updK_ne (K_old h926 hq934)]; exact h926 : K933 x = some (0, 23))
  have pf941 := PF.nw pf931 hV938 (K_old h926 hq934)
  have h942 := KE.nw (KE.new (KE.new (KE.new (KE.new (KE.new (KE.new (KE.new (KE.new (KE.new (KE.new (KE.new (KE.new (KE.new (KE.new (KE.new (KE.new (KE.new (KE.new (KE.new (KE.new (KE.new (KE.new (KE.new (KE.new (KE.new (KE.new (KE.new (KE.new (KE.new (KE.new (KE.new (KE.new (KE.new (KE.new (KE.new (KE.new (KE.new (KE.new (KE.new (KE.new (KE.new (KE.new (KE.new (KE.new (KE.new (KE.new (KE.new (KE.new (KE.new (KE.new (KE.new (KE.new (KE.new (KE.new (KE.new (KE.new (KE.new (KE.new (KE.new (KE.new (KE.new (KE.new (KE.new (KE.new (KE.new (KE.new KE.rf hq10 hK11) hq24 hK25) hq38 hK39) hq52 hK53) hq66 hK67) hq80 hK81) hq94 hK95) hq108 hK109) hq122 hK123) hq136 hK137) hq150 hK151) hq164 hK165) hq178 hK179) hq192 hK193) hq206 hK207) hq220 hK221) hq234 hK235) hq248 hK249) hq262 hK263) hq276 hK277) hq290 hK291) hq304 hK305) hq318 hK319) hq332 hK333) hq346 hK347) hq360 hK361) hq374 hK375) hq388 hK389) hq402 hK403) hq416 hK417) hq430 hK431) hq444 hK445) hq458 hK459) hq472 hK473) hq486 hK487) hq500 hK501) hq514 hK515) hq528 hK529) hq542 hK543) hq556 hK557) hq570 hK571) hq584 hK585) hq598 hK599) hq612 hK613) hq626 hK627) hq640 hK641) hq654 hK655) hq668 hK669) hq682 hK683) hq696 hK697) hq710 hK711) hq724 hK725) hq738 hK739) hq752 hK753) hq766 hK767) hq780 hK781) hq794 hK795) hq808 hK809) hq822 hK823) hq836 hK837) hq850 hK851) hq864 hK865) hq878 hK879) hq892 hK893) hq906 hK907) hq920 hK921) h926 hq934
  clear pf931
  refine GO.putRF rfl rfl (by decide +kernel) h940 fp_raw_fp_RX12_217 rfl rfl dX12_init_572 (fun V944 e943 => ?_)
  have pf945 := PF.put pf941 e943 rfl
  clear pf941
  refine GO.aload_n dX12_init_575 rfl rfl ?_
  refine GO.bipush dX12_init_576 rfl ?_
  refine GO.newT (atype := .int) 76 10 gw_89 rfl rfl (fun _ _ h => h) rfl rfl rfl (Or.inr rfl) (fun _ => okv_df rfl rfl rfl) rfl rfl dX12_init_578 (fun o946 K947 V953 hq948 hK949 hE950 h951 _ hV952 => ?_)
  have h954 := (by rw [hK949, updK_ne (K_old h940 hq948)]; exact h940 : K947 x = some (0, 23))
  have pf955 := PF.nw pf945 hV952 (K_old h940 hq948)
  have h956 := KE.nw (KE.new (KE.new (KE.new (KE.new (KE.new (KE.new (KE.new (KE.new (KE.new (KE.new (KE.new (KE.new (KE.new (KE.new (KE.new (KE.new (KE.new (KE.new (KE.new (KE.new (KE.new (KE.new (KE.new (KE.new (KE.new (KE.new (KE.new (KE.new (KE.new (KE.new (KE.new (KE.new (KE.new (KE.new (KE.new (KE.new (KE.new (KE.new (KE.new (KE.new (KE.new (KE.new (KE.new (KE.new (KE.new (KE.new (KE.new (KE.new (KE.new (KE.new (KE.new (KE.new (KE.new (KE.new (KE.new (KE.new (KE.new (KE.new (KE.new (KE.new (KE.new (KE.new (KE.new (KE.new (KE.new (KE.new (KE.new KE.rf hq10 hK11) hq24 hK25) hq38 hK39) hq52 hK53) hq66 hK67) hq80 hK81) hq94 hK95) hq108 hK109) hq122 hK123) hq136 hK137) hq150 hK151) hq164 hK165) hq178 hK179) hq192 hK193) hq206 hK207) hq220 hK221) hq234 hK235) hq248 hK249) hq262 hK263) hq276 hK277) hq290 hK291) hq304 hK305) hq318 hK319) hq332 hK333) hq346 hK347) hq360 hK361) hq374 hK375) hq388 hK389) hq402 hK403) hq416 hK417) hq430 hK431) hq444 hK445) hq458 hK459) hq472 hK473) hq486 hK487) hq500 hK501) hq514 hK515) hq528 hK529) hq542 hK543) hq556 hK557) hq570 hK571) hq584 hK585) hq598 hK599) hq612 hK613) hq626 hK627) hq640 hK641) hq654 hK655) hq668 hK669) hq682 hK683) hq696 hK697) hq710 hK711) hq724 hK725) hq738 hK739) hq752 hK753) hq766 hK767) hq780 hK781) hq794 hK795) hq808 hK809) hq822 hK823) hq836 hK837) hq850 hK851) hq864 hK865) hq878 hK879) hq892 hK893) hq906 hK907) hq920 hK921) hq934 hK935) h940 hq948
  clear pf945
  refine GO.putRF rfl rfl (by decide +kernel) h954 fp_raw_fp_RX12_220 rfl rfl dX12_init_580 (fun V958 e957 => ?_)
  have pf959 := PF.put pf955 e957 rfl
  clear pf955
  refine GO.aload_n dX12_init_583 rfl rfl ?_
  refine GO.bipush dX12_init_584 rfl ?_
  refine GO.newT (atype := .int) 77 10 gw_89 rfl rfl (fun _ _ h => h) rfl rfl rfl (Or.inr rfl) (fun _ => okv_df rfl rfl rfl) rfl rfl dX12_init_586 (fun o960 K961 V967 hq962 hK963 hE964 h965 _ hV966 => ?_)
  have h968 := (by rw [hK963, updK_ne (K_old h954 hq962)]; exact h954 : K961 x = some (0, 23))
  have pf969 := PF.nw pf959 hV966 (K_old h954 hq962)
  have h970 := KE.nw (KE.new (KE.new (KE.new (KE.new (KE.new (KE.new (KE.new (KE.new (KE.new (KE.new (KE.new (KE.new (KE.new (KE.new (KE.new (KE.new (KE.new (KE.new (KE.new (KE.new (KE.new (KE.new (KE.new (KE.new (KE.new (KE.new (KE.new (KE.new (KE.new (KE.new (KE.new (KE.new (KE.new (KE.new (KE.new (KE.new (KE.new (KE.new (KE.new (KE.new (KE.new (KE.new (KE.new (KE.new (KE.new (KE.new (KE.new (KE.new (KE.new (KE.new (KE.new (KE.new (KE.new (KE.new (KE.new (KE.new (KE.new (KE.new (KE.new (KE.new (KE.new (KE.new (KE.new (KE.new (KE.new (KE.new (KE.new (KE.new KE.rf hq10 hK11) hq24 hK25) hq38 hK39) hq52 hK53) hq66 hK67) hq80 hK81) hq94 hK95) hq108 hK109) hq122 hK123) hq136 hK137) hq150 hK151) hq164 hK165) hq178 hK179) hq192 hK193) hq206 hK207) hq220 hK221) hq234 hK235) hq248 hK249) hq262 hK263) hq276 hK277) hq290 hK291) hq304 hK305) hq318 hK319) hq332 hK333) hq346 hK347) hq360 hK361) hq374 hK375) hq388 hK389) hq402 hK403) hq416 hK417) hq430 hK431) hq444 hK445) hq458 hK459) hq472 hK473) hq486 hK487) hq500 hK501) hq514 hK515) hq528 hK529) hq542 hK543) hq556 hK557) hq570 hK571) hq584 hK585) hq598 hK599) hq612 hK613) hq626 hK627) hq640 hK641) hq654 hK655) hq668 hK669) hq682 hK683) hq696 hK697) hq710 hK711) hq724 hK725) hq738 hK739) hq752 hK753) hq766 hK767) hq780 hK781) hq794 hK795) hq808 hK809) hq822 hK823) hq836 hK837) hq850 hK851) hq864 hK865) hq878 hK879) hq892 hK893) hq906 hK907) hq920 hK921) hq934 hK935) hq948 hK949) h954 hq962
  clear pf959
  refine GO.putRF rfl rfl (by decide +kernel) h968 fp_raw_fp_RX12_223 rfl rfl dX12_init_588 (fun V972 e971 => ?_)
  have pf973 := PF.put pf969 e971 rfl
  clear pf969
  refine GO.aload_n dX12_init_591 rfl rfl ?_
  refine GO.bipush dX12_init_592 rfl ?_
  refine GO.newT (atype := .int) 78 10 gw_89 rfl rfl (fun _ _ h => h) rfl rfl rfl (Or.inr rfl) (fun _ => okv_df rfl rfl rfl) rfl rfl dX12_init_594 (fun o974 K975 V981 hq976 hK977 hE978 h979 _ hV980 => ?_)
  have h982 := (by rw [hK977, updK_ne (K_old h968 hq976)]; exact h968 : K975 x = some (0, 23))
  have pf983 := PF.nw pf973 hV980 (K_old h968 hq976)
  have h984 := KE.nw (KE.new (KE.new (KE.new (KE.new (KE.new (KE.new (KE.new (KE.new (KE.new (KE.new (KE.new (KE.new (KE.new (KE.new (KE.new (KE.new (KE.new (KE.new (KE.new (KE.new (KE.new (KE.new (KE.new (KE.new (KE.new (KE.new (KE.new (KE.new (KE.new (KE.new (KE.new (KE.new (KE.new (KE.new (KE.new (KE.new (KE.new (KE.new (KE.new (KE.new (KE.new (KE.new (KE.new (KE.new (KE.new (KE.new (KE.new (KE.new (KE.new (KE.new (KE.new (KE.new (KE.new (KE.new (KE.new (KE.new (KE.new (KE.new (KE.new (KE.new (KE.new (KE.new (KE.new (KE.new (KE.new (KE.new (KE.new (KE.new (KE.new KE.rf hq10 hK11) hq24 hK25) hq38 hK39) hq52 hK53) hq66 hK67) hq80 hK81) hq94 hK95) hq108 hK109) hq122 hK123) hq136 hK137) hq150 hK151) hq164 hK165) hq178 hK179) hq192 hK193) hq206 hK207) hq220 hK221) hq234 hK235) hq248 hK249) hq262 hK263) hq276 hK277) hq290 hK291) hq304 hK305) hq318 hK319) hq332 hK333) hq346 hK347) hq360 hK361) hq374 hK375) hq388 hK389) hq402 hK403) hq416 hK417) hq430 hK431) hq444 hK445) hq458 hK459) hq472 hK473) hq486 hK487) hq500 hK501) hq514 hK515) hq528 hK529) hq542 hK543) hq556 hK557) hq570 hK571) hq584 hK585) hq598 hK599) hq612 hK613) hq626 hK627) hq640 hK641) hq654 hK655) hq668 hK669) hq682 hK683) hq696 hK697) hq710 hK711) hq724 hK725) hq738 hK739) hq752 hK753) hq766 hK767) hq780 hK781) hq794 hK795) hq808 hK809) hq822 hK823) hq836 hK837) hq850 hK851) hq864 hK865) hq878 hK879) hq892 hK893) hq906 hK907) hq920 hK921) hq934 hK935) hq948 hK949) hq962 hK963) h968 hq976
  clear pf973
  refine GO.putRF rfl rfl (by decide +kernel) h982 fp_raw_fp_RX12_226 rfl rfl dX12_init_596 (fun V986 e985 => ?_)
  have pf987 := PF.put pf983 e985 rfl
  clear pf983
  refine GO.aload_n dX12_init_599 rfl rfl ?_
  refine GO.bipush dX12_init_600 rfl ?_
  refine GO.newT (atype := .int) 79 10 gw_89 rfl rfl (fun _ _ h => h) rfl rfl rfl (Or.inr rfl) (fun _ => okv_df rfl rfl rfl) rfl rfl dX12_init_602 (fun o988 K989 V995 hq990 hK991 hE992 h993 _ hV994 => ?_)
  have h996 := (by rw [hK991, updK_ne (K_old h982 hq990)]; exact h982 : K989 x = some (0, 23))
  have pf997 := PF.nw pf987 hV994 (K_old h982 hq990)
  have h998 := KE.nw (KE.new (KE.new (KE.new (KE.new (KE.new (KE.new (KE.new (KE.new (KE.new (KE.new (KE.new (KE.new (KE.new (KE.new (KE.new (KE.new (KE.new (KE.new (KE.new (KE.new (KE.new (KE.new (KE.new (KE.new (KE.new (KE.new (KE.new (KE.new (KE.new (KE.new (KE.new (KE.new (KE.new (KE.new (KE.new (KE.new (KE.new (KE.new (KE.new (KE.new (KE.new (KE.new (KE.new (KE.new (KE.new (KE.new (KE.new (KE.new (KE.new (KE.new (KE.new (KE.new (KE.new (KE.new (KE.new (KE.new (KE.new (KE.new (KE.new (KE.new (KE.new (KE.new (KE.new (KE.new (KE.new (KE.new (KE.new (KE.new (KE.new (KE.new KE.rf hq10 hK11) hq24 hK25) hq38 hK39) hq52 hK53) hq66 hK67) hq80 hK81) hq94 hK95) hq108 hK109) hq122 hK123) hq136 hK137) hq150 hK151) hq164 hK165) hq178 hK179) hq192 hK193) hq206 hK207) hq220 hK221) hq234 hK235) hq248 hK249) hq262 hK263) hq276 hK277) hq290 hK291) hq304 hK305) hq318 hK319) hq332 hK333) hq346 hK347) hq360 hK361) hq374 hK375) hq388 hK389) hq402 hK403) hq416 hK417) hq430 hK431) hq444 hK445) hq458 hK459) hq472 hK473) hq486 hK487) hq500 hK501) hq514 hK515) hq528 hK529) hq542 hK543) hq556 hK557) hq570 hK571) hq584 hK585) hq598 hK599) hq612 hK613) hq626 hK627) hq640 hK641) hq654 hK655) hq668 hK669) hq682 hK683) hq696 hK697) hq710 hK711) hq724 hK725) hq738 hK739) hq752 hK753) hq766 hK767) hq780 hK781) hq794 hK795) hq808 hK809) hq822 hK823) hq836 hK837) hq850 hK851) hq864 hK865) hq878 hK879) hq892 hK893) hq906 hK907) hq920 hK921) hq934 hK935) hq948 hK949) hq962 hK963) hq976 hK977) h982 hq990
  clear pf987
  refine GO.putRF rfl rfl (by decide +kernel) h996 fp_raw_fp_RX12_229 rfl rfl dX12_init_604 (fun V1000 e999 => ?_)
  have pf1001 := PF.put pf997 e999 rfl
  clear pf997
  refine GO.aload_n dX12_init_607 rfl rfl ?_
  refine GO.bipush dX12_init_608 rfl ?_
  refine GO.newT (atype := .int) 80 10 gw_89 rfl rfl (fun _ _ h => h) rfl rfl rfl (Or.inr rfl) (fun _ => okv_df rfl rfl rfl) rfl rfl dX12_init_610 (fun o1002 K1003 V1009 hq1004 hK1005 hE1006 h1007 _ hV1008 => ?_)
  have h1010 := (by rw [hK1005, updK_ne (K_old h996 hq1004)]; exact h996 : K1003 x = some (0, 23))
  have pf1011 := PF.nw pf1001 hV1008 (K_old h996 hq1004)
  have h1012 := KE.nw (KE.new (KE.new (KE.new (KE.new (KE.new (KE.new (KE.new (KE.new (KE.new (KE.new (KE.new (KE.new (KE.new (KE.new (KE.new (KE.new (KE.new (KE.new (KE.new (KE.new (KE.new (KE.new (KE.new (KE.new (KE.new (KE.new (KE.new (KE.new (KE.new (KE.new (KE.new (KE.new (KE.new (KE.new (KE.new (KE.new (KE.new (KE.new (KE.new (KE.new (KE.new (KE.new (KE.new (KE.new (KE.new (KE.new (KE.new (KE.new (KE.new (KE.new (KE.new (KE.new (KE.new (KE.new (KE.new (KE.new (KE.new (KE.new (KE.new (KE.new (KE.new (KE.new (KE.new (KE.new (KE.new (KE.new (KE.new (KE.new (KE.new (KE.new (KE.new KE.rf hq10 hK11) hq24 hK25) hq38 hK39) hq52 hK53) hq66 hK67) hq80 hK81) hq94 hK95) hq108 hK109) hq122 hK123) hq136 hK137) hq150 hK151) hq164 hK165) hq178 hK179) hq192 hK193) hq206 hK207) hq220 hK221) hq234 hK235) hq248 hK249) hq262 hK263) hq276 hK277) hq290 hK291) hq304 hK305) hq318 hK319) hq332 hK333) hq346 hK347) hq360 hK361) hq374 hK375) hq388 hK389) hq402 hK403) hq416 hK417) hq430 hK431) hq444 hK445) hq458 hK459) hq472 hK473) hq486 hK487) hq500 hK501) hq514 hK515) hq528 hK529) hq542 hK543) hq556 hK557) hq570 hK571) hq584 hK585) hq598 hK599) hq612 hK613) hq626 hK627) hq640 hK641) hq654 hK655) hq668 hK669) hq682 hK683) hq696 hK697) hq710 hK711) hq724 hK725) hq738 hK739) hq752 hK753) hq766 hK767) hq780 hK781) hq794 hK795) hq808 hK809) hq822 hK823) hq836 hK837) hq850 hK851) hq864 hK865) hq878 hK879) hq892 hK893) hq906 hK907) hq920 hK921) hq934 hK935) hq948 hK949) hq962 hK963) hq976 hK977) hq990 hK991) h996 hq1004
  clear pf1001
  refine GO.putRF rfl rfl (by decide +kernel) h1010 fp_raw_fp_RX12_232 rfl rfl dX12_init_612 (fun V1014 e1013 => ?_)
  have pf1015 := PF.put pf1011 e1013 rfl
  clear pf1011
  refine GO.aload_n dX12_init_615 rfl rfl ?_
  refine GO.bipush dX12_init_616 rfl ?_
  refine GO.newT (atype := .int) 81 10 gw_89 rfl rfl (fun _ _ h => h) rfl rfl rfl (Or.inr rfl) (fun _ => okv_df rfl rfl rfl) rfl rfl dX12_init_618 (fun o1016 K1017 V1023 hq1018 hK1019 hE1020 h1021 _ hV1022 => ?_)
  have h1024 := (by rw [hK1019, updK_ne (K_old h1010 hq1018)]; exact h1010 : K1017 x = some (0, 23))
  have pf1025 := PF.nw pf1015 hV1022 (K_old h1010 hq1018)
  have h1026 := KE.nw (KE.new (KE.new (KE.new (KE.new (KE.new (KE.new (KE.new (KE.new (KE.new (KE.new (KE.new (KE.new (KE.new (KE.new (KE.new (KE.new (KE.new (KE.new (KE.new (KE.new (KE.new (KE.new (KE.new (KE.new (KE.new (KE.new (KE.new (KE.new (KE.new (KE.new (KE.new (KE.new (KE.new (KE.new (KE.new (KE.new (KE.new (KE.new (KE.new (KE.new (KE.new (KE.new (KE.new (KE.new (KE.new (KE.new (KE.new (KE.new (KE.new (KE.new (KE.new (KE.new (KE.new (KE.new (KE.new (KE.new (KE.new (KE.new (KE.new (KE.new (KE.new (KE.new (KE.new (KE.new (KE.new (KE.new (KE.new (KE.new (KE.new (KE.new (KE.new (KE.new KE.rf hq10 hK11) hq24 hK25) hq38 hK39) hq52 hK53) hq66 hK67) hq80 hK81) hq94 hK95) hq108 hK109) hq122 hK123) hq136 hK137) hq150 hK151) hq164 hK165) hq178 hK179) hq192 hK193) hq206 hK207) hq220 hK221) hq234 hK235) hq248 hK249) hq262 hK263) hq276 hK277) hq290 hK291) hq304 hK305) hq318 hK319) hq332 hK333) hq346 hK347) hq360 hK361) hq374 hK375) hq388 hK389) hq402 hK403) hq416 hK417) hq430 hK431) hq444 hK445) hq458 hK459) hq472 hK473) hq486 hK487) hq500 hK501) hq514 hK515) hq528 hK529) hq542 hK543) hq556 hK557) hq570 hK571) hq584 hK585) hq598 hK599) hq612 hK613) hq626 hK627) hq640 hK641) hq654 hK655) hq668 hK669) hq682 hK683) hq696 hK697) hq710 hK711) hq724 hK725) hq738 hK739) hq752 hK753) hq766 hK767) hq780 hK781) hq794 hK795) hq808 hK809) hq822 hK823) hq836 hK837) hq850 hK851) hq864 hK865) hq878 hK879) hq892 hK893) hq906 hK907) hq920 hK921) hq934 hK935) hq948 hK949) hq962 hK963) hq976 hK977) hq990 hK991) hq1004 hK1005) h1010 hq1018
  clear pf1015
  refine GO.putRF rfl rfl (by decide +kernel) h1024 fp_raw_fp_RX12_235 rfl rfl dX12_init_620 (fun V1028 e1027 => ?_)
  have pf1029 := PF.put pf1025 e1027 rfl
  clear pf1025
  refine GO.aload_n dX12_init_623 rfl rfl ?_
  refine GO.bipush dX12_init_624 rfl ?_
  refine GO.newT (atype := .int) 82 10 gw_89 rfl rfl (fun _ _ h => h) rfl rfl rfl (Or.inr rfl) (fun _ => okv_df rfl rfl rfl) rfl rfl dX12_init_626 (fun o1030 K1031 V1037 hq1032 hK1033 hE1034 h1035 _ hV1036 => ?_)
  have h1038 := (by rw [hK1033, updK_ne (K_old h1024 hq1032)]; exact h1024 : K1031 x = some (0, 23))
  have pf1039 := PF.nw pf1029 hV1036 (K_old h1024 hq1032)
  have h1040 := KE.nw (KE.new (KE.new (KE.new (KE.new (KE.new (KE.new (KE.new (KE.new (KE.new (KE.new (KE.new (KE.new (KE.new (KE.new (KE.new (KE.new (KE.new (KE.new (KE.new (KE.new (KE.new (KE.new (KE.new (KE.new (KE.new (KE.new (KE.new (KE.new (KE.new (KE.new (KE.new (KE.new (KE.new (KE.new (KE.new (KE.new (KE.new (KE.new (KE.new (KE.new (KE.new (KE.new (KE.new (KE.new (KE.new (KE.new (KE.new (KE.new (KE.new (KE.new (KE.new (KE.new (KE.new (KE.new (KE.new (KE.new (KE.new (KE.new (KE.new (KE.new (KE.new (KE.new (KE.new (KE.new (KE.new (KE.new (KE.new (KE.new (KE.new (KE.new (KE.new (KE.new (KE.new KE.rf hq10 hK11) hq24 hK25) hq38 hK39) hq52 hK53) hq66 hK67) hq80 hK81) hq94 hK95) hq108 hK109) hq122 hK123) hq136 hK137) hq150 hK151) hq164 hK165) hq178 hK179) hq192 hK193) hq206 hK207) hq220 hK221) hq234 hK235) hq248 hK249) hq262 hK263) hq276 hK277) hq290 hK291) hq304 hK305) hq318 hK319) hq332 hK333) hq346 hK347) hq360 hK361) hq374 hK375) hq388 hK389) hq402 hK403) hq416 hK417) hq430 hK431) hq444 hK445) hq458 hK459) hq472 hK473) hq486 hK487) hq500 hK501) hq514 hK515) hq528 hK529) hq542 hK543) hq556 hK557) hq570 hK571) hq584 hK585) hq598 hK599) hq612 hK613) hq626 hK627) hq640 hK641) hq654 hK655) hq668 hK669) hq682 hK683) hq696 hK697) hq710 hK711) hq724 hK725) hq738 hK739) hq752 hK753) hq766 hK767) hq780 hK781) hq794 hK795) hq808 hK809) hq822 hK823) hq836 hK837) hq850 hK851) hq864 hK865) hq878 hK879) hq892 hK893) hq906 hK907) hq920 hK921) hq934 hK935) hq948 hK949) hq962 hK963) hq976 hK977) hq990 hK991) hq1004 hK1005) hq1018 hK1019) h1024 hq1032
  clear pf1029
  refine GO.putRF rfl rfl (by decide +kernel) h1038 fp_raw_fp_RX12_238 rfl rfl dX12_init_628 (fun V1042 e1041 => ?_)
  have pf1043 := PF.put pf1039 e1041 rfl
  clear pf1039
  refine GO.aload_n dX12_init_631 rfl rfl ?_
  refine GO.bipush dX12_init_632 rfl ?_
  refine GO.newT (atype := .int) 83 48 gw_89 rfl rfl (fun _ _ h => h) rfl rfl rfl (Or.inr rfl) (fun _ => okv_df rfl rfl rfl) rfl rfl dX12_init_634 (fun o1044 K1045 V1051 hq1046 hK1047 hE1048 h1049 _ hV1050 => ?_)
  have h1052 := (by rw [hK1047, updK_ne (K_old h1038 hq1046)]; exact h1038 : K1045 x = some (0, 23))
  have pf1053 := PF.nw pf1043 hV1050 (K_old h1038 hq1046)
  have h1054 := KE.nw (KE.new (KE.new (KE.new (KE.new (KE.new (KE.new (KE.new (KE.new (KE.new (KE.new (KE.new (KE.new (KE.new (KE.new (KE.new (KE.new (KE.new (KE.new (KE.new (KE.new (KE.new (KE.new (KE.new (KE.new (KE.new (KE.new (KE.new (KE.new (KE.new (KE.new (KE.new (KE.new (KE.new (KE.new (KE.new (KE.new (KE.new (KE.new (KE.new (KE.new (KE.new (KE.new (KE.new (KE.new (KE.new (KE.new (KE.new (KE.new (KE.new (KE.new (KE.new (KE.new (KE.new (KE.new (KE.new (KE.new (KE.new (KE.new (KE.new (KE.new (KE.new (KE.new (KE.new (KE.new (KE.new (KE.new (KE.new (KE.new (KE.new (KE.new (KE.new (KE.new (KE.new (KE.new KE.rf hq10 hK11) hq24 hK25) hq38 hK39) hq52 hK53) hq66 hK67) hq80 hK81) hq94 hK95) hq108 hK109) hq122 hK123) hq136 hK137) hq150 hK151) hq164 hK165) hq178 hK179) hq192 hK193) hq206 hK207) hq220 hK221) hq234 hK235) hq248 hK249) hq262 hK263) hq276 hK277) hq290 hK291) hq304 hK305) hq318 hK319) hq332 hK333) hq346 hK347) hq360 hK361) hq374 hK375) hq388 hK389) hq402 hK403) hq416 hK417) hq430 hK431) hq444 hK445) hq458 hK459) hq472 hK473) hq486 hK487) hq500 hK501) hq514 hK515) hq528 hK529) hq542 hK543) hq556 hK557) hq570 hK571) hq584 hK585) hq598 hK599) hq612 hK613) hq626 hK627) hq640 hK641) hq654 hK655) hq668 hK669) hq682 hK683) hq696 hK697) hq710 hK711) hq724 hK725) hq738 hK739) hq752 hK753) hq766 hK767) hq780 hK781) hq794 hK795) hq808 hK809) hq822 hK823) hq836 hK837) hq850 hK851) hq864 hK865) hq878 hK879) hq892 hK893) hq906 hK907) hq920 hK921) hq934 hK935) hq948 hK949) hq962 hK963) hq976 hK977) hq990 hK991) hq1004 hK1005) hq1018 hK1019) hq1032 hK1033) h1038 hq1046
  clear pf1043
  refine GO.putRF rfl rfl (by decide +kernel) h1052 fp_raw_fp_RX12_241 rfl rfl dX12_init_636 (fun V1056 e1055 => ?_)
  have pf1057 := PF.put pf1053 e1055 rfl
  clear pf1053
  refine GO.aload_n dX12_init_639 rfl rfl ?_
  refine GO.iconst dX12_init_640 ?_
  refine GO.newT (atype := .int) 84 4 gw_89 rfl rfl (fun _ _ h => h) rfl rfl rfl (Or.inr rfl) (fun _ => okv_df rfl rfl rfl) rfl rfl dX12_init_641 (fun o1058 K1059 V1065 hq1060 hK1061 hE1062 h1063 _ hV1064 => ?_)
  have h1066 := (by rw [hK1061, updK_ne (K_old h1052 hq1060)]; exact h1052 : K1059 x = some (0, 23))
  have pf1067 := PF.nw pf1057 hV1064 (K_old h1052 hq1060)
  have h1068 := KE.nw (KE.new (KE.new (KE.new (KE.new (KE.new (KE.new (KE.new (KE.new (KE.new (KE.new (KE.new (KE.new (KE.new (KE.new (KE.new (KE.new (KE.new (KE.new (KE.new (KE.new (KE.new (KE.new (KE.new (KE.new (KE.new (KE.new (KE.new (KE.new (KE.new (KE.new (KE.new (KE.new (KE.new (KE.new (KE.new (KE.new (KE.new (KE.new (KE.new (KE.new (KE.new (KE.new (KE.new (KE.new (KE.new (KE.new (KE.new (KE.new (KE.new (KE.new (KE.new (KE.new (KE.new (KE.new (KE.new (KE.new (KE.new (KE.new (KE.new (KE.new (KE.new (KE.new (KE.new (KE.new (KE.new (KE.new (KE.new (KE.new (KE.new (KE.new (KE.new (KE.new (KE.new (KE.new (KE.new KE.rf hq10 hK11) hq24 hK25) hq38 hK39) hq52 hK53) hq66 hK67) hq80 hK81) hq94 hK95) hq108 hK109) hq122 hK123) hq136 hK137) hq150 hK151) hq164 hK165) hq178 hK179) hq192 hK193) hq206 hK207) hq220 hK221) hq234 hK235) hq248 hK249) hq262 hK263) hq276 hK277) hq290 hK291) hq304 hK305) hq318 hK319) hq332 hK333) hq346 hK347) hq360 hK361) hq374 hK375) hq388 hK389) hq402 hK403) hq416 hK417) hq430 hK431) hq444 hK445) hq458 hK459) hq472 hK473) hq486 hK487) hq500 hK501) hq514 hK515) hq528 hK529) hq542 hK543) hq556 hK557) hq570 hK571) hq584 hK585) hq598 hK599) hq612 hK613) hq626 hK627) hq640 hK641) hq654 hK655) hq668 hK669) hq682 hK683) hq696 hK697) hq710 hK711) hq724 hK725) hq738 hK739) hq752 hK753) hq766 hK767) hq780 hK781) hq794 hK795) hq808 hK809) hq822 hK823) hq836 hK837) hq850 hK851) hq864 hK865) hq878 hK879) hq892 hK893) hq906 hK907) hq920 hK921) hq934 hK935) hq948 hK949) hq962 hK963) hq976 hK977) hq990 hK991) hq1004 hK1005) hq1018 hK1019) hq1032 hK1033) hq1046 hK1047) h1052 hq1060
  clear pf1057
  refine GO.putRF rfl rfl (by decide +kernel) h1066 fp_raw_fp_RX12_244 rfl rfl dX12_init_643 (fun V1070 e1069 => ?_)
  have pf1071 := PF.put pf1067 e1069 rfl
  clear pf1067
  refine GO.aload_n dX12_init_646 rfl rfl ?_
  refine GO.bipush dX12_init_647 rfl ?_
  refine GO.newT (atype := .int) 85 40 gw_89 rfl rfl (fun _ _ h => h) rfl rfl rfl (Or.inr rfl) (fun _ => okv_df rfl rfl rfl) rfl rfl dX12_init_649 (fun o1072 K1073 V1079 hq1074 hK1075 hE1076 h1077 _ hV1078 => ?_)
  have h1080 := (by rw [hK1075, updK_ne (K_old h1066 hq1074)]; exact h1066 : K1073 x = some (0, 23))
  have pf1081 := PF.nw pf1071 hV1078 (K_old h1066 hq1074)
  have h1082 := KE.nw (KE.new (KE.new (KE.new (KE.new (KE.new (KE.new (KE.new (KE.new (KE.new (KE.new (KE.new (KE.new (KE.new (KE.new (KE.new (KE.new (KE.new (KE.new (KE.new (KE.new (KE.new (KE.new (KE.new (KE.new (KE.new (KE.new (KE.new (KE.new (KE.new (KE.new (KE.new (KE.new (KE.new (KE.new (KE.new (KE.new (KE.new (KE.new (KE.new (KE.new (KE.new (KE.new (KE.new (KE.new (KE.new (KE.new (KE.new (KE.new (KE.new (KE.new (KE.new (KE.new (KE.new (KE.new (KE.new (KE.new (KE.new (KE.new (KE.new (KE.new (KE.new (KE.new (KE.new (KE.new (KE.new (KE.new (KE.new (KE.new (KE.new (KE.new (KE.new (KE.new (KE.new (KE.new (KE.new (KE.new KE.rf hq10 hK11) hq24 hK25) hq38 hK39) hq52 hK53) hq66 hK67) hq80 hK81) hq94 hK95) hq108 hK109) hq122 hK123) hq136 hK137) hq150 hK151) hq164 hK165) hq178 hK179) hq192 hK193) hq206 hK207) hq220 hK221) hq234 hK235) hq248 hK249) hq262 hK263) hq276 hK277) hq290 hK291) hq304 hK305) hq318 hK319) hq332 hK333) hq346 hK347) hq360 hK361) hq374 hK375) hq388 hK389) hq402 hK403) hq416 hK417) hq430 hK431) hq444 hK445) hq458 hK459) hq472 hK473) hq486 hK487) hq500 hK501) hq514 hK515) hq528 hK529) hq542 hK543) hq556 hK557) hq570 hK571) hq584 hK585) hq598 hK599) hq612 hK613) hq626 hK627) hq640 hK641) hq654 hK655) hq668 hK669) hq682 hK683) hq696 hK697) hq710 hK711) hq724 hK725) hq738 hK739) hq752 hK753) hq766 hK767) hq780 hK781) hq794 hK795) hq808 hK809) hq822 hK823) hq836 hK837) hq850 hK851) hq864 hK865) hq878 hK879) hq892 hK893) hq906 hK907) hq920 hK921) hq934 hK935) hq948 hK949) hq962 hK963) hq976 hK977) hq990 hK991) hq1004 hK1005) hq1018 hK1019) hq1032 hK1033) hq1046 hK1047) hq1060 hK1061) h1066 hq1074
  clear pf1071
  refine GO.putRF rfl rfl (by decide +kernel) h1080 fp_raw_fp_RX12_247 rfl rfl dX12_init_651 (fun V1084 e1083 => ?_)
  have pf1085 := PF.put pf1081 e1083 rfl
  clear pf1081
  refine GO.aload_n dX12_init_654 rfl rfl ?_
  refine GO.bipush dX12_init_655 rfl ?_
  refine GO.newT (atype := .int) 86 40 gw_89 rfl rfl (fun _ _ h => h) rfl rfl rfl (Or.inr rfl) (fun _ => okv_df rfl rfl rfl) rfl rfl dX12_init_657 (fun o1086 K1087 V1093 hq1088 hK1089 hE1090 h1091 _ hV1092 => ?_)
  have h1094 := (by rw [hK1089, updK_ne (K_old h1080 hq1088)]; exact h1080 : K1087 x = some (0, 23))
  have pf1095 := PF.nw pf1085 hV1092 (K_old h1080 hq1088)
  have h1096 := KE.nw (KE.new (KE.new (KE.new (KE.new (KE.new (KE.new (KE.new (KE.new (KE.new (KE.new (KE.new (KE.new (KE.new (KE.new (KE.new (KE.new (KE.new (KE.new (KE.new (KE.new (KE.new (KE.new (KE.new (KE.new (KE.new (KE.new (KE.new (KE.new (KE.new (KE.new (KE.new (KE.new (KE.new (KE.new (KE.new (KE.new (KE.new (KE.new (KE.new (KE.new (KE.new (KE.new (KE.new (KE.new (KE.new (KE.new (KE.new (KE.new (KE.new (KE.new (KE.new (KE.new (KE.new (KE.new (KE.new (KE.new (KE.new (KE.new (KE.new (KE.new (KE.new (KE.new (KE.new (KE.new (KE.new (KE.new (KE.new (KE.new (KE.new (KE.new (KE.new (KE.new (KE.new (KE.new (KE.new (KE.new (KE.new KE.rf hq10 hK11) hq24 hK25) hq38 hK39) hq52 hK53) hq66 hK67) hq80 hK81) hq94 hK95) hq108 hK109) hq122 hK123) hq136 hK137) hq150 hK151) hq164 hK165) hq178 hK179) hq192 hK193) hq206 hK207) hq220 hK221) hq234 hK235) hq248 hK249) hq262 hK263) hq276 hK277) hq290 hK291) hq304 hK305) hq318 hK319) hq332 hK333) hq346 hK347) hq360 hK361) hq374 hK375) hq388 hK389) hq402 hK403) hq416 hK417) hq430 hK431) hq444 hK445) hq458 hK459) hq472 hK473) hq486 hK487) hq500 hK501) hq514 hK515) hq528 hK529) hq542 hK543) hq556 hK557) hq570 hK571) hq584 hK585) hq598 hK599) hq612 hK613) hq626 hK627) hq640 hK641) hq654 hK655) hq668 hK669) hq682 hK683) hq696 hK697) hq710 hK711) hq724 hK725) hq738 hK739) hq752 hK753) hq766 hK767) hq780 hK781) hq794 hK795) hq808 hK809) hq822 hK823) hq836 hK837) hq850 hK851) hq864 hK865) hq878 hK879) hq892 hK893) hq906 hK907) hq920 hK921) hq934 hK935) hq948 hK949) hq962 hK963) hq976 hK977) hq990 hK991) hq1004 hK1005) hq1018 hK1019) hq1032 hK1033) hq1046 hK1047) hq1060 hK1061) hq1074 hK1075) h1080 hq1088
  clear pf1085
  refine GO.putRF rfl rfl (by decide +kernel) h1094 fp_raw_fp_RX12_250 rfl rfl dX12_init_659 (fun V1098 e1097 => ?_)
  have pf1099 := PF.put pf1095 e1097 rfl
  clear pf1095
  refine GO.aload_n dX12_init_662 rfl rfl ?_
  refine GO.bipush dX12_init_663 rfl ?_
  refine GO.newT (atype := .int) 87 40 gw_89 rfl rfl (fun _ _ h => h) rfl rfl rfl (Or.inr rfl) (fun _ => okv_df rfl rfl rfl) rfl rfl dX12_init_665 (fun o1100 K1101 V1107 hq1102 hK1103 hE1104 h1105 _ hV1106 => ?_)
  have h1108 := (by rw [hK1103, updK_ne (K_old h1094 hq1102)]; exact h1094 : K1101 x = some (0, 23))
  have pf1109 := PF.nw pf1099 hV1106 (K_old h1094 hq1102)
  have h1110 := KE.nw (KE.new (KE.new (KE.new (KE.new (KE.new (KE.new (KE.new (KE.new (KE.new (KE.new (KE.new (KE.new (KE.new (KE.new (KE.new (KE.new (KE.new (KE.new (KE.new (KE.new (KE.new (KE.new (KE.new (KE.new (KE.new (KE.new (KE.new (KE.new (KE.new (KE.new (KE.new (KE.new (KE.new (KE.new (KE.new (KE.new (KE.new (KE.new (KE.new (KE.new (KE.new (KE.new (KE.new (KE.new (KE.new (KE.new (KE.new (KE.new (KE.new (KE.new (KE.new (KE.new (KE.new (KE.new (KE.new (KE.new (KE.new (KE.new (KE.new (KE.new (KE.new (KE.new (KE.new (KE.new (KE.new (KE.new (KE.new (KE.new (KE.new (KE.new (KE.new (KE.new (KE.new (KE.new (KE.new (KE.new (KE.new (KE.new KE.rf hq10 hK11) hq24 hK25) hq38 hK39) hq52 hK53) hq66 hK67) hq80 hK81) hq94 hK95) hq108 hK109) hq122 hK123) hq136 hK137) hq150 hK151) hq164 hK165) hq178 hK179) hq192 hK193) hq206 hK207) hq220 hK221) hq234 hK235) hq248 hK249) hq262 hK263) hq276 hK277) hq290 hK291) hq304 hK305) hq318 hK319) hq332 hK333) hq346 hK347) hq360 hK361) hq374 hK375) hq388 hK389) hq402 hK403) hq416 hK417) hq430 hK431) hq444 hK445) hq458 hK459) hq472 hK473) hq486 hK487) hq500 hK501) hq514 hK515) hq528 hK529) hq542 hK543) hq556 hK557) hq570 hK571) hq584 hK585) hq598 hK599) hq612 hK613) hq626 hK627) hq640 hK641) hq654 hK655) hq668 hK669) hq682 hK683) hq696 hK697) hq710 hK711) hq724 hK725) hq738 hK739) hq752 hK753) hq766 hK767) hq780 hK781) hq794 hK795) hq808 hK809) hq822 hK823) hq836 hK837) hq850 hK851) hq864 hK865) hq878 hK879) hq892 hK893) hq906 hK907) hq920 hK921) hq934 hK935) hq948 hK949) hq962 hK963) hq976 hK977) hq990 hK991) hq1004 hK1005) hq1018 hK1019) hq1032 hK1033) hq1046 hK1047) hq1060 hK1061) hq1074 hK1075) hq1088 hK1089) h1094 hq1102
  clear pf1099
  refine GO.putRF rfl rfl (by decide +kernel) h1108 fp_raw_fp_RX12_253 rfl rfl dX12_init_667 (fun V1112 e1111 => ?_)
  have pf1113 := PF.put pf1109 e1111 rfl
  clear pf1109
  refine GO.aload_n dX12_init_670 rfl rfl ?_
  refine GO.bipush dX12_init_671 rfl ?_
  refine GO.newT (atype := .int) 88 40 gw_89 rfl rfl (fun _ _ h => h) rfl rfl rfl (Or.inr rfl) (fun _ => okv_df rfl rfl rfl) rfl rfl dX12_init_673 (fun o1114 K1115 V1121 hq1116 hK1117 hE1118 h1119 _ hV1120 => ?_)
  have h1122 := (by rw [hK1117, updK_ne (K_old h1108 hq1116)]; exact h1108 : K1115 x = some (0, 23))
  have pf1123 := PF.nw pf1113 hV1120 (K_old h1108 hq1116)
  have h1124 := KE.nw (KE.new (KE.new (KE.new (KE.new (KE.new (KE.new (KE.new (KE.new (KE.new (KE.new (KE.new (KE.new (KE.new (KE.new (KE.new (KE.new (KE.new (KE.new (KE.new (KE.new (KE.new (KE.new (KE.new (KE.new (KE.new (KE.new (KE.new (KE.new (KE.new (KE.new (KE.new (KE.new (KE.new (KE.new (KE.new (KE.new (KE.new (KE.new (KE.new (KE.new (KE.new (KE.new (KE.new (KE.new (KE.new (KE.new (KE.new (KE.new (KE.new (KE.new (KE.new (KE.new (KE.new (KE.new (KE.new (KE.new (KE.new (KE.new (KE.new (KE.new (KE.new (KE.new (KE.new (KE.new (KE.new (KE.new (KE.new (KE.new (KE.new (KE.new (KE.new (KE.new (KE.new (KE.new (KE.new (KE.new (KE.new (KE.new (KE.new KE.rf hq10 hK11) hq24 hK25) hq38 hK39) hq52 hK53) hq66 hK67) hq80 hK81) hq94 hK95) hq108 hK109) hq122 hK123) hq136 hK137) hq150 hK151) hq164 hK165) hq178 hK179) hq192 hK193) hq206 hK207) hq220 hK221) hq234 hK235) hq248 hK249) hq262 hK263) hq276 hK277) hq290 hK291) hq304 hK305) hq318 hK319) hq332 hK333) hq346 hK347) hq360 hK361) hq374 hK375) hq388 hK389) hq402 hK403) hq416 hK417) hq430 hK431) hq444 hK445) hq458 hK459) hq472 hK473) hq486 hK487) hq500 hK501) hq514 hK515) hq528 hK529) hq542 hK543) hq556 hK557) hq570 hK571) hq584 hK585) hq598 hK599) hq612 hK613) hq626 hK627) hq640 hK641) hq654 hK655) hq668 hK669) hq682 hK683) hq696 hK697) hq710 hK711) hq724 hK725) hq738 hK739) hq752 hK753) hq766 hK767) hq780 hK781) hq794 hK795) hq808 hK809) hq822 hK823) hq836 hK837) hq850 hK851) hq864 hK865) hq878 hK879) hq892 hK893) hq906 hK907) hq920 hK921) hq934 hK935) hq948 hK949) hq962 hK963) hq976 hK977) hq990 hK991) hq1004 hK1005) hq1018 hK1019) hq1032 hK1033) hq1046 hK1047) hq1060 hK1061) hq1074 hK1075) hq1088 hK1089) hq1102 hK1103) h1108 hq1116
  clear pf1113
  refine GO.putRF rfl rfl (by decide +kernel) h1122 fp_raw_fp_RX12_256 rfl rfl dX12_init_675 (fun V1126 e1125 => ?_)
  have pf1127 := PF.put pf1123 e1125 rfl
  clear pf1123
  refine GO.aload_n dX12_init_678 rfl rfl ?_
  refine GO.bipush dX12_init_679 rfl ?_
  refine GO.newT (atype := .boolean) 89 40 gw_1936 rfl rfl (fun _ _ h => h) rfl rfl rfl (Or.inr rfl) (fun _ => okv_df rfl rfl rfl) rfl rfl dX12_init_681 (fun o1128 K1129 V1135 hq1130 hK1131 hE1132 h1133 _ hV1134 => ?_)
  have h1136 := (by rw [hK1131, updK_ne (K_old h1122 hq1130)]; exact h1122 : K1129 x = some (0, 23))
  have pf1137 := PF.nw pf1127 hV1134 (K_old h1122 hq1130)
  have h1138 := KE.nw (KE.new (KE.new (KE.new (KE.new (KE.new (KE.new (KE.new (KE.new (KE.new (KE.new (KE.new (KE.new (KE.new (KE.new (KE.new (KE.new (KE.new (KE.new (KE.new (KE.new (KE.new (KE.new (KE.new (KE.new (KE.new (KE.new (KE.new (KE.new (KE.new (KE.new (KE.new (KE.new (KE.new (KE.new (KE.new (KE.new (KE.new (KE.new (KE.new (KE.new (KE.new (KE.new (KE.new (KE.new (KE.new (KE.new (KE.new (KE.new (KE.new (KE.new (KE.new (KE.new (KE.new (KE.new (KE.new (KE.new (KE.new (KE.new (KE.new (KE.new (KE.new (KE.new (KE.new (KE.new (KE.new (KE.new (KE.new (KE.new (KE.new (KE.new (KE.new (KE.new (KE.new (KE.new (KE.new (KE.new (KE.new (KE.new (KE.new (KE.new KE.rf hq10 hK11) hq24 hK25) hq38 hK39) hq52 hK53) hq66 hK67) hq80 hK81) hq94 hK95) hq108 hK109) hq122 hK123) hq136 hK137) hq150 hK151) hq164 hK165) hq178 hK179) hq192 hK193) hq206 hK207) hq220 hK221) hq234 hK235) hq248 hK249) hq262 hK263) hq276 hK277) hq290 hK291) hq304 hK305) hq318 hK319) hq332 hK333) hq346 hK347) hq360 hK361) hq374 hK375) hq388 hK389) hq402 hK403) hq416 hK417) hq430 hK431) hq444 hK445) hq458 hK459) hq472 hK473) hq486 hK487) hq500 hK501) hq514 hK515) hq528 hK529) hq542 hK543) hq556 hK557) hq570 hK571) hq584 hK585) hq598 hK599) hq612 hK613) hq626 hK627) hq640 hK641) hq654 hK655) hq668 hK669) hq682 hK683) hq696 hK697) hq710 hK711) hq724 hK725) hq738 hK739) hq752 hK753) hq766 hK767) hq780 hK781) hq794 hK795) hq808 hK809) hq822 hK823) hq836 hK837) hq850 hK851) hq864 hK865) hq878 hK879) hq892 hK893) hq906 hK907) hq920 hK921) hq934 hK935) hq948 hK949) hq962 hK963) hq976 hK977) hq990 hK991) hq1004 hK1005) hq1018 hK1019) hq1032 hK1033) hq1046 hK1047) hq1060 hK1061) hq1074 hK1075) hq1088 hK1089) hq1102 hK1103) hq1116 hK1117) h1122 hq1130
  clear pf1127
  refine GO.putRF rfl rfl (by decide +kernel) h1136 fp_raw_fp_RX12_259 rfl rfl dX12_init_683 (fun V1140 e1139 => ?_)
  have pf1141 := PF.put pf1137 e1139 rfl
  clear pf1137
  refine GO.aload_n dX12_init_686 rfl rfl ?_
  refine GO.bipush dX12_init_687 rfl ?_
  refine GO.newT (atype := .int) 90 60 gw_89 rfl rfl (fun _ _ h => h) rfl rfl rfl (Or.inr rfl) (fun _ => okv_df rfl rfl rfl) rfl rfl dX12_init_689 (fun o1142 K1143 V1149 hq1144 hK1145 hE1146 h1147 _ hV1148 => ?_)
  have h1150 := (by rw [hK1145, updK_ne (K_old h1136 hq1144)]; exact h1136 : K1143 x = some (0, 23))
  have pf1151 := PF.nw pf1141 hV1148 (K_old h1136 hq1144)
  have h1152 := KE.nw (KE.new (KE.new (KE.new (KE.new (KE.new (KE.new (KE.new (KE.new (KE.new (KE.new (KE.new (KE.new (KE.new (KE.new (KE.new (KE.new (KE.new (KE.new (KE.new (KE.new (KE.new (KE.new (KE.new (KE.new (KE.new (KE.new (KE.new (KE.new (KE.new (KE.new (KE.new (KE.new (KE.new (KE.new (KE.new (KE.new (KE.new (KE.new (KE.new (KE.new (KE.new (KE.new (KE.new (KE.new (KE.new (KE.new (KE.new (KE.new (KE.new (KE.new (KE.new (KE.new (KE.new (KE.new (KE.new (KE.new (KE.new (KE.new (KE.new (KE.new (KE.new (KE.new (KE.new (KE.new (KE.new (KE.new (KE.new (KE.new (KE.new (KE.new (KE.new (KE.new (KE.new (KE.new (KE.new (KE.new (KE.new (KE.new (KE.new (KE.new (KE.new KE.rf hq10 hK11) hq24 hK25) hq38 hK39) hq52 hK53) hq66 hK67) hq80 hK81) hq94 hK95) hq108 hK109) hq122 hK123) hq136 hK137) hq150 hK151) hq164 hK165) hq178 hK179) hq192 hK193) hq206 hK207) hq220 hK221) hq234 hK235) hq248 hK249) hq262 hK263) hq276 hK277) hq290 hK291) hq304 hK305) hq318 hK319) hq332 hK333) hq346 hK347) hq360 hK361) hq374 hK375) hq388 hK389) hq402 hK403) hq416 hK417) hq430 hK431) hq444 hK445) hq458 hK459) hq472 hK473) hq486 hK487) hq500 hK501) hq514 hK515) hq528 hK529) hq542 hK543) hq556 hK557) hq570 hK571) hq584 hK585) hq598 hK599) hq612 hK613) hq626 hK627) hq640 hK641) hq654 hK655) hq668 hK669) hq682 hK683) hq696 hK697) hq710 hK711) hq724 hK725) hq738 hK739) hq752 hK753) hq766 hK767) hq780 hK781) hq794 hK795) hq808 hK809) hq822 hK823) hq836 hK837) hq850 hK851) hq864 hK865) hq878 hK879) hq892 hK893) hq906 hK907) hq920 hK921) hq934 hK935) hq948 hK949) hq962 hK963) hq976 hK977) hq990 hK991) hq1004 hK1005) hq1018 hK1019) hq1032 hK1033) hq1046 hK1047) hq1060 hK1061) hq1074 hK1075) hq1088 hK1089) hq1102 hK1103) hq1116 hK1117) hq1130 hK1131) h1136 hq1144
  clear pf1141
  refine GO.putRF rfl rfl (by decide +kernel) h1150 fp_raw_fp_RX12_262 rfl rfl dX12_init_691 (fun V1154 e1153 => ?_)
  have pf1155 := PF.put pf1151 e1153 rfl
  clear pf1151
  refine GO.aload_n dX12_init_694 rfl rfl ?_
  refine GO.bipush dX12_init_695 rfl ?_
  refine GO.newT (atype := .int) 91 60 gw_89 rfl rfl (fun _ _ h => h) rfl rfl rfl (Or.inr rfl) (fun _ => okv_df rfl rfl rfl) rfl rfl dX12_init_697 (fun o1156 K1157 V1163 hq1158 hK1159 hE1160 h1161 _ hV1162 => ?_)
  have h1164 := (by rw [hK1159, updK_ne (K_old h1150 hq1158)]; exact h1150 : K1157 x = some (0, 23))
  have pf1165 := PF.nw pf1155 hV1162 (K_old h1150 hq1158)
  have h1166 := KE.nw (KE.new (KE.new (KE.new (KE.new (KE.new (KE.new (KE.new (KE.new (KE.new (KE.new (KE.new (KE.new (KE.new (KE.new (KE.new (KE.new (KE.new (KE.new (KE.new (KE.new (KE.new (KE.new (KE.new (KE.new (KE.new (KE.new (KE.new (KE.new (KE.new (KE.new (KE.new (KE.new (KE.new (KE.new (KE.new (KE.new (KE.new (KE.new (KE.new (KE.new (KE.new (KE.new (KE.new (KE.new (KE.new (KE.new (KE.new (KE.new (KE.new (KE.new (KE.new (KE.new (KE.new (KE.new (KE.new (KE.new (KE.new (KE.new (KE.new (KE.new (KE.new (KE.new (KE.new (KE.new (KE.new (KE.new (KE.new (KE.new (KE.new (KE.new (KE.new (KE.new (KE.new (KE.new (KE.new (KE.new (KE.new (KE.new (KE.new (KE.new (KE.new (KE.new KE.rf hq10 hK11) hq24 hK25) hq38 hK39) hq52 hK53) hq66 hK67) hq80 hK81) hq94 hK95) hq108 hK109) hq122 hK123) hq136 hK137) hq150 hK151) hq164 hK165) hq178 hK179) hq192 hK193) hq206 hK207) hq220 hK221) hq234 hK235) hq248 hK249) hq262 hK263) hq276 hK277) hq290 hK291) hq304 hK305) hq318 hK319) hq332 hK333) hq346 hK347) hq360 hK361) hq374 hK375) hq388 hK389) hq402 hK403) hq416 hK417) hq430 hK431) hq444 hK445) hq458 hK459) hq472 hK473) hq486 hK487) hq500 hK501) hq514 hK515) hq528 hK529) hq542 hK543) hq556 hK557) hq570 hK571) hq584 hK585) hq598 hK599) hq612 hK613) hq626 hK627) hq640 hK641) hq654 hK655) hq668 hK669) hq682 hK683) hq696 hK697) hq710 hK711) hq724 hK725) hq738 hK739) hq752 hK753) hq766 hK767) hq780 hK781) hq794 hK795) hq808 hK809) hq822 hK823) hq836 hK837) hq850 hK851) hq864 hK865) hq878 hK879) hq892 hK893) hq906 hK907) hq920 hK921) hq934 hK935) hq948 hK949) hq962 hK963) hq976 hK977) hq990 hK991) hq1004 hK1005) hq1018 hK1019) hq1032 hK1033) hq1046 hK1047) hq1060 hK1061) hq1074 hK1075) hq1088 hK1089) hq1102 hK1103) hq1116 hK1117) hq1130 hK1131) hq1144 hK1145) h1150 hq1158
  clear pf1155
  refine GO.putRF rfl rfl (by decide +kernel) h1164 fp_raw_fp_RX12_265 rfl rfl dX12_init_699 (fun V1168 e1167 => ?_)
  have pf1169 := PF.put pf1165 e1167 rfl
  clear pf1165
  refine GO.aload_n dX12_init_702 rfl rfl ?_
  refine GO.bipush dX12_init_703 rfl ?_
  refine GO.newT (atype := .int) 92 60 gw_89 rfl rfl (fun _ _ h => h) rfl rfl rfl (Or.inr rfl) (fun _ => okv_df rfl rfl rfl) rfl rfl dX12_init_705 (fun o1170 K1171 V1177 hq1172 hK1173 hE1174 h1175 _ hV1176 => ?_)
  have h1178 := (by rw [hK1173, updK_ne (K_old h1164 hq1172)]; exact h1164 : K1171 x = some (0, 23))
  have pf1179 := PF.nw pf1169 hV1176 (K_old h1164 hq1172)
  have h1180 := KE.nw (KE.new (KE.new (KE.new (KE.new (KE.new (KE.new (KE.new (KE.new (KE.new (KE.new (KE.new (KE.new (KE.new (KE.new (KE.new (KE.new (KE.new (KE.new (KE.new (KE.new (KE.new (KE.new (KE.new (KE.new (KE.new (KE.new (KE.new (KE.new (KE.new (KE.new (KE.new (KE.new (KE.new (KE.new (KE.new (KE.new (KE.new (KE.new (KE.new (KE.new (KE.new (KE.new (KE.new (KE.new (KE.new (KE.new (KE.new (KE.new (KE.new (KE.new (KE.new (KE.new (KE.new (KE.new (KE.new (KE.new (KE.new (KE.new (KE.new (KE.new (KE.new (KE.new (KE.new (KE.new (KE.new (KE.new (KE.new (KE.new (KE.new (KE.new (KE.new (KE.new (KE.new (KE.new (KE.new (KE.new (KE.new (KE.new (KE.new (KE.new (KE.new (KE.new (KE.new KE.rf hq10 hK11) hq24 hK25) hq38 hK39) hq52 hK53) hq66 hK67) hq80 hK81) hq94 hK95) hq108 hK109) hq122 hK123) hq136 hK137) hq150 hK151) hq164 hK165) hq178 hK179) hq192 hK193) hq206 hK207) hq220 hK221) hq234 hK235) hq248 hK249) hq262 hK263) hq276 hK277) hq290 hK291) hq304 hK305) hq318 hK319) hq332 hK333) hq346 hK347) hq360 hK361) hq374 hK375) hq388 hK389) hq402 hK403) hq416 hK417) hq430 hK431) hq444 hK445) hq458 hK459) hq472 hK473) hq486 hK487) hq500 hK501) hq514 hK515) hq528 hK529) hq542 hK543) hq556 hK557) hq570 hK571) hq584 hK585) hq598 hK599) hq612 hK613) hq626 hK627) hq640 hK641) hq654 hK655) hq668 hK669) hq682 hK683) hq696 hK697) hq710 hK711) hq724 hK725) hq738 hK739) hq752 hK753) hq766 hK767) hq780 hK781) hq794 hK795) hq808 hK809) hq822 hK823) hq836 hK837) hq850 hK851) hq864 hK865) hq878 hK879) hq892 hK893) hq906 hK907) hq920 hK921) hq934 hK935) hq948 hK949) hq962 hK963) hq976 hK977) hq990 hK991) hq1004 hK1005) hq1018 hK1019) hq1032 hK1033) hq1046 hK1047) hq1060 hK1061) hq1074 hK1075) hq1088 hK1089) hq1102 hK1103) hq1116 hK1117) hq1130 hK1131) hq1144 hK1145) hq1158 hK1159) h1164 hq1172
  clear pf1169
  refine GO.putRF rfl rfl (by decide +kernel) h1178 fp_raw_fp_RX12_268 rfl rfl dX12_init_707 (fun V1182 e1181 => ?_)
  have pf1183 := PF.put pf1179 e1181 rfl
  clear pf1179
  refine GO.aload_n dX12_init_710 rfl rfl ?_
  refine GO.bipush dX12_init_711 rfl ?_
  refine GO.newT (atype := .int) 93 60 gw_89 rfl rfl (fun _ _ h => h) rfl rfl rfl (Or.inr rfl) (fun _ => okv_df rfl rfl rfl) rfl rfl dX12_init_713 (fun o1184 K1185 V1191 hq1186 hK1187 hE1188 h1189 _ hV1190 => ?_)
  have h1192 := (by rw [hK1187, updK_ne (K_old h1178 hq1186)]; exact h1178 : K1185 x = some (0, 23))
  have pf1193 := PF.nw pf1183 hV1190 (K_old h1178 hq1186)
  have h1194 := KE.nw (KE.new (KE.new (KE.new (KE.new (KE.new (KE.new (KE.new (KE.new (KE.new (KE.new (KE.new (KE.new (KE.new (KE.new (KE.new (KE.new (KE.new (KE.new (KE.new (KE.new (KE.new (KE.new (KE.new (KE.new (KE.new (KE.new (KE.new (KE.new (KE.new (KE.new (KE.new (KE.new (KE.new (KE.new (KE.new (KE.new (KE.new (KE.new (KE.new (KE.new (KE.new (KE.new (KE.new (KE.new (KE.new (KE.new (KE.new (KE.new (KE.new (KE.new (KE.new (KE.new (KE.new (KE.new (KE.new (KE.new (KE.new (KE.new (KE.new (KE.new (KE.new (KE.new (KE.new (KE.new (KE.new (KE.new (KE.new (KE.new (KE.new (KE.new (KE.new (KE.new (KE.new (KE.new (KE.new (KE.new (KE.new (KE.new (KE.new (KE.new (KE.new (KE.new (KE.new (KE.new KE.rf hq10 hK11) hq24 hK25) hq38 hK39) hq52 hK53) hq66 hK67) hq80 hK81) hq94 hK95) hq108 hK109) hq122 hK123) hq136 hK137) hq150 hK151) hq164 hK165) hq178 hK179) hq192 hK193) hq206 hK207) hq220 hK221) hq234 hK235) hq248 hK249) hq262 hK263) hq276 hK277) hq290 hK291) hq304 hK305) hq318 hK319) hq332 hK333) hq346 hK347) hq360 hK361) hq374 hK375) hq388 hK389) hq402 hK403) hq416 hK417) hq430 hK431) hq444 hK445) hq458 hK459) hq472 hK473) hq486 hK487) hq500 hK501) hq514 hK515) hq528 hK529) hq542 hK543) hq556 hK557) hq570 hK571) hq584 hK585) hq598 hK599) hq612 hK613) hq626 hK627) hq640 hK641) hq654 hK655) hq668 hK669) hq682 hK683) hq696 hK697) hq710 hK711) hq724 hK725) hq738 hK739) hq752 hK753) hq766 hK767) hq780 hK781) hq794 hK795) hq808 hK809) hq822 hK823) hq836 hK837) hq850 hK851) hq864 hK865) hq878 hK879) hq892 hK893) hq906 hK907) hq920 hK921) hq934 hK935) hq948 hK949) hq962 hK963) hq976 hK977) hq990 hK991) hq1004 hK1005) hq1018 hK1019) hq1032 hK1033) hq1046 hK1047) hq1060 hK1061) hq1074 hK1075) hq1088 hK1089) hq1102 hK1103) hq1116 hK1117) hq1130 hK1131) hq1144 hK1145) hq1158 hK1159) hq1172 hK1173) h1178 hq1186
  clear pf1183
  refine GO.putRF rfl rfl (by decide +kernel) h1192 fp_raw_fp_RX12_271 rfl rfl dX12_init_715 (fun V1196 e1195 => ?_)
  have pf1197 := PF.put pf1193 e1195 rfl
  clear pf1193
  refine GO.aload_n dX12_init_718 rfl rfl ?_
  refine GO.bipush dX12_init_719 rfl ?_
  refine GO.newT (atype := .int) 94 60 gw_89 rfl rfl (fun _ _ h => h) rfl rfl rfl (Or.inr rfl) (fun _ => okv_df rfl rfl rfl) rfl rfl dX12_init_721 (fun o1198 K1199 V1205 hq1200 hK1201 hE1202 h1203 _ hV1204 => ?_)
  have h1206 := (by rw [hK1201, updK_ne (K_old h1192 hq1200)]; exact h1192 : K1199 x = some (0, 23))
  have pf1207 := PF.nw pf1197 hV1204 (K_old h1192 hq1200)
  have h1208 := KE.nw (KE.new (KE.new (KE.new (KE.new (KE.new (KE.new (KE.new (KE.new (KE.new (KE.new (KE.new (KE.new (KE.new (KE.new (KE.new (KE.new (KE.new (KE.new (KE.new (KE.new (KE.new (KE.new (KE.new (KE.new (KE.new (KE.new (KE.new (KE.new (KE.new (KE.new (KE.new (KE.new (KE.new (KE.new (KE.new (KE.new (KE.new (KE.new (KE.new (KE.new (KE.new (KE.new (KE.new (KE.new (KE.new (KE.new (KE.new (KE.new (KE.new (KE.new (KE.new (KE.new (KE.new (KE.new (KE.new (KE.new (KE.new (KE.new (KE.new (KE.new (KE.new (KE.new (KE.new (KE.new (KE.new (KE.new (KE.new (KE.new (KE.new (KE.new (KE.new (KE.new (KE.new (KE.new (KE.new (KE.new (KE.new (KE.new (KE.new (KE.new (KE.new (KE.new (KE.new (KE.new (KE.new KE.rf hq10 hK11) hq24 hK25) hq38 hK39) hq52 hK53) hq66 hK67) hq80 hK81) hq94 hK95) hq108 hK109) hq122 hK123) hq136 hK137) hq150 hK151) hq164 hK165) hq178 hK179) hq192 hK193) hq206 hK207) hq220 hK221) hq234 hK235) hq248 hK249) hq262 hK263) hq276 hK277) hq290 hK291) hq304 hK305) hq318 hK319) hq332 hK333) hq346 hK347) hq360 hK361) hq374 hK375) hq388 hK389) hq402 hK403) hq416 hK417) hq430 hK431) hq444 hK445) hq458 hK459) hq472 hK473) hq486 hK487) hq500 hK501) hq514 hK515) hq528 hK529) hq542 hK543) hq556 hK557) hq570 hK571) hq584 hK585) hq598 hK599) hq612 hK613) hq626 hK627) hq640 hK641) hq654 hK655) hq668 hK669) hq682 hK683) hq696 hK697) hq710 hK711) hq724 hK725) hq738 hK739) hq752 hK753) hq766 hK767) hq780 hK781) hq794 hK795) hq808 hK809) hq822 hK823) hq836 hK837) hq850 hK851) hq864 hK865) hq878 hK879) hq892 hK893) hq906 hK907) hq920 hK921) hq934 hK935) hq948 hK949) hq962 hK963) hq976 hK977) hq990 hK991) hq1004 hK1005) hq1018 hK1019) hq1032 hK1033) hq1046 hK1047) hq1060 hK1061) hq1074 hK1075) hq1088 hK1089) hq1102 hK1103) hq1116 hK1117) hq1130 hK1131) hq1144 hK1145) hq1158 hK1159) hq1172 hK1173) hq1186 hK1187) h1192 hq1200
  clear pf1197
  refine GO.putRF rfl rfl (by decide +kernel) h1206 fp_raw_fp_RX12_274 rfl rfl dX12_init_723 (fun V1210 e1209 => ?_)
  have pf1211 := PF.put pf1207 e1209 rfl
  clear pf1207
  refine GO.aload_n dX12_init_726 rfl rfl ?_
  refine GO.sipush dX12_init_727 rfl ?_
  refine GO.newT (atype := .int) 95 144 gw_89 rfl rfl (fun _ _ h => h) rfl rfl rfl (Or.inr rfl) (fun _ => okv_df rfl rfl rfl) rfl rfl dX12_init_730 (fun o1212 K1213 V1219 hq1214 hK1215 hE1216 h1217 _ hV1218 => ?_)
  have h1220 := (by rw [hK1215, updK_ne (K_old h1206 hq1214)]; exact h1206 : K1213 x = some (0, 23))
  have pf1221 := PF.nw pf1211 hV1218 (K_old h1206 hq1214)
  have h1222 := KE.nw (KE.new (KE.new (KE.new (KE.new (KE.new (KE.new (KE.new (KE.new (KE.new (KE.new (KE.new (KE.new (KE.new (KE.new (KE.new (KE.new (KE.new (KE.new (KE.new (KE.new (KE.new (KE.new (KE.new (KE.new (KE.new (KE.new (KE.new (KE.new (KE.new (KE.new (KE.new (KE.new (KE.new (KE.new (KE.new (KE.new (KE.new (KE.new (KE.new (KE.new (KE.new (KE.new (KE.new (KE.new (KE.new (KE.new (KE.new (KE.new (KE.new (KE.new (KE.new (KE.new (KE.new (KE.new (KE.new (KE.new (KE.new (KE.new (KE.new (KE.new (KE.new (KE.new (KE.new (KE.new (KE.new (KE.new (KE.new (KE.new (KE.new (KE.new (KE.new (KE.new (KE.new (KE.new (KE.new (KE.new (KE.new (KE.new (KE.new (KE.new (KE.new (KE.new (KE.new (KE.new (KE.new (KE.new KE.rf hq10 hK11) hq24 hK25) hq38 hK39) hq52 hK53) hq66 hK67) hq80 hK81) hq94 hK95) hq108 hK109) hq122 hK123) hq136 hK137) hq150 hK151) hq164 hK165) hq178 hK179) hq192 hK193) hq206 hK207) hq220 hK221) hq234 hK235) hq248 hK249) hq262 hK263) hq276 hK277) hq290 hK291) hq304 hK305) hq318 hK319) hq332 hK333) hq346 hK347) hq360 hK361) hq374 hK375) hq388 hK389) hq402 hK403) hq416 hK417) hq430 hK431) hq444 hK445) hq458 hK459) hq472 hK473) hq486 hK487) hq500 hK501) hq514 hK515) hq528 hK529) hq542 hK543) hq556 hK557) hq570 hK571) hq584 hK585) hq598 hK599) hq612 hK613) hq626 hK627) hq640 hK641) hq654 hK655) hq668 hK669) hq682 hK683) hq696 hK697) hq710 hK711) hq724 hK725) hq738 hK739) hq752 hK753) hq766 hK767) hq780 hK781) hq794 hK795) hq808 hK809) hq822 hK823) hq836 hK837) hq850 hK851) hq864 hK865) hq878 hK879) hq892 hK893) hq906 hK907) hq920 hK921) hq934 hK935) hq948 hK949) hq962 hK963) hq976 hK977) hq990 hK991) hq1004 hK1005) hq1018 hK1019) hq1032 hK1033) hq1046 hK1047) hq1060 hK1061) hq1074 hK1075) hq1088 hK1089) hq1102 hK1103) hq1116 hK1117) hq1130 hK1131) hq1144 hK1145) hq1158 hK1159) hq1172 hK1173) hq1186 hK1187) hq1200 hK1201) h1206 hq1214
  clear pf1211
  refine GO.putRF rfl rfl (by decide +kernel) h1220 fp_raw_fp_RX12_277 rfl rfl dX12_init_732 (fun V1224 e1223 => ?_)
  have pf1225 := PF.put pf1221 e1223 rfl
  clear pf1221
  refine GO.aload_n dX12_init_735 rfl rfl ?_
  refine GO.bipush dX12_init_736 rfl ?_
  refine GO.putRW rfl (by decide +kernel) h1220 fp_raw_fp_RX12_280 rfl rfl dX12_init_738 (fun V1227 e1226 => ?_)
  have pf1228 := PF.put pf1225 e1226 rfl
  clear pf1225
  refine GO.aload_n dX12_init_741 rfl rfl ?_
  refine GO.bipush dX12_init_742 rfl ?_
  refine GO.newT (atype := .int) 96 60 gw_89 rfl rfl (fun _ _ h => h) rfl rfl rfl (Or.inr rfl) (fun _ => okv_df rfl rfl rfl) rfl rfl dX12_init_744 (fun o1229 K1230 V1236 hq1231 hK1232 hE1233 h1234 _ hV1235 => ?_)
  have h1237 := (by rw [hK1232, updK_ne (K_old h1220 hq1231)]; exact h1220 : K1230 x = some (0, 23))
  have pf1238 := PF.nw pf1228 hV1235 (K_old h1220 hq1231)
  have h1239 := KE.nw (KE.new (KE.new (KE.new (KE.new (KE.new (KE.new (KE.new (KE.new (KE.new (KE.new (KE.new (KE.new (KE.new (KE.new (KE.new (KE.new (KE.new (KE.new (KE.new (KE.new (KE.new (KE.new (KE.new (KE.new (KE.new (KE.new (KE.new (KE.new (KE.new (KE.new (KE.new (KE.new (KE.new (KE.new (KE.new (KE.new (KE.new (KE.new (KE.new (KE.new (KE.new (KE.new (KE.new (KE.new (KE.new (KE.new (KE.new (KE.new (KE.new (KE.new (KE.new (KE.new (KE.new (KE.new (KE.new (KE.new (KE.new (KE.new (KE.new (KE.new (KE.new (KE.new (KE.new (KE.new (KE.new (KE.new (KE.new (KE.new (KE.new (KE.new (KE.new (KE.new (KE.new (KE.new (KE.new (KE.new (KE.new (KE.new (KE.new (KE.new (KE.new (KE.new (KE.new (KE.new (KE.new (KE.new (KE.new KE.rf hq10 hK11) hq24 hK25) hq38 hK39) hq52 hK53) hq66 hK67) hq80 hK81) hq94 hK95) hq108 hK109) hq122 hK123) hq136 hK137) hq150 hK151) hq164 hK165) hq178 hK179) hq192 hK193) hq206 hK207) hq220 hK221) hq234 hK235) hq248 hK249) hq262 hK263) hq276 hK277) hq290 hK291) hq304 hK305) hq318 hK319) hq332 hK333) hq346 hK347) hq360 hK361) hq374 hK375) hq388 hK389) hq402 hK403) hq416 hK417) hq430 hK431) hq444 hK445) hq458 hK459) hq472 hK473) hq486 hK487) hq500 hK501) hq514 hK515) hq528 hK529) hq542 hK543) hq556 hK557) hq570 hK571) hq584 hK585) hq598 hK599) hq612 hK613) hq626 hK627) hq640 hK641) hq654 hK655) hq668 hK669) hq682 hK683) hq696 hK697) hq710 hK711) hq724 hK725) hq738 hK739) hq752 hK753) hq766 hK767) hq780 hK781) hq794 hK795) hq808 hK809) hq822 hK823) hq836 hK837) hq850 hK851) hq864 hK865) hq878 hK879) hq892 hK893) hq906 hK907) hq920 hK921) hq934 hK935) hq948 hK949) hq962 hK963) hq976 hK977) hq990 hK991) hq1004 hK1005) hq1018 hK1019) hq1032 hK1033) hq1046 hK1047) hq1060 hK1061) hq1074 hK1075) hq1088 hK1089) hq1102 hK1103) hq1116 hK1117) hq1130 hK1131) hq1144 hK1145) hq1158 hK1159) hq1172 hK1173) hq1186 hK1187) hq1200 hK1201) hq1214 hK1215) h1220 hq1231
  clear pf1228
  refine GO.putRF rfl rfl (by decide +kernel) h1237 fp_raw_fp_RX12_283 rfl rfl dX12_init_746 (fun V1241 e1240 => ?_)
  have pf1242 := PF.put pf1238 e1240 rfl
  clear pf1238
  refine GO.aload_n dX12_init_749 rfl rfl ?_
  refine GO.sipush dX12_init_750 rfl ?_
  refine GO.newT (atype := .int) 97 480 gw_89 rfl rfl (fun _ _ h => h) rfl rfl rfl (Or.inr rfl) (fun _ => okv_df rfl rfl rfl) rfl rfl dX12_init_753 (fun o1243 K1244 V1250 hq1245 hK1246 hE1247 h1248 _ hV1249 => ?_)
  have h1251 := (by rw [hK1246, updK_ne (K_old h1237 hq1245)]; exact h1237 : K1244 x = some (0, 23))
  have pf1252 := PF.nw pf1242 hV1249 (K_old h1237 hq1245)
  have h1253 := KE.nw (KE.new (KE.new (KE.new (KE.new (KE.new (KE.new (KE.new (KE.new (KE.new (KE.new (KE.new (KE.new (KE.new (KE.new (KE.new (KE.new (KE.new (KE.new (KE.new (KE.new (KE.new (KE.new (KE.new (KE.new (KE.new (KE.new (KE.new (KE.new (KE.new (KE.new (KE.new (KE.new (KE.new (KE.new (KE.new (KE.new (KE.new (KE.new (KE.new (KE.new (KE.new (KE.new (KE.new (KE.new (KE.new (KE.new (KE.new (KE.new (KE.new (KE.new (KE.new (KE.new (KE.new (KE.new (KE.new (KE.new (KE.new (KE.new (KE.new (KE.new (KE.new (KE.new (KE.new (KE.new (KE.new (KE.new (KE.new (KE.new (KE.new (KE.new (KE.new (KE.new (KE.new (KE.new (KE.new (KE.new (KE.new (KE.new (KE.new (KE.new (KE.new (KE.new (KE.new (KE.new (KE.new (KE.new (KE.new (KE.new KE.rf hq10 hK11) hq24 hK25) hq38 hK39) hq52 hK53) hq66 hK67) hq80 hK81) hq94 hK95) hq108 hK109) hq122 hK123) hq136 hK137) hq150 hK151) hq164 hK165) hq178 hK179) hq192 hK193) hq206 hK207) hq220 hK221) hq234 hK235) hq248 hK249) hq262 hK263) hq276 hK277) hq290 hK291) hq304 hK305) hq318 hK319) hq332 hK333) hq346 hK347) hq360 hK361) hq374 hK375) hq388 hK389) hq402 hK403) hq416 hK417) hq430 hK431) hq444 hK445) hq458 hK459) hq472 hK473) hq486 hK487) hq500 hK501) hq514 hK515) hq528 hK529) hq542 hK543) hq556 hK557) hq570 hK571) hq584 hK585) hq598 hK599) hq612 hK613) hq626 hK627) hq640 hK641) hq654 hK655) hq668 hK669) hq682 hK683) hq696 hK697) hq710 hK711) hq724 hK725) hq738 hK739) hq752 hK753) hq766 hK767) hq780 hK781) hq794 hK795) hq808 hK809) hq822 hK823) hq836 hK837) hq850 hK851) hq864 hK865) hq878 hK879) hq892 hK893) hq906 hK907) hq920 hK921) hq934 hK935) hq948 hK949) hq962 hK963) hq976 hK977) hq990 hK991) hq1004 hK1005) hq1018 hK1019) hq1032 hK1033) hq1046 hK1047) hq1060 hK1061) hq1074 hK1075) hq1088 hK1089) hq1102 hK1103) hq1116 hK1117) hq1130 hK1131) hq1144 hK1145) hq1158 hK1159) hq1172 hK1173) hq1186 hK1187) hq1200 hK1201) hq1214 hK1215) hq1231 hK1232) h1237 hq1245
  clear pf1242
  refine GO.putRF rfl rfl (by decide +kernel) h1251 fp_raw_fp_RX12_286 rfl rfl dX12_init_755 (fun V1255 e1254 => ?_)
  have pf1256 := PF.put pf1252 e1254 rfl
  clear pf1252
  refine GO.aload_n dX12_init_758 rfl rfl ?_
  refine GO.sipush dX12_init_759 rfl ?_
  refine GO.newT (atype := .int) 98 480 gw_89 rfl rfl (fun _ _ h => h) rfl rfl rfl (Or.inr rfl) (fun _ => okv_df rfl rfl rfl) rfl rfl dX12_init_762 (fun o1257 K1258 V1264 hq1259 hK1260 hE1261 h1262 _ hV1263 => ?_)
  have h1265 := (by rw [hK1260, updK_ne (K_old h1251 hq1259)]; exact h1251 : K1258 x = some (0, 23))
  have pf1266 := PF.nw pf1256 hV1263 (K_old h1251 hq1259)
  have h1267 := KE.nw (KE.new (KE.new (KE.new (KE.new (KE.new (KE.new (KE.new (KE.new (KE.new (KE.new (KE.new (KE.new (KE.new (KE.new (KE.new (KE.new (KE.new (KE.new (KE.new (KE.new (KE.new (KE.new (KE.new (KE.new (KE.new (KE.new (KE.new (KE.new (KE.new (KE.new (KE.new (KE.new (KE.new (KE.new (KE.new (KE.new (KE.new (KE.new (KE.new (KE.new (KE.new (KE.new (KE.new (KE.new (KE.new (KE.new (KE.new (KE.new (KE.new (KE.new (KE.new (KE.new (KE.new (KE.new (KE.new (KE.new (KE.new (KE.new (KE.new (KE.new (KE.new (KE.new (KE.new (KE.new (KE.new (KE.new (KE.new (KE.new (KE.new (KE.new (KE.new (KE.new (KE.new (KE.new (KE.new (KE.new (KE.new (KE.new (KE.new (KE.new (KE.new (KE.new (KE.new (KE.new (KE.new (KE.new (KE.new (KE.new (KE.new KE.rf hq10 hK11) hq24 hK25) hq38 hK39) hq52 hK53) hq66 hK67) hq80 hK81) hq94 hK95) hq108 hK109) hq122 hK123) hq136 hK137) hq150 hK151) hq164 hK165) hq178 hK179) hq192 hK193) hq206 hK207) hq220 hK221) hq234 hK235) hq248 hK249) hq262 hK263) hq276 hK277) hq290 hK291) hq304 hK305) hq318 hK319) hq332 hK333) hq346 hK347) hq360 hK361) hq374 hK375) hq388 hK389) hq402 hK403) hq416 hK417) hq430 hK431) hq444 hK445) hq458 hK459) hq472 hK473) hq486 hK487) hq500 hK501) hq514 hK515) hq528 hK529) hq542 hK543) hq556 hK557) hq570 hK571) hq584 hK585) hq598 hK599) hq612 hK613) hq626 hK627) hq640 hK641) hq654 hK655) hq668 hK669) hq682 hK683) hq696 hK697) hq710 hK711) hq724 hK725) hq738 hK739) hq752 hK753) hq766 hK767) hq780 hK781) hq794 hK795) hq808 hK809) hq822 hK823) hq836 hK837) hq850 hK851) hq864 hK865) hq878 hK879) hq892 hK893) hq906 hK907) hq920 hK921) hq934 hK935) hq948 hK949) hq962 hK963) hq976 hK977) hq990 hK991) hq1004 hK1005) hq1018 hK1019) hq1032 hK1033) hq1046 hK1047) hq1060 hK1061) hq1074 hK1075) hq1088 hK1089) hq1102 hK1103) hq1116 hK1117) hq1130 hK1131) hq1144 hK1145) hq1158 hK1159) hq1172 hK1173) hq1186 hK1187) hq1200 hK1201) hq1214 hK1215) hq1231 hK1232) hq1245 hK1246) h1251 hq1259
  clear pf1256
  refine GO.putRF rfl rfl (by decide +kernel) h1265 fp_raw_fp_RX12_289 rfl rfl dX12_init_764 (fun V1269 e1268 => ?_)
  have pf1270 := PF.put pf1266 e1268 rfl
  clear pf1266
  refine GO.aload_n dX12_init_767 rfl rfl ?_
  refine GO.bipush dX12_init_768 rfl ?_
  refine GO.newT (atype := .int) 99 10 gw_89 rfl rfl (fun _ _ h => h) rfl rfl rfl (Or.inr rfl) (fun _ => okv_df rfl rfl rfl) rfl rfl dX12_init_770 (fun o1271 K1272 V1278 hq1273 hK1274 hE1275 h1276 _ hV1277 => ?_)
  have h1279 := (by rw [hK1274, updK_ne (K_old h1265 hq1273)]; exact h1265 : K1272 x = some (0, 23))
  have pf1280 := PF.nw pf1270 hV1277 (K_old h1265 hq1273)
  have h1281 := KE.nw (KE.new (KE.new (KE.new (KE.new (KE.new (KE.new (KE.new (KE.new (KE.new (KE.new (KE.new (KE.new (KE.new (KE.new (KE.new (KE.new (KE.new (KE.new (KE.new (KE.new (KE.new (KE.new (KE.new (KE.new (KE.new (KE.new (KE.new (KE.new (KE.new (KE.new (KE.new (KE.new (KE.new (KE.new (KE.new (KE.new (KE.new (KE.new (KE.new (KE.new (KE.new (KE.new (KE.new (KE.new (KE.new (KE.new (KE.new (KE.new (KE.new (KE.new (KE.new (KE.new (KE.new (KE.new (KE.new (KE.new (KE.new (KE.new (KE.new (KE.new (KE.new (KE.new (KE.new (KE.new (KE.new (KE.new (KE.new (KE.new (KE.new (KE.new (KE.new (KE.new (KE.new (KE.new (KE.new (KE.new (KE.new (KE.new (KE.new (KE.new (KE.new (KE.new (KE.new (KE.new (KE.new (KE.new (KE.new (KE.new (KE.new (KE.new KE.rf hq10 hK11) hq24 hK25) hq38 hK39) hq52 hK53) hq66 hK67) hq80 hK81) hq94 hK95) hq108 hK109) hq122 hK123) hq136 hK137) hq150 hK151) hq164 hK165) hq178 hK179) hq192 hK193) hq206 hK207) hq220 hK221) hq234 hK235) hq248 hK249) hq262 hK263) hq276 hK277) hq290 hK291) hq304 hK305) hq318 hK319) hq332 hK333) hq346 hK347) hq360 hK361) hq374 hK375) hq388 hK389) hq402 hK403) hq416 hK417) hq430 hK431) hq444 hK445) hq458 hK459) hq472 hK473) hq486 hK487) hq500 hK501) hq514 hK515) hq528 hK529) hq542 hK543) hq556 hK557) hq570 hK571) hq584 hK585) hq598 hK599) hq612 hK613) hq626 hK627) hq640 hK641) hq654 hK655) hq668 hK669) hq682 hK683) hq696 hK697) hq710 hK711) hq724 hK725) hq738 hK739) hq752 hK753) hq766 hK767) hq780 hK781) hq794 hK795) hq808 hK809) hq822 hK823) hq836 hK837) hq850 hK851) hq864 hK865) hq878 hK879) hq892 hK893) hq906 hK907) hq920 hK921) hq934 hK935) hq948 hK949) hq962 hK963) hq976 hK977) hq990 hK991) hq1004 hK1005) hq1018 hK1019) hq1032 hK1033) hq1046 hK1047) hq1060 hK1061) hq1074 hK1075) hq1088 hK1089) hq1102 hK1103) hq1116 hK1117) hq1130 hK1131) hq1144 hK1145) hq1158 hK1159) hq1172 hK1173) hq1186 hK1187) hq1200 hK1201) hq1214 hK1215) hq1231 hK1232) hq1245 hK1246) hq1259 hK1260) h1265 hq1273
  clear pf1270
  refine GO.putRF rfl rfl (by decide +kernel) h1279 fp_raw_fp_RX12_292 rfl rfl dX12_init_772 (fun V1283 e1282 => ?_)
  have pf1284 := PF.put pf1280 e1282 rfl
  clear pf1280
  refine GO.aload_n dX12_init_775 rfl rfl ?_
  refine GO.bipush dX12_init_776 rfl ?_
  refine GO.newT (atype := .int) 100 10 gw_89 rfl rfl (fun _ _ h => h) rfl rfl rfl (Or.inr rfl) (fun _ => okv_df rfl rfl rfl) rfl rfl dX12_init_778 (fun o1285 K1286 V1292 hq1287 hK1288 hE1289 h1290 _ hV1291 => ?_)
  have h1293 := (by rw [hK1288, updK_ne (K_old h1279 hq1287)]; exact h1279 : K1286 x = some (0, 23))
  have pf1294 := PF.nw pf1284 hV1291 (K_old h1279 hq1287)
  have h1295 := KE.nw (KE.new (KE.new (KE.new (KE.new (KE.new (KE.new (KE.new (KE.new (KE.new (KE.new (KE.new (KE.new (KE.new (KE.new (KE.new (KE.new (KE.new (KE.new (KE.new (KE.new (KE.new (KE.new (KE.new (KE.new (KE.new (KE.new (KE.new (KE.new (KE.new (KE.new (KE.new (KE.new (KE.new (KE.new (KE.new (KE.new (KE.new (KE.new (KE.new (KE.new (KE.new (KE.new (KE.new (KE.new (KE.new (KE.new (KE.new (KE.new (KE.new (KE.new (KE.new (KE.new (KE.new (KE.new (KE.new (KE.new (KE.new (KE.new (KE.new (KE.new (KE.new (KE.new (KE.new (KE.new (KE.new (KE.new (KE.new (KE.new (KE.new (KE.new (KE.new (KE.new (KE.new (KE.new (KE.new (KE.new (KE.new (KE.new (KE.new (KE.new (KE.new (KE.new (KE.new (KE.new (KE.new (KE.new (KE.new (KE.new (KE.new (KE.new (KE.new KE.rf hq10 hK11) hq24 hK25) hq38 hK39) hq52 hK53) hq66 hK67) hq80 hK81) hq94 hK95) hq108 hK109) hq122 hK123) hq136 hK137) hq150 hK151) hq164 hK165) hq178 hK179) hq192 hK193) hq206 hK207) hq220 hK221) hq234 hK235) hq248 hK249) hq262 hK263) hq276 hK277) hq290 hK291) hq304 hK305) hq318 hK319) hq332 hK333) hq346 hK347) hq360 hK361) hq374 hK375) hq388 hK389) hq402 hK403) hq416 hK417) hq430 hK431) hq444 hK445) hq458 hK459) hq472 hK473) hq486 hK487) hq500 hK501) hq514 hK515) hq528 hK529) hq542 hK543) hq556 hK557) hq570 hK571) hq584 hK585) hq598 hK599) hq612 hK613) hq626 hK627) hq640 hK641) hq654 hK655) hq668 hK669) hq682 hK683) hq696 hK697) hq710 hK711) hq724 hK725) hq738 hK739) hq752 hK753) hq766 hK767) hq780 hK781) hq794 hK795) hq808 hK809) hq822 hK823) hq836 hK837) hq850 hK851) hq864 hK865) hq878 hK879) hq892 hK893) hq906 hK907) hq920 hK921) hq934 hK935) hq948 hK949) hq962 hK963) hq976 hK977) hq990 hK991) hq1004 hK1005) hq1018 hK1019) hq1032 hK1033) hq1046 hK1047) hq1060 hK1061) hq1074 hK1075) hq1088 hK1089) hq1102 hK1103) hq1116 hK1117) hq1130 hK1131) hq1144 hK1145) hq1158 hK1159) hq1172 hK1173) hq1186 hK1187) hq1200 hK1201) hq1214 hK1215) hq1231 hK1232) hq1245 hK1246) hq1259 hK1260) hq1273 hK1274) h1279 hq1287
  clear pf1284
  refine GO.putRF rfl rfl (by decide +kernel) h1293 fp_raw_fp_RX12_295 rfl rfl dX12_init_780 (fun V1297 e1296 => ?_)
  have pf1298 := PF.put pf1294 e1296 rfl
  clear pf1294
  refine GO.aload_n dX12_init_783 rfl rfl ?_
  refine GO.bipush dX12_init_784 rfl ?_
  refine GO.newT (atype := .int) 101 10 gw_89 rfl rfl (fun _ _ h => h) rfl rfl rfl (Or.inr rfl) (fun _ => okv_df rfl rfl rfl) rfl rfl dX12_init_786 (fun o1299 K1300 V1306 hq1301 hK1302 hE1303 h1304 _ hV1305 => ?_)
  have h1307 := (by rw [hK1302, updK_ne (K_old h1293 hq1301)]; exact h1293 : K1300 x = some (0, 23))
  have pf1308 := PF.nw pf1298 hV1305 (K_old h1293 hq1301)
  have h1309 := KE.nw (KE.new (KE.new (KE.new (KE.new (KE.new (KE.new (KE.new (KE.new (KE.new (KE.new (KE.new (KE.new (KE.new (KE.new (KE.new (KE.new (KE.new (KE.new (KE.new (KE.new (KE.new (KE.new (KE.new (KE.new (KE.new (KE.new (KE.new (KE.new (KE.new (KE.new (KE.new (KE.new (KE.new (KE.new (KE.new (KE.new (KE.new (KE.new (KE.new (KE.new (KE.new (KE.new (KE.new (KE.new (KE.new (KE.new (KE.new (KE.new (KE.new (KE.new (KE.new (KE.new (KE.new (KE.new (KE.new (KE.new (KE.new (KE.new (KE.new (KE.new (KE.new (KE.new (KE.new (KE.new (KE.new (KE.new (KE.new (KE.new (KE.new (KE.new (KE.new (KE.new (KE.new (KE.new (KE.new (KE.new (KE.new (KE.new (KE.new (KE.new (KE.new (KE.new (KE.new (KE.new (KE.new (KE.new (KE.new (KE.new (KE.new (KE.new (KE.new (KE.new KE.rf hq10 hK11) hq24 hK25) hq38 hK39) hq52 hK53) hq66 hK67) hq80 hK81) hq94 hK95) hq108 hK109) hq122 hK123) hq136 hK137) hq150 hK151) hq164 hK165) hq178 hK179) hq192 hK193) hq206 hK207) hq220 hK221) hq234 hK235) hq248 hK249) hq262 hK263) hq276 hK277) hq290 hK291) hq304 hK305) hq318 hK319) hq332 hK333) hq346 hK347) hq360 hK361) hq374 hK375) hq388 hK389) hq402 hK403) hq416 hK417) hq430 hK431) hq444 hK445) hq458 hK459) hq472 hK473) hq486 hK487) hq500 hK501) hq514 hK515) hq528 hK529) hq542 hK543) hq556 hK557) hq570 hK571) hq584 hK585) hq598 hK599) hq612 hK613) hq626 hK627) hq640 hK641) hq654 hK655) hq668 hK669) hq682 hK683) hq696 hK697) hq710 hK711) hq724 hK725) hq738 hK739) hq752 hK753) hq766 hK767) hq780 hK781) hq794 hK795) hq808 hK809) hq822 hK823) hq836 hK837) hq850 hK851) hq864 hK865) hq878 hK879) hq892 hK893) hq906 hK907) hq920 hK921) hq934 hK935) hq948 hK949) hq962 hK963) hq976 hK977) hq990 hK991) hq1004 hK1005) hq1018 hK1019) hq1032 hK1033) hq1046 hK1047) hq1060 hK1061) hq1074 hK1075) hq1088 hK1089) hq1102 hK1103) hq1116 hK1117) hq1130 hK1131) hq1144 hK1145) hq1158 hK1159) hq1172 hK1173) hq1186 hK1187) hq1200 hK1201) hq1214 hK1215) hq1231 hK1232) hq1245 hK1246) hq1259 hK1260) hq1273 hK1274) hq1287 hK1288) h1293 hq1301
  clear pf1298
  refine GO.putRF rfl rfl (by decide +kernel) h1307 fp_raw_fp_RX12_298 rfl rfl dX12_init_788 (fun V1311 e1310 => ?_)
  have pf1312 := PF.put pf1308 e1310 rfl
  clear pf1308
  refine GO.aload_n dX12_init_791 rfl rfl ?_
  refine GO.bipush dX12_init_792 rfl ?_
  refine GO.newT (atype := .int) 102 10 gw_89 rfl rfl (fun _ _ h => h) rfl rfl rfl (Or.inr rfl) (fun _ => okv_df rfl rfl rfl) rfl rfl dX12_init_794 (fun o1313 K1314 V1320 hq1315 hK1316 hE1317 h1318 _ hV1319 => ?_)
  have h1321 := (by rw [hK1316, updK_ne (K_old h1307 hq1315)]; exact h1307 : K1314 x = some (0, 23))
  have pf1322 := PF.nw pf1312 hV1319 (K_old h1307 hq1315)
  have h1323 := KE.nw (KE.new (KE.new (KE.new (KE.new (KE.new (KE.new (KE.new (KE.new (KE.new (KE.new (KE.new (KE.new (KE.new (KE.new (KE.new (KE.new (KE.new (KE.new (KE.new (KE.new (KE.new (KE.new (KE.new (KE.new (KE.new (KE.new (KE.new (KE.new (KE.new (KE.new (KE.new (KE.new (KE.new (KE.new (KE.new (KE.new (KE.new (KE.new (KE.new (KE.new (KE.new (KE.new (KE.new (KE.new (KE.new (KE.new (KE.new (KE.new (KE.new (KE.new (KE.new (KE.new (KE.new (KE.new (KE.new (KE.new (KE.new (KE.new (KE.new (KE.new (KE.new (KE.new (KE.new (KE.new (KE.new (KE.new (KE.new (KE.new (KE.new (KE.new (KE.new (KE.new (KE.new (KE.new (KE.new (KE.new (KE.new (KE.new (KE.new (KE.new (KE.new (KE.new (KE.new (KE.new (KE.new (KE.new (KE.new (KE.new (KE.new (KE.new (KE.new (KE.new (KE.new KE.rf hq10 hK11) hq24 hK25) hq38 hK39) hq52 hK53) hq66 hK67) hq80 hK81) hq94 hK95) hq108 hK109) hq122 hK123) hq136 hK137) hq150 hK151) hq164 hK165) hq178 hK179) hq192 hK193) hq206 hK207) hq220 hK221) hq234 hK235) hq248 hK249) hq262 hK263) hq276 hK277) hq290 hK291) hq304 hK305) hq318 hK319) hq332 hK333) hq346 hK347) hq360 hK361) hq374 hK375) hq388 hK389) hq402 hK403) hq416 hK417) hq430 hK431) hq444 hK445) hq458 hK459) hq472 hK473) hq486 hK487) hq500 hK501) hq514 hK515) hq528 hK529) hq542 hK543) hq556 hK557) hq570 hK571) hq584 hK585) hq598 hK599) hq612 hK613) hq626 hK627) hq640 hK641) hq654 hK655) hq668 hK669) hq682 hK683) hq696 hK697) hq710 hK711) hq724 hK725) hq738 hK739) hq752 hK753) hq766 hK767) hq780 hK781) hq794 hK795) hq808 hK809) hq822 hK823) hq836 hK837) hq850 hK851) hq864 hK865) hq878 hK879) hq892 hK893) hq906 hK907) hq920 hK921) hq934 hK935) hq948 hK949) hq962 hK963) hq976 hK977) hq990 hK991) hq1004 hK1005) hq1018 hK1019) hq1032 hK1033) hq1046 hK1047) hq1060 hK1061) hq1074 hK1075) hq1088 hK1089) hq1102 hK1103) hq1116 hK1117) hq1130 hK1131) hq1144 hK1145) hq1158 hK1159) hq1172 hK1173) hq1186 hK1187) hq1200 hK1201) hq1214 hK1215) hq1231 hK1232) hq1245 hK1246) hq1259 hK1260) hq1273 hK1274) hq1287 hK1288) hq1301 hK1302) h1307 hq1315
  clear pf1312
  refine GO.putRF rfl rfl (by decide +kernel) h1321 fp_raw_fp_RX12_301 rfl rfl dX12_init_796 (fun V1325 e1324 => ?_)
  have pf1326 := PF.put pf1322 e1324 rfl
  clear pf1322
  refine GO.aload_n dX12_init_799 rfl rfl ?_
  refine GO.sipush dX12_init_800 rfl ?_
  refine GO.newT (atype := .int) 103 200 gw_89 rfl rfl (fun _ _ h => h) rfl rfl rfl (Or.inr rfl) (fun _ => okv_df rfl rfl rfl) rfl rfl dX12_init_803 (fun o1327 K1328 V1334 hq1329 hK1330 hE1331 h1332 _ hV1333 => ?_)
  have h1335 := (by rw [hK1330, updK_ne (K_old h1321 hq1329)]; exact h1321 : K1328 x = some (0, 23))
  have pf1336 := PF.nw pf1326 hV1333 (K_old h1321 hq1329)
  have h1337 := KE.nw (KE.new (KE.new (KE.new (KE.new (KE.new (KE.new (KE.new (KE.new (KE.new (KE.new (KE.new (KE.new (KE.new (KE.new (KE.new (KE.new (KE.new (KE.new (KE.new (KE.new (KE.new (KE.new (KE.new (KE.new (KE.new (KE.new (KE.new (KE.new (KE.new (KE.new (KE.new (KE.new (KE.new (KE.new (KE.new (KE.new (KE.new (KE.new (KE.new (KE.new (KE.new (KE.new (KE.new (KE.new (KE.new (KE.new (KE.new (KE.new (KE.new (KE.new (KE.new (KE.new (KE.new (KE.new (KE.new (KE.new (KE.new (KE.new (KE.new (KE.new (KE.new (KE.new (KE.new (KE.new (KE.new (KE.new (KE.new (KE.new (KE.new (KE.new (KE.new (KE.new (KE.new (KE.new (KE.new (KE.new (KE.new (KE.new (KE.new (KE.new (KE.new (KE.new (KE.new (KE.new (KE.new (KE.new (KE.new (KE.new (KE.new (KE.new (KE.new (KE.new (KE.new (KE.new KE.rf hq10 hK11) hq24 hK25) hq38 hK39) hq52 hK53) hq66 hK67) hq80 hK81) hq94 hK95) hq108 hK109) hq122 hK123) hq136 hK137) hq150 hK151) hq164 hK165) hq178 hK179) hq192 hK193) hq206 hK207) hq220 hK221) hq234 hK235) hq248 hK249) hq262 hK263) hq276 hK277) hq290 hK291) hq304 hK305) hq318 hK319) hq332 hK333) hq346 hK347) hq360 hK361) hq374 hK375) hq388 hK389) hq402 hK403) hq416 hK417) hq430 hK431) hq444 hK445) hq458 hK459) hq472 hK473) hq486 hK487) hq500 hK501) hq514 hK515) hq528 hK529) hq542 hK543) hq556 hK557) hq570 hK571) hq584 hK585) hq598 hK599) hq612 hK613) hq626 hK627) hq640 hK641) hq654 hK655) hq668 hK669) hq682 hK683) hq696 hK697) hq710 hK711) hq724 hK725) hq738 hK739) hq752 hK753) hq766 hK767) hq780 hK781) hq794 hK795) hq808 hK809) hq822 hK823) hq836 hK837) hq850 hK851) hq864 hK865) hq878 hK879) hq892 hK893) hq906 hK907) hq920 hK921) hq934 hK935) hq948 hK949) hq962 hK963) hq976 hK977) hq990 hK991) hq1004 hK1005) hq1018 hK1019) hq1032 hK1033) hq1046 hK1047) hq1060 hK1061) hq1074 hK1075) hq1088 hK1089) hq1102 hK1103) hq1116 hK1117) hq1130 hK1131) hq1144 hK1145) hq1158 hK1159) hq1172 hK1173) hq1186 hK1187) hq1200 hK1201) hq1214 hK1215) hq1231 hK1232) hq1245 hK1246) hq1259 hK1260) hq1273 hK1274) hq1287 hK1288) hq1301 hK1302) hq1315 hK1316) h1321 hq1329
  clear pf1326
  refine GO.putRF rfl rfl (by decide +kernel) h1335 fp_raw_fp_RX12_304 rfl rfl dX12_init_805 (fun V1339 e1338 => ?_)
  have pf1340 := PF.put pf1336 e1338 rfl
  clear pf1336
  refine GO.aload_n dX12_init_808 rfl rfl ?_
  refine GO.sipush dX12_init_809 rfl ?_
  refine GO.newT (atype := .int) 104 200 gw_89 rfl rfl (fun _ _ h => h) rfl rfl rfl (Or.inr rfl) (fun _ => okv_df rfl rfl rfl) rfl rfl dX12_init_812 (fun o1341 K1342 V1348 hq1343 hK1344 hE1345 h1346 _ hV1347 => ?_)
  have h1349 := (by rw [hK1344, updK_ne (K_old h1335 hq1343)]; exact h1335 : K1342 x = some (0, 23))
  have pf1350 := PF.nw pf1340 hV1347 (K_old h1335 hq1343)
  have h1351 := KE.nw (KE.new (KE.new (KE.new (KE.new (KE.new (KE.new (KE.new (KE.new (KE.new (KE.new (KE.new (KE.new (KE.new (KE.new (KE.new (KE.new (KE.new (KE.new (KE.new (KE.new (KE.new (KE.new (KE.new (KE.new (KE.new (KE.new (KE.new (KE.new (KE.new (KE.new (KE.new (KE.new (KE.new (KE.new (KE.new (KE.new (KE.new (KE.new (KE.new (KE.new (KE.new (KE.new (KE.new (KE.new (KE.new (KE.new (KE.new (KE.new (KE.new (KE.new (KE.new (KE.new (KE.new (KE.new (KE.new (KE.new (KE.new (KE.new (KE.new (KE.new (KE.new (KE.new (KE.new (KE.new (KE.new (KE.new (KE.new (KE.new (KE.new (KE.new (KE.new (KE.new (KE.new (KE.new (KE.new (KE.new (KE.new (KE.new (KE.new (KE.new (KE.new (KE.new (KE.new (KE.new (KE.new (KE.new (KE.new (KE.new (KE.new (KE.new (KE.new (KE.new (KE.new (KE.new (KE.new KE.rf hq10 hK11) hq24 hK25) hq38 hK39) hq52 hK53) hq66 hK67) hq80 hK81) hq94 hK95) hq108 hK109) hq122 hK123) hq136 hK137) hq150 hK151) hq164 hK165) hq178 hK179) hq192 hK193) hq206 hK207) hq220 hK221) hq234 hK235) hq248 hK249) hq262 hK263) hq276 hK277) hq290 hK291) hq304 hK305) hq318 hK319) hq332 hK333) hq346 hK347) hq360 hK361) hq374 hK375) hq388 hK389) hq402 hK403) hq416 hK417) hq430 hK431) hq444 hK445) hq458 hK459) hq472 hK473) hq486 hK487) hq500 hK501) hq514 hK515) hq528 hK529) hq542 hK543) hq556 hK557) hq570 hK571) hq584 hK585) hq598 hK599) hq612 hK613) hq626 hK627) hq640 hK641) hq654 hK655) hq668 hK669) hq682 hK683) hq696 hK697) hq710 hK711) hq724 hK725) hq738 hK739) hq752 hK753) hq766 hK767) hq780 hK781) hq794 hK795) hq808 hK809) hq822 hK823) hq836 hK837) hq850 hK851) hq864 hK865) hq878 hK879) hq892 hK893) hq906 hK907) hq920 hK921) hq934 hK935) hq948 hK949) hq962 hK963) hq976 hK977) hq990 hK991) hq1004 hK1005) hq1018 hK1019) hq1032 hK1033) hq1046 hK1047) hq1060 hK1061) hq1074 hK1075) hq1088 hK1089) hq1102 hK1103) hq1116 hK1117) hq1130 hK1131) hq1144 hK1145) hq1158 hK1159) hq1172 hK1173) hq1186 hK1187) hq1200 hK1201) hq1214 hK1215) hq1231 hK1232) hq1245 hK1246) hq1259 hK1260) hq1273 hK1274) hq1287 hK1288) hq1301 hK1302) hq1315 hK1316) hq1329 hK1330) h1335 hq1343
  clear pf1340
  refine GO.putRF rfl rfl (by decide +kernel) h1349 fp_raw_fp_RX12_307 rfl rfl dX12_init_814 (fun V1353 e1352 => ?_)
  have pf1354 := PF.put pf1350 e1352 rfl
  clear pf1350
  refine GO.aload_n dX12_init_817 rfl rfl ?_
  refine GO.sipush dX12_init_818 rfl ?_
  refine GO.newT (atype := .int) 105 200 gw_89 rfl rfl (fun _ _ h => h) rfl rfl rfl (Or.inr rfl) (fun _ => okv_df rfl rfl rfl) rfl rfl dX12_init_821 (fun o1355 K1356 V1362 hq1357 hK1358 hE1359 h1360 _ hV1361 => ?_)
  have h1363 := (by rw [hK1358, updK_ne (K_old h1349 hq1357)]; exact h1349 : K1356 x = some (0, 23))
  have pf1364 := PF.nw pf1354 hV1361 (K_old h1349 hq1357)
  have h1365 := KE.nw (KE.new (KE.new (KE.new (KE.new (KE.new (KE.new (KE.new (KE.new (KE.new (KE.new (KE.new (KE.new (KE.new (KE.new (KE.new (KE.new (KE.new (KE.new (KE.new (KE.new (KE.new (KE.new (KE.new (KE.new (KE.new (KE.new (KE.new (KE.new (KE.new (KE.new (KE.new (KE.new (KE.new (KE.new (KE.new (KE.new (KE.new (KE.new (KE.new (KE.new (KE.new (KE.new (KE.new (KE.new (KE.new (KE.new (KE.new (KE.new (KE.new (KE.new (KE.new (KE.new (KE.new (KE.new (KE.new (KE.new (KE.new (KE.new (KE.new (KE.new (KE.new (KE.new (KE.new (KE.new (KE.new (KE.new (KE.new (KE.new (KE.new (KE.new (KE.new (KE.new (KE.new (KE.new (KE.new (KE.new (KE.new (KE.new (KE.new (KE.new (KE.new (KE.new (KE.new (KE.new (KE.new (KE.new (KE.new (KE.new (KE.new (KE.new (KE.new (KE.new (KE.new (KE.new (KE.new (KE.new KE.rf hq10 hK11) hq24 hK25) hq38 hK39) hq52 hK53) hq66 hK67) hq80 hK81) hq94 hK95) hq108 hK109) hq122 hK123) hq136 hK137) hq150 hK151) hq164 hK165) hq178 hK179) hq192 hK193) hq206 hK207) hq220 hK221) hq234 hK235) hq248 hK249) hq262 hK263) hq276 hK277) hq290 hK291) hq304 hK305) hq318 hK319) hq332 hK333) hq346 hK347) hq360 hK361) hq374 hK375) hq388 hK389) hq402 hK403) hq416 hK417) hq430 hK431) hq444 hK445) hq458 hK459) hq472 hK473) hq486 hK487) hq500 hK501) hq514 hK515) hq528 hK529) hq542 hK543) hq556 hK557) hq570 hK571) hq584 hK585) hq598 hK599) hq612 hK613) hq626 hK627) hq640 hK641) hq654 hK655) hq668 hK669) hq682 hK683) hq696 hK697) hq710 hK711) hq724 hK725) hq738 hK739) hq752 hK753) hq766 hK767) hq780 hK781) hq794 hK795) hq808 hK809) hq822 hK823) hq836 hK837) hq850 hK851) hq864 hK865) hq878 hK879) hq892 hK893) hq906 hK907) hq920 hK921) hq934 hK935) hq948 hK949) hq962 hK963) hq976 hK977) hq990 hK991) hq1004 hK1005) hq1018 hK1019) hq1032 hK1033) hq1046 hK1047) hq1060 hK1061) hq1074 hK1075) hq1088 hK1089) hq1102 hK1103) hq1116 hK1117) hq1130 hK1131) hq1144 hK1145) hq1158 hK1159) hq1172 hK1173) hq1186 hK1187) hq1200 hK1201) hq1214 hK1215) hq1231 hK1232) hq1245 hK1246) hq1259 hK1260) hq1273 hK1274) hq1287 hK1288) hq1301 hK1302) hq1315 hK1316) hq1329 hK1330) hq1343 hK1344) h1349 hq1357
  clear pf1354
  refine GO.putRF rfl rfl (by decide +kernel) h1363 fp_raw_fp_RX12_310 rfl rfl dX12_init_823 (fun V1367 e1366 => ?_)
  have pf1368 := PF.put pf1364 e1366 rfl
  clear pf1364
  refine GO.aload_n dX12_init_826 rfl rfl ?_
  refine GO.sipush dX12_init_827 rfl ?_
  refine GO.newT (atype := .int) 106 200 gw_89 rfl rfl (fun _ _ h => h) rfl rfl rfl (Or.inr rfl) (fun _ => okv_df rfl rfl rfl) rfl rfl dX12_init_830 (fun o1369 K1370 V1376 hq1371 hK1372 hE1373 h1374 _ hV1375 => ?_)
  have h1377 := (by rw [hK1372, updK_ne (K_old h1363 hq1371)]; exact h1363 : K1370 x = some (0, 23))
  have pf1378 := PF.nw pf1368 hV1375 (K_old h1363 hq1371)
  have h1379 := KE.nw (KE.new (KE.new (KE.new (KE.new (KE.new (KE.new (KE.new (KE.new (KE.new (KE.new (KE.new (KE.new (KE.new (KE.new (KE.new (KE.new (KE.new (KE.new (KE.new (KE.new (KE.new (KE.new (KE.new (KE.new (KE.new (KE.new (KE.new (KE.new (KE.new (KE.new (KE.new (KE.new (KE.new (KE.new (KE.new (KE.new (KE.new (KE.new (KE.new (KE.new (KE.new (KE.new (KE.new (KE.new (KE.new (KE.new (KE.new (KE.new (KE.new (KE.new (KE.new (KE.new (KE.new (KE.new (KE.new (KE.new (KE.new (KE.new (KE.new (KE.new (KE.new (KE.new (KE.new (KE.new (KE.new (KE.new (KE.new (KE.new (KE.new (KE.new (KE.new (KE.new (KE.new (KE.new (KE.new (KE.new (KE.new (KE.new (KE.new (KE.new (KE.new (KE.new (KE.new (KE.new (KE.new (KE.new (KE.new (KE.new (KE.new (KE.new (KE.new (KE.new (KE.new (KE.new (KE.new (KE.new (KE.new KE.rf hq10 hK11) hq24 hK25) hq38 hK39) hq52 hK53) hq66 hK67) hq80 hK81) hq94 hK95) hq108 hK109) hq122 hK123) hq136 hK137) hq150 hK151) hq164 hK165) hq178 hK179) hq192 hK193) hq206 hK207) hq220 hK221) hq234 hK235) hq248 hK249) hq262 hK263) hq276 hK277) hq290 hK291) hq304 hK305) hq318 hK319) hq332 hK333) hq346 hK347) hq360 hK361) hq374 hK375) hq388 hK389) hq402 hK403) hq416 hK417) hq430 hK431) hq444 hK445) hq458 hK459) hq472 hK473) hq486 hK487) hq500 hK501) hq514 hK515) hq528 hK529) hq542 hK543) hq556 hK557) hq570 hK571) hq584 hK585) hq598 hK599) hq612 hK613) hq626 hK627) hq640 hK641) hq654 hK655) hq668 hK669) hq682 hK683) hq696 hK697) hq710 hK711) hq724 hK725) hq738 hK739) hq752 hK753) hq766 hK767) hq780 hK781) hq794 hK795) hq808 hK809) hq822 hK823) hq836 hK837) hq850 hK851) hq864 hK865) hq878 hK879) hq892 hK893) hq906 hK907) hq920 hK921) hq934 hK935) hq948 hK949) hq962 hK963) hq976 hK977) hq990 hK991) hq1004 hK1005) hq1018 hK1019) hq1032 hK1033) hq1046 hK1047) hq1060 hK1061) hq1074 hK1075) hq1088 hK1089) hq1102 hK1103) hq1116 hK1117) hq1130 hK1131) hq1144 hK1145) hq1158 hK1159) hq1172 hK1173) hq1186 hK1187) hq1200 hK1201) hq1214 hK1215) hq1231 hK1232) hq1245 hK1246) hq1259 hK1260) hq1273 hK1274) hq1287 hK1288) hq1301 hK1302) hq1315 hK1316) hq1329 hK1330) hq1343 hK1344) hq1357 hK1358) h1363 hq1371
  clear pf1368
  refine GO.putRF rfl rfl (by decide +kernel) h1377 fp_raw_fp_RX12_313 rfl rfl dX12_init_832 (fun V1381 e1380 => ?_)
  have pf1382 := PF.put pf1378 e1380 rfl
  clear pf1378
  refine GO.aload_n dX12_init_835 rfl rfl ?_
  refine GO.sipush dX12_init_836 rfl ?_
  refine GO.newT (atype := .int) 107 200 gw_89 rfl rfl (fun _ _ h => h) rfl rfl rfl (Or.inr rfl) (fun _ => okv_df rfl rfl rfl) rfl rfl dX12_init_839 (fun o1383 K1384 V1390 hq1385 hK1386 hE1387 h1388 _ hV1389 => ?_)
  have h1391 := (by rw [hK1386, updK_ne (K_old h1377 hq1385)]; exact h1377 : K1384 x = some (0, 23))
  have pf1392 := PF.nw pf1382 hV1389 (K_old h1377 hq1385)
  have h1393 := KE.nw (KE.new (KE.new (KE.new (KE.new (KE.new (KE.new (KE.new (KE.new (KE.new (KE.new (KE.new (KE.new (KE.new (KE.new (KE.new (KE.new (KE.new (KE.new (KE.new (KE.new (KE.new (KE.new (KE.new (KE.new (KE.new (KE.new (KE.new (KE.new (KE.new (KE.new (KE.new (KE.new (KE.new (KE.new (KE.new (KE.new (KE.new (KE.new (KE.new (KE.new (KE.new (KE.new (KE.new (KE.new (KE.new (KE.new (KE.new (KE.new (KE.new (KE.new (KE.new (KE.new (KE.new (KE.new (KE.new (KE.new (KE.new (KE.new (KE.new (KE.new (KE.new (KE.new (KE.new (KE.new (KE.new (KE.new (KE.new (KE.new (KE.new (KE.new (KE.new (KE.new (KE.new (KE.new (KE.new (KE.new (KE.new (KE.new (KE.new (KE.new (KE.new (KE.new (KE.new (KE.new (KE.new (KE.new (KE.new (KE.new (KE.new (KE.new (KE.new (KE.new (KE.new (KE.new (KE.new (KE.new (KE.new (KE.new KE.rf hq10 hK11) hq24 hK25) hq38 hK39) hq52 hK53) hq66 hK67) hq80 hK81) hq94 hK95) hq108 hK109) hq122 hK123) hq136 hK137) hq150 hK151) hq164 hK165) hq178 hK179) hq192 hK193) hq206 hK207) hq220 hK221) hq234 hK235) hq248 hK249) hq262 hK263) hq276 hK277) hq290 hK291) hq304 hK305) hq318 hK319) hq332 hK333) hq346 hK347) hq360 hK361) hq374 hK375) hq388 hK389) hq402 hK403) hq416 hK417) hq430 hK431) hq444 hK445) hq458 hK459) hq472 hK473) hq486 hK487) hq500 hK501) hq514 hK515) hq528 hK529) hq542 hK543) hq556 hK557) hq570 hK571) hq584 hK585) hq598 hK599) hq612 hK613) hq626 hK627) hq640 hK641) hq654 hK655) hq668 hK669) hq682 hK683) hq696 hK697) hq710 hK711) hq724 hK725) hq738 hK739) hq752 hK753) hq766 hK767) hq780 hK781) hq794 hK795) hq808 hK809) hq822 hK823) hq836 hK837) hq850 hK851) hq864 hK865) hq878 hK879) hq892 hK893) hq906 hK907) hq920 hK921) hq934 hK935) hq948 hK949) hq962 hK963) hq976 hK977) hq990 hK991) hq1004 hK1005) hq1018 hK1019) hq1032 hK1033) hq1046 hK1047) hq1060 hK1061) hq1074 hK1075) hq1088 hK1089) hq1102 hK1103) hq1116 hK1117) hq1130 hK1131) hq1144 hK1145) hq1158 hK1159) hq1172 hK1173) hq1186 hK1187) hq1200 hK1201) hq1214 hK1215) hq1231 hK1232) hq1245 hK1246) hq1259 hK1260) hq1273 hK1274) hq1287 hK1288) hq1301 hK1302) hq1315 hK1316) hq1329 hK1330) hq1343 hK1344) hq1357 hK1358) hq1371 hK1372) h1377 hq1385
  clear pf1382
  refine GO.putRF rfl rfl (by decide +kernel) h1391 fp_raw_fp_RX12_316 rfl rfl dX12_init_841 (fun V1395 e1394 => ?_)
  have pf1396 := PF.put pf1392 e1394 rfl
  clear pf1392
  refine GO.aload_n dX12_init_844 rfl rfl ?_
  refine GO.bipush dX12_init_845 rfl ?_
  refine GO.newT (atype := .int) 108 7 gw_89 rfl rfl (fun _ _ h => h) rfl rfl rfl (Or.inr rfl) (fun _ => okv_df rfl rfl rfl) rfl rfl dX12_init_847 (fun o1397 K1398 V1404 hq1399 hK1400 hE1401 h1402 _ hV1403 => ?_)
  have h1405 := (by rw [hK1400, updK_ne (K_old h1391 hq1399)]; exact h1391 : K1398 x = some (0, 23))
  have pf1406 := PF.nw pf1396 hV1403 (K_old h1391 hq1399)
  have h1407 := KE.nw (KE.new (KE.new (KE.new (KE.new (KE.new (KE.new (KE.new (KE.new (KE.new (KE.new (KE.new (KE.new (KE.new (KE.new (KE.new (KE.new (KE.new (KE.new (KE.new (KE.new (KE.new (KE.new (KE.new (KE.new (KE.new (KE.new (KE.new (KE.new (KE.new (KE.new (KE.new (KE.new (KE.new (KE.new (KE.new (KE.new (KE.new (KE.new (KE.new (KE.new (KE.new (KE.new (KE.new (KE.new (KE.new (KE.new (KE.new (KE.new (KE.new (KE.new (KE.new (KE.new (KE.new (KE.new (KE.new (KE.new (KE.new (KE.new (KE.new (KE.new (KE.new (KE.new (KE.new (KE.new (KE.new (KE.new (KE.new (KE.new (KE.new (KE.new (KE.new (KE.new (KE.new (KE.new (KE.new (KE.new (KE.new (KE.new (KE.new (KE.new (KE.new (KE.new (KE.new (KE.new (KE.new (KE.new (KE.new (KE.new (KE.new (KE.new (KE.new (KE.new (KE.new (KE.new (KE.new (KE.new (KE.new (KE.new (KE.new KE.rf hq10 hK11) hq24 hK25) hq38 hK39) hq52 hK53) hq66 hK67) hq80 hK81) hq94 hK95) hq108 hK109) hq122 hK123) hq136 hK137) hq150 hK151) hq164 hK165) hq178 hK179) hq192 hK193) hq206 hK207) hq220 hK221) hq234 hK235) hq248 hK249) hq262 hK263) hq276 hK277) hq290 hK291) hq304 hK305) hq318 hK319) hq332 hK333) hq346 hK347) hq360 hK361) hq374 hK375) hq388 hK389) hq402 hK403) hq416 hK417) hq430 hK431) hq444 hK445) hq458 hK459) hq472 hK473) hq486 hK487) hq500 hK501) hq514 hK515) hq528 hK529) hq542 hK543) hq556 hK557) hq570 hK571) hq584 hK585) hq598 hK599) hq612 hK613) hq626 hK627) hq640 hK641) hq654 hK655) hq668 hK669) hq682 hK683) hq696 hK697) hq710 hK711) hq724 hK725) hq738 hK739) hq752 hK753) hq766 hK767) hq780 hK781) hq794 hK795) hq808 hK809) hq822 hK823) hq836 hK837) hq850 hK851) hq864 hK865) hq878 hK879) hq892 hK893) hq906 hK907) hq920 hK921) hq934 hK935) hq948 hK949) hq962 hK963) hq976 hK977) hq990 hK991) hq1004 hK1005) hq1018 hK1019) hq1032 hK1033) hq1046 hK1047) hq1060 hK1061) hq1074 hK1075) hq1088 hK1089) hq1102 hK1103) hq1116 hK1117) hq1130 hK1131) hq1144 hK1145) hq1158 hK1159) hq1172 hK1173) hq1186 hK1187) hq1200 hK1201) hq1214 hK1215) hq1231 hK1232) hq1245 hK1246) hq1259 hK1260) hq1273 hK1274) hq1287 hK1288) hq1301 hK1302) hq1315 hK1316) hq1329 hK1330) hq1343 hK1344) hq1357 hK1358) hq1371 hK1372) hq1385 hK1386) h1391 hq1399
  clear pf1396
  refine GO.putRF rfl rfl (by decide +kernel) h1405 fp_raw_fp_RX12_319 rfl rfl dX12_init_849 (fun V1409 e1408 => ?_)
  have pf1410 := PF.put pf1406 e1408 rfl
  clear pf1406
  refine GO.aload_n dX12_init_852 rfl rfl ?_
  refine GO.bipush dX12_init_853 rfl ?_
  refine GO.newT (atype := .boolean) 109 63 gw_1936 rfl rfl (fun _ _ h => h) rfl rfl rfl (Or.inr rfl) (fun _ => okv_df rfl rfl rfl) rfl rfl dX12_init_855 (fun o1411 K1412 V1418 hq1413 hK1414 hE1415 h1416 hz1419 hV1417 => ?_)
  have h1420 := (by rw [hK1414, updK_ne (K_old h1405 hq1413)]; exact h1405 : K1412 x = some (0, 23))
  have pf1421 := PF.nw pf1410 hV1417 (K_old h1405 hq1413)
  have hz1422 : ∀ j, V1418 o1411 j = .int 0 := hz1419
  have h1423 := KE.nw (KE.new (KE.new (KE.new (KE.new (KE.new (KE.new (KE.new (KE.new (KE.new (KE.new (KE.new (KE.new (KE.new (KE.new (KE.new (KE.new (KE.new (KE.new (KE.new (KE.new (KE.new (KE.new (KE.new (KE.new (KE.new (KE.new (KE.new (KE.new (KE.new (KE.new (KE.new (KE.new (KE.new (KE.new (KE.new (KE.new (KE.new (KE.new (KE.new (KE.new (KE.new (KE.new (KE.new (KE.new (KE.new (KE.new (KE.new (KE.new (KE.new (KE.new (KE.new (KE.new (KE.new (KE.new (KE.new (KE.new (KE.new (KE.new (KE.new (KE.new (KE.new (KE.new (KE.new (KE.new (KE.new (KE.new (KE.new (KE.new (KE.new (KE.new (KE.new (KE.new (KE.new (KE.new (KE.new (KE.new (KE.new (KE.new (KE.new (KE.new (KE.new (KE.new (KE.new (KE.new (KE.new (KE.new (KE.new (KE.new (KE.new (KE.new (KE.new (KE.new (KE.new (KE.new (KE.new (KE.new (KE.new (KE.new (KE.new (KE.new KE.rf hq10 hK11) hq24 hK25) hq38 hK39) hq52 hK53) hq66 hK67) hq80 hK81) hq94 hK95) hq108 hK109) hq122 hK123) hq136 hK137) hq150 hK151) hq164 hK165) hq178 hK179) hq192 hK193) hq206 hK207) hq220 hK221) hq234 hK235) hq248 hK249) hq262 hK263) hq276 hK277) hq290 hK291) hq304 hK305) hq318 hK319) hq332 hK333) hq346 hK347) hq360 hK361) hq374 hK375) hq388 hK389) hq402 hK403) hq416 hK417) hq430 hK431) hq444 hK445) hq458 hK459) hq472 hK473) hq486 hK487) hq500 hK501) hq514 hK515) hq528 hK529) hq542 hK543) hq556 hK557) hq570 hK571) hq584 hK585) hq598 hK599) hq612 hK613) hq626 hK627) hq640 hK641) hq654 hK655) hq668 hK669) hq682 hK683) hq696 hK697) hq710 hK711) hq724 hK725) hq738 hK739) hq752 hK753) hq766 hK767) hq780 hK781) hq794 hK795) hq808 hK809) hq822 hK823) hq836 hK837) hq850 hK851) hq864 hK865) hq878 hK879) hq892 hK893) hq906 hK907) hq920 hK921) hq934 hK935) hq948 hK949) hq962 hK963) hq976 hK977) hq990 hK991) hq1004 hK1005) hq1018 hK1019) hq1032 hK1033) hq1046 hK1047) hq1060 hK1061) hq1074 hK1075) hq1088 hK1089) hq1102 hK1103) hq1116 hK1117) hq1130 hK1131) hq1144 hK1145) hq1158 hK1159) hq1172 hK1173) hq1186 hK1187) hq1200 hK1201) hq1214 hK1215) hq1231 hK1232) hq1245 hK1246) hq1259 hK1260) hq1273 hK1274) hq1287 hK1288) hq1301 hK1302) hq1315 hK1316) hq1329 hK1330) hq1343 hK1344) hq1357 hK1358) hq1371 hK1372) hq1385 hK1386) hq1399 hK1400) h1405 hq1413
  clear pf1410
  refine GO.putRF rfl rfl (by decide +kernel) h1420 fp_raw_fp_RX12_322 rfl rfl dX12_init_857 (fun V1425 e1424 => ?_)
  have pf1426 := PF.put pf1421 e1424 rfl
  have hz1427 : ∀ j, V1425 o1411 j = .int 0 := fun j => (uq_ne e1424 (Or.inl (K_ne h1416 h1420 (by decide)))).trans (hz1422 j)
  clear pf1421 hz1422
  refine GO.aload_n dX12_init_860 rfl rfl ?_
  refine GO.sipush dX12_init_861 rfl ?_
  refine GO.newT (atype := .boolean) 110 441 gw_1936 rfl rfl (fun _ _ h => h) rfl rfl rfl (Or.inr rfl) (fun _ => okv_df rfl rfl rfl) rfl rfl dX12_init_864 (fun o1428 K1429 V1435 hq1430 hK1431 hE1432 h1433 hz1436 hV1434 => ?_)
  have h1437 := (by rw [hK1431, updK_ne (K_old h1420 hq1430)]; exact h1420 : K1429 x = some (0, 23))
  have pf1438 := PF.nw pf1426 hV1434 (K_old h1420 hq1430)
  have kz1440 := hE1432.arr h1416
  have hz1439 : ∀ j, V1435 o1411 j = .int 0 := fun j => (congrFun (hV1434 _ (K_old h1416 hq1430)) j).trans (hz1427 j)
  have hz1441 : ∀ j, V1435 o1428 j = .int 0 := hz1436
  have h1442 := KE.nw (KE.new (KE.new (KE.new (KE.new (KE.new (KE.new (KE.new (KE.new (KE.new (KE.new (KE.new (KE.new (KE.new (KE.new (KE.new (KE.new (KE.new (KE.new (KE.new (KE.new (KE.new (KE.new (KE.new (KE.new (KE.new (KE.new (KE.new (KE.new (KE.new (KE.new (KE.new (KE.new (KE.new (KE.new (KE.new (KE.new (KE.new (KE.new (KE.new (KE.new (KE.new (KE.new (KE.new (KE.new (KE.new (KE.new (KE.new (KE.new (KE.new (KE.new (KE.new (KE.new (KE.new (KE.new (KE.new (KE.new (KE.new (KE.new (KE.new (KE.new (KE.new (KE.new (KE.new (KE.new (KE.new (KE.new (KE.new (KE.new (KE.new (KE.new (KE.new (KE.new (KE.new (KE.new (KE.new (KE.new (KE.new (KE.new (KE.new (KE.new (KE.new (KE.new (KE.new (KE.new (KE.new (KE.new (KE.new (KE.new (KE.new (KE.new (KE.new (KE.new (KE.new (KE.new (KE.new (KE.new (KE.new (KE.new (KE.new (KE.new (KE.new KE.rf hq10 hK11) hq24 hK25) hq38 hK39) hq52 hK53) hq66 hK67) hq80 hK81) hq94 hK95) hq108 hK109) hq122 hK123) hq136 hK137) hq150 hK151) hq164 hK165) hq178 hK179) hq192 hK193) hq206 hK207) hq220 hK221) hq234 hK235) hq248 hK249) hq262 hK263) hq276 hK277) hq290 hK291) hq304 hK305) hq318 hK319) hq332 hK333) hq346 hK347) hq360 hK361) hq374 hK375) hq388 hK389) hq402 hK403) hq416 hK417) hq430 hK431) hq444 hK445) hq458 hK459) hq472 hK473) hq486 hK487) hq500 hK501) hq514 hK515) hq528 hK529) hq542 hK543) hq556 hK557) hq570 hK571) hq584 hK585) hq598 hK599) hq612 hK613) hq626 hK627) hq640 hK641) hq654 hK655) hq668 hK669) hq682 hK683) hq696 hK697) hq710 hK711) hq724 hK725) hq738 hK739) hq752 hK753) hq766 hK767) hq780 hK781) hq794 hK795) hq808 hK809) hq822 hK823) hq836 hK837) hq850 hK851) hq864 hK865) hq878 hK879) hq892 hK893) hq906 hK907) hq920 hK921) hq934 hK935) hq948 hK949) hq962 hK963) hq976 hK977) hq990 hK991) hq1004 hK1005) hq1018 hK1019) hq1032 hK1033) hq1046 hK1047) hq1060 hK1061) hq1074 hK1075) hq1088 hK1089) hq1102 hK1103) hq1116 hK1117) hq1130 hK1131) hq1144 hK1145) hq1158 hK1159) hq1172 hK1173) hq1186 hK1187) hq1200 hK1201) hq1214 hK1215) hq1231 hK1232) hq1245 hK1246) hq1259 hK1260) hq1273 hK1274) hq1287 hK1288) hq1301 hK1302) hq1315 hK1316) hq1329 hK1330) hq1343 hK1344) hq1357 hK1358) hq1371 hK1372) hq1385 hK1386) hq1399 hK1400) hq1413 hK1414) h1420 hq1430
  clear pf1426 hz1427
  refine GO.putRF rfl rfl (by decide +kernel) h1437 fp_raw_fp_RX12_325 rfl rfl dX12_init_866 (fun V1444 e1443 => ?_)
  have pf1445 := PF.put pf1438 e1443 rfl
  have hz1446 : ∀ j, V1444 o1411 j = .int 0 := fun j => (uq_ne e1443 (Or.inl (K_ne kz1440 h1437 (by decide)))).trans (hz1439 j)
  have hz1447 : ∀ j, V1444 o1428 j = .int 0 := fun j => (uq_ne e1443 (Or.inl (K_ne h1433 h1437 (by decide)))).trans (hz1441 j)
  clear pf1438 hz1439 hz1441
  refine GO.aload_n dX12_init_869 rfl rfl ?_
  refine GO.bipush dX12_init_870 rfl ?_
  refine GO.newT (atype := .int) 111 8 gw_89 rfl rfl (fun _ _ h => h) rfl rfl rfl (Or.inr rfl) (fun _ => okv_df rfl rfl rfl) rfl rfl dX12_init_872 (fun o1448 K1449 V1455 hq1450 hK1451 hE1452 h1453 _ hV1454 => ?_)
  have h1456 := (by rw [hK1451, updK_ne (K_old h1437 hq1450)]; exact h1437 : K1449 x = some (0, 23))
  have pf1457 := PF.nw pf1445 hV1454 (K_old h1437 hq1450)
  have kz1459 := hE1452.arr kz1440
  have hz1458 : ∀ j, V1455 o1411 j = .int 0 := fun j => (congrFun (hV1454 _ (K_old kz1440 hq1450)) j).trans (hz1446 j)
  have kz1461 := hE1452.arr h1433
  have hz1460 : ∀ j, V1455 o1428 j = .int 0 := fun j => (congrFun (hV1454 _ (K_old h1433 hq1450)) j).trans (hz1447 j)
  have h1462 := KE.nw (KE.new (KE.new (KE.new (KE.new (KE.new (KE.new (KE.new (KE.new (KE.new (KE.new (KE.new (KE.new (KE.new (KE.new (KE.new (KE.new (KE.new (KE.new (KE.new (KE.new (KE.new (KE.new (KE.new (KE.new (KE.new (KE.new (KE.new (KE.new (KE.new (KE.new (KE.new (KE.new (KE.new (KE.new (KE.new (KE.new (KE.new (KE.new (KE.new (KE.new (KE.new (KE.new (KE.new (KE.new (KE.new (KE.new (KE.new (KE.new (KE.new (KE.new (KE.new (KE.new (KE.new (KE.new (KE.new (KE.new (KE.new (KE.new (KE.new (KE.new (KE.new (KE.new (KE.new (KE.new (KE.new (KE.new (KE.new (KE.new (KE.new (KE.new (KE.new (KE.new (KE.new (KE.new (KE.new (KE.new (KE.new (KE.new (KE.new (KE.new (KE.new (KE.new (KE.new (KE.new (KE.new (KE.new (KE.new (KE.new (KE.new (KE.new (KE.new (KE.new (KE.new (KE.new (KE.new (KE.new (KE.new (KE.new (KE.new (KE.new (KE.new (KE.new KE.rf hq10 hK11) hq24 hK25) hq38 hK39) hq52 hK53) hq66 hK67) hq80 hK81) hq94 hK95) hq108 hK109) hq122 hK123) hq136 hK137) hq150 hK151) hq164 hK165) hq178 hK179) hq192 hK193) hq206 hK207) hq220 hK221) hq234 hK235) hq248 hK249) hq262 hK263) hq276 hK277) hq290 hK291) hq304 hK305) hq318 hK319) hq332 hK333) hq346 hK347) hq360 hK361) hq374 hK375) hq388 hK389) hq402 hK403) hq416 hK417) hq430 hK431) hq444 hK445) hq458 hK459) hq472 hK473) hq486 hK487) hq500 hK501) hq514 hK515) hq528 hK529) hq542 hK543) hq556 hK557) hq570 hK571) hq584 hK585) hq598 hK599) hq612 hK613) hq626 hK627) hq640 hK641) hq654 hK655) hq668 hK669) hq682 hK683) hq696 hK697) hq710 hK711) hq724 hK725) hq738 hK739) hq752 hK753) hq766 hK767) hq780 hK781) hq794 hK795) hq808 hK809) hq822 hK823) hq836 hK837) hq850 hK851) hq864 hK865) hq878 hK879) hq892 hK893) hq906 hK907) hq920 hK921) hq934 hK935) hq948 hK949) hq962 hK963) hq976 hK977) hq990 hK991) hq1004 hK1005) hq1018 hK1019) hq1032 hK1033) hq1046 hK1047) hq1060 hK1061) hq1074 hK1075) hq1088 hK1089) hq1102 hK1103) hq1116 hK1117) hq1130 hK1131) hq1144 hK1145) hq1158 hK1159) hq1172 hK1173) hq1186 hK1187) hq1200 hK1201) hq1214 hK1215) hq1231 hK1232) hq1245 hK1246) hq1259 hK1260) hq1273 hK1274) hq1287 hK1288) hq1301 hK1302) hq1315 hK1316) hq1329 hK1330) hq1343 hK1344) hq1357 hK1358) hq1371 hK1372) hq1385 hK1386) hq1399 hK1400) hq1413 hK1414) hq1430 hK1431) h1437 hq1450
  clear pf1445 kz1440 hz1446 hz1447
  refine GO.putRF rfl rfl (by decide +kernel) h1456 fp_raw_fp_RX12_328 rfl rfl dX12_init_874 (fun V1464 e1463 => ?_)
  have pf1465 := PF.put pf1457 e1463 rfl
  have hz1466 : ∀ j, V1464 o1411 j = .int 0 := fun j => (uq_ne e1463 (Or.inl (K_ne kz1459 h1456 (by decide)))).trans (hz1458 j)
  have hz1467 : ∀ j, V1464 o1428 j = .int 0 := fun j => (uq_ne e1463 (Or.inl (K_ne kz1461 h1456 (by decide)))).trans (hz1460 j)
  clear pf1457 hz1458 hz1460
  refine GO.aload_n dX12_init_877 rfl rfl ?_
  refine GO.bipush dX12_init_878 rfl ?_
  refine GO.newT (atype := .int) 112 8 gw_89 rfl rfl (fun _ _ h => h) rfl rfl rfl (Or.inr rfl) (fun _ => okv_df rfl rfl rfl) rfl rfl dX12_init_880 (fun o1468 K1469 V1475 hq1470 hK1471 hE1472 h1473 _ hV1474 => ?_)
  have h1476 := (by rw [hK1471, updK_ne (K_old h1456 hq1470)]; exact h1456 : K1469 x = some (0, 23))
  have pf1477 := PF.nw pf1465 hV1474 (K_old h1456 hq1470)
  have kz1479 := hE1472.arr kz1459
  have hz1478 : ∀ j, V1475 o1411 j = .int 0 := fun j => (congrFun (hV1474 _ (K_old kz1459 hq1470)) j).trans (hz1466 j)
  have kz1481 := hE1472.arr kz1461
  have hz1480 : ∀ j, V1475 o1428 j = .int 0 := fun j => (congrFun (hV1474 _ (K_old kz1461 hq1470)) j).trans (hz1467 j)
  have h1482 := KE.nw (KE.new (KE.new (KE.new (KE.new (KE.new (KE.new (KE.new (KE.new (KE.new (KE.new (KE.new (KE.new (KE.new (KE.new (KE.new (KE.new (KE.new (KE.new (KE.new (KE.new (KE.new (KE.new (KE.new (KE.new (KE.new (KE.new (KE.new (KE.new (KE.new (KE.new (KE.new (KE.new (KE.new (KE.new (KE.new (KE.new (KE.new (KE.new (KE.new (KE.new (KE.new (KE.new (KE.new (KE.new (KE.new (KE.new (KE.new (KE.new (KE.new (KE.new (KE.new (KE.new (KE.new (KE.new (KE.new (KE.new (KE.new (KE.new (KE.new (KE.new (KE.new (KE.new (KE.new (KE.new (KE.new (KE.new (KE.new (KE.new (KE.new (KE.new (KE.new (KE.new (KE.new (KE.new (KE.new (KE.new (KE.new (KE.new (KE.new (KE.new (KE.new (KE.new (KE.new (KE.new (KE.new (KE.new (KE.new (KE.new (KE.new (KE.new (KE.new (KE.new (KE.new (KE.new (KE.new (KE.new (KE.new (KE.new (KE.new (KE.new (KE.new (KE.new (KE.new KE.rf hq10 hK11) hq24 hK25) hq38 hK39) hq52 hK53) hq66 hK67) hq80 hK81) hq94 hK95) hq108 hK109) hq122 hK123) hq136 hK137) hq150 hK151) hq164 hK165) hq178 hK179) hq192 hK193) hq206 hK207) hq220 hK221) hq234 hK235) hq248 hK249) hq262 hK263) hq276 hK277) hq290 hK291) hq304 hK305) hq318 hK319) hq332 hK333) hq346 hK347) hq360 hK361) hq374 hK375) hq388 hK389) hq402 hK403) hq416 hK417) hq430 hK431) hq444 hK445) hq458 hK459) hq472 hK473) hq486 hK487) hq500 hK501) hq514 hK515) hq528 hK529) hq542 hK543) hq556 hK557) hq570 hK571) hq584 hK585) hq598 hK599) hq612 hK613) hq626 hK627) hq640 hK641) hq654 hK655) hq668 hK669) hq682 hK683) hq696 hK697) hq710 hK711) hq724 hK725) hq738 hK739) hq752 hK753) hq766 hK767) hq780 hK781) hq794 hK795) hq808 hK809) hq822 hK823) hq836 hK837) hq850 hK851) hq864 hK865) hq878 hK879) hq892 hK893) hq906 hK907) hq920 hK921) hq934 hK935) hq948 hK949) hq962 hK963) hq976 hK977) hq990 hK991) hq1004 hK1005) hq1018 hK1019) hq1032 hK1033) hq1046 hK1047) hq1060 hK1061) hq1074 hK1075) hq1088 hK1089) hq1102 hK1103) hq1116 hK1117) hq1130 hK1131) hq1144 hK1145) hq1158 hK1159) hq1172 hK1173) hq1186 hK1187) hq1200 hK1201) hq1214 hK1215) hq1231 hK1232) hq1245 hK1246) hq1259 hK1260) hq1273 hK1274) hq1287 hK1288) hq1301 hK1302) hq1315 hK1316) hq1329 hK1330) hq1343 hK1344) hq1357 hK1358) hq1371 hK1372) hq1385 hK1386) hq1399 hK1400) hq1413 hK1414) hq1430 hK1431) hq1450 hK1451) h1456 hq1470
  clear pf1465 kz1459 hz1466 kz1461 hz1467
  refine GO.putRF rfl rfl (by decide +kernel) h1476 fp_raw_fp_RX12_331 rfl rfl dX12_init_882 (fun V1484 e1483 => ?_)
  have pf1485 := PF.put pf1477 e1483 rfl
  have hz1486 : ∀ j, V1484 o1411 j = .int 0 := fun j => (uq_ne e1483 (Or.inl (K_ne kz1479 h1476 (by decide)))).trans (hz1478 j)
  have hz1487 : ∀ j, V1484 o1428 j = .int 0 := fun j => (uq_ne e1483 (Or.inl (K_ne kz1481 h1476 (by decide)))).trans (hz1480 j)
  clear pf1477 hz1478 hz1480
  refine GO.aload_n dX12_init_885 rfl rfl ?_
  refine GO.bipush dX12_init_886 rfl ?_
  refine GO.newT (atype := .int) 113 24 gw_89 rfl rfl (fun _ _ h => h) rfl rfl rfl (Or.inr rfl) (fun _ => okv_df rfl rfl rfl) rfl rfl dX12_init_888 (fun o1488 K1489 V1495 hq1490 hK1491 hE1492 h1493 _ hV1494 => ?_)
  have h1496 := (by rw [hK1491, updK_ne (K_old h1476 hq1490)]; exact h1476 : K1489 x = some (0, 23))
  have pf1497 := PF.nw pf1485 hV1494 (K_old h1476 hq1490)
  have kz1499 := hE1492.arr kz1479
  have hz1498 : ∀ j, V1495 o1411 j = .int 0 := fun j => (congrFun (hV1494 _ (K_old kz1479 hq1490)) j).trans (hz1486 j)
  have kz1501 := hE1492.arr kz1481
  have hz1500 : ∀ j, V1495 o1428 j = .int 0 := fun j => (congrFun (hV1494 _ (K_old kz1481 hq1490)) j).trans (hz1487 j)
  have h1502 := KE.nw (KE.new (KE.new (KE.new (KE.new (KE.new (KE.new (KE.new (KE.new (KE.new (KE.new (KE.new (KE.new (KE.new (KE.new (KE.new (KE.new (KE.new (KE.new (KE.new (KE.new (KE.new (KE.new (KE.new (KE.new (KE.new (KE.new (KE.new (KE.new (KE.new (KE.new (KE.new (KE.new (KE.new (KE.new (KE.new (KE.new (KE.new (KE.new (KE.new (KE.new (KE.new (KE.new (KE.new (KE.new (KE.new (KE.new (KE.new (KE.new (KE.new (KE.new (KE.new (KE.new (KE.new (KE.new (KE.new (KE.new (KE.new (KE.new (KE.new (KE.new (KE.new (KE.new (KE.new (KE.new (KE.new (KE.new (KE.new (KE.new (KE.new (KE.new (KE.new (KE.new (KE.new (KE.new (KE.new (KE.new (KE.new (KE.new (KE.new (KE.new (KE.new (KE.new (KE.new (KE.new (KE.new (KE.new (KE.new (KE.new (KE.new (KE.new (KE.new (KE.new (KE.new (KE.new (KE.new (KE.new (KE.new (KE.new (KE.new (KE.new (KE.new (KE.new (KE.new (KE.new KE.rf hq10 hK11) hq24 hK25) hq38 hK39) hq52 hK53) hq66 hK67) hq80 hK81) hq94 hK95) hq108 hK109) hq122 hK123) hq136 hK137) hq150 hK151) hq164 hK165) hq178 hK179) hq192 hK193) hq206 hK207) hq220 hK221) hq234 hK235) hq248 hK249) hq262 hK263) hq276 hK277) hq290 hK291) hq304 hK305) hq318 hK319) hq332 hK333) hq346 hK347) hq360 hK361) hq374 hK375) hq388 hK389) hq402 hK403) hq416 hK417) hq430 hK431) hq444 hK445) hq458 hK459) hq472 hK473) hq486 hK487) hq500 hK501) hq514 hK515) hq528 hK529) hq542 hK543) hq556 hK557) hq570 hK571) hq584 hK585) hq598 hK599) hq612 hK613) hq626 hK627) hq640 hK641) hq654 hK655) hq668 hK669) hq682 hK683) hq696 hK697) hq710 hK711) hq724 hK725) hq738 hK739) hq752 hK753) hq766 hK767) hq780 hK781) hq794 hK795) hq808 hK809) hq822 hK823) hq836 hK837) hq850 hK851) hq864 hK865) hq878 hK879) hq892 hK893) hq906 hK907) hq920 hK921) hq934 hK935) hq948 hK949) hq962 hK963) hq976 hK977) hq990 hK991) hq1004 hK1005) hq1018 hK1019) hq1032 hK1033) hq1046 hK1047) hq1060 hK1061) hq1074 hK1075) hq1088 hK1089) hq1102 hK1103) hq1116 hK1117) hq1130 hK1131) hq1144 hK1145) hq1158 hK1159) hq1172 hK1173) hq1186 hK1187) hq1200 hK1201) hq1214 hK1215) hq1231 hK1232) hq1245 hK1246) hq1259 hK1260) hq1273 hK1274) hq1287 hK1288) hq1301 hK1302) hq1315 hK1316) hq1329 hK1330) hq1343 hK1344) hq1357 hK1358) hq1371 hK1372) hq1385 hK1386) hq1399 hK1400) hq1413 hK1414) hq1430 hK1431) hq1450 hK1451) hq1470 hK1471) h1476 hq1490
  clear pf1485 kz1479 hz1486 kz1481 hz1487
  refine GO.putRF rfl rfl (by decide +kernel) h1496 fp_raw_fp_RX12_334 rfl rfl dX12_init_890 (fun V1504 e1503 => ?_)
  have pf1505 := PF.put pf1497 e1503 rfl
  have hz1506 : ∀ j, V1504 o1411 j = .int 0 := fun j => (uq_ne e1503 (Or.inl (K_ne kz1499 h1496 (by decide)))).trans (hz1498 j)
  have hz1507 : ∀ j, V1504 o1428 j = .int 0 := fun j => (uq_ne e1503 (Or.inl (K_ne kz1501 h1496 (by decide)))).trans (hz1500 j)
  clear pf1497 hz1498 hz1500
  refine GO.aload_n dX12_init_893 rfl rfl ?_
  refine GO.bipush dX12_init_894 rfl ?_
  refine GO.newT (atype := .int) 114 24 gw_89 rfl rfl (fun _ _ h => h) rfl rfl rfl (Or.inr rfl) (fun _ => okv_df rfl rfl rfl) rfl rfl dX12_init_896 (fun o1508 K1509 V1515 hq1510 hK1511 hE1512 h1513 _ hV1514 => ?_)
  have h1516 := (by rw [hK1511, updK_ne (K_old h1496 hq1510)]; exact h1496 : K1509 x = some (0, 23))
  have pf1517 := PF.nw pf1505 hV1514 (K_old h1496 hq1510)
  have kz1519 := hE1512.arr kz1499
  have hz1518 : ∀ j, V1515 o1411 j = .int 0 := fun j => (congrFun (hV1514 _ (K_old kz1499 hq1510)) j).trans (hz1506 j)
  have kz1521 := hE1512.arr kz1501
  have hz1520 : ∀ j, V1515 o1428 j = .int 0 := fun j => (congrFun (hV1514 _ (K_old kz1501 hq1510)) j).trans (hz1507 j)
  have h1522 := KE.nw (KE.new (KE.new (KE.new (KE.new (KE.new (KE.new (KE.new (KE.new (KE.new (KE.new (KE.new (KE.new (KE.new (KE.new (KE.new (KE.new (KE.new (KE.new (KE.new (KE.new (KE.new (KE.new (KE.new (KE.new (KE.new (KE.new (KE.new (KE.new (KE.new (KE.new (KE.new (KE.new (KE.new (KE.new (KE.new (KE.new (KE.new (KE.new (KE.new (KE.new (KE.new (KE.new (KE.new (KE.new (KE.new (KE.new (KE.new (KE.new (KE.new (KE.new (KE.new (KE.new (KE.new (KE.new (KE.new (KE.new (KE.new (KE.new (KE.new (KE.new (KE.new (KE.new (KE.new (KE.new (KE.new (KE.new (KE.new (KE.new (KE.new (KE.new (KE.new (KE.new (KE.new (KE.new (KE.new (KE.new (KE.new (KE.new (KE.new (KE.new (KE.new (KE.new (KE.new (KE.new (KE.new (KE.new (KE.new (KE.new (KE.new (KE.new (KE.new (KE.new (KE.new (KE.new (KE.new (KE.new (KE.new (KE.new (KE.new (KE.new (KE.new (KE.new (KE.new (KE.new (KE.new KE.rf hq10 hK11) hq24 hK25) hq38 hK39) hq52 hK53) hq66 hK67) hq80 hK81) hq94 hK95) hq108 hK109) hq122 hK123) hq136 hK137) hq150 hK151) hq164 hK165) hq178 hK179) hq192 hK193) hq206 hK207) hq220 hK221) hq234 hK235) hq248 hK249) hq262 hK263) hq276 hK277) hq290 hK291) hq304 hK305) hq318 hK319) hq332 hK333) hq346 hK347) hq360 hK361) hq374 hK375) hq388 hK389) hq402 hK403) hq416 hK417) hq430 hK431) hq444 hK445) hq458 hK459) hq472 hK473) hq486 hK487) hq500 hK501) hq514 hK515) hq528 hK529) hq542 hK543) hq556 hK557) hq570 hK571) hq584 hK585) hq598 hK599) hq612 hK613) hq626 hK627) hq640 hK641) hq654 hK655) hq668 hK669) hq682 hK683) hq696 hK697) hq710 hK711) hq724 hK725) hq738 hK739) hq752 hK753) hq766 hK767) hq780 hK781) hq794 hK795) hq808 hK809) hq822 hK823) hq836 hK837) hq850 hK851) hq864 hK865) hq878 hK879) hq892 hK893) hq906 hK907) hq920 hK921) hq934 hK935) hq948 hK949) hq962 hK963) hq976 hK977) hq990 hK991) hq1004 hK1005) hq1018 hK1019) hq1032 hK1033) hq1046 hK1047) hq1060 hK1061) hq1074 hK1075) hq1088 hK1089) hq1102 hK1103) hq1116 hK1117) hq1130 hK1131) hq1144 hK1145) hq1158 hK1159) hq1172 hK1173) hq1186 hK1187) hq1200 hK1201) hq1214 hK1215) hq1231 hK1232) hq1245 hK1246) hq1259 hK1260) hq1273 hK1274) hq1287 hK1288) hq1301 hK1302) hq1315 hK1316) hq1329 hK1330) hq1343 hK1344) hq1357 hK1358) hq1371 hK1372) hq1385 hK1386) hq1399 hK1400) hq1413 hK1414) hq1430 hK1431) hq1450 hK1451) hq1470 hK1471) hq1490 hK1491) h1496 hq1510
  clear pf1505 kz1499 hz1506 kz1501 hz1507
  refine GO.putRF rfl rfl (by decide +kernel) h1516 fp_raw_fp_RX12_337 rfl rfl dX12_init_898 (fun V1524 e1523 => ?_)
  have pf1525 := PF.put pf1517 e1523 rfl
  have hz1526 : ∀ j, V1524 o1411 j = .int 0 := fun j => (uq_ne e1523 (Or.inl (K_ne kz1519 h1516 (by decide)))).trans (hz1518 j)
  have hz1527 : ∀ j, V1524 o1428 j = .int 0 := fun j => (uq_ne e1523 (Or.inl (K_ne kz1521 h1516 (by decide)))).trans (hz1520 j)
  clear pf1517 hz1518 hz1520
  refine GO.aload_n dX12_init_901 rfl rfl ?_
  refine GO.bipush dX12_init_902 rfl ?_
  refine GO.newT (atype := .int) 115 8 gw_89 rfl rfl (fun _ _ h => h) rfl rfl rfl (Or.inr rfl) (fun _ => okv_df rfl rfl rfl) rfl rfl dX12_init_904 (fun o1528 K1529 V1535 hq1530 hK1531 hE1532 h1533 _ hV1534 => ?_)
  have h1536 := (by rw [hK1531, updK_ne (K_old h1516 hq1530)]; exact h1516 : K1529 x = some (0, 23))
  have pf1537 := PF.nw pf1525 hV1534 (K_old h1516 hq1530)
  have kz1539 := hE1532.arr kz1519
  have hz1538 : ∀ j, V1535 o1411 j = .int 0 := fun j => (congrFun (hV1534 _ (K_old kz1519 hq1530)) j).trans (hz1526 j)
  have kz1541 := hE1532.arr kz1521
  have hz1540 : ∀ j, V1535 o1428 j = .int 0 := fun j => (congrFun (hV1534 _ (K_old kz1521 hq1530)) j).trans (hz1527 j)
  have h1542 := KE.nw (KE.new (KE.new (KE.new (KE.new (KE.new (KE.new (KE.new (KE.new (KE.new (KE.new (KE.new (KE.new (KE.new (KE.new (KE.new (KE.new (KE.new (KE.new (KE.new (KE.new (KE.new (KE.new (KE.new (KE.new (KE.new (KE.new (KE.new (KE.new (KE.new (KE.new (KE.new (KE.new (KE.new (KE.new (KE.new (KE.new (KE.new (KE.new (KE.new (KE.new (KE.new (KE.new (KE.new (KE.new (KE.new (KE.new (KE.new (KE.new (KE.new (KE.new (KE.new (KE.new (KE.new (KE.new (KE.new (KE.new (KE.new (KE.new (KE.new (KE.new (KE.new (KE.new (KE.new (KE.new (KE.new (KE.new (KE.new (KE.new (KE.new (KE.new (KE.new (KE.new (KE.new (KE.new (KE.new (KE.new (KE.new (KE.new (KE.new (KE.new (KE.new (KE.new (KE.new (KE.new (KE.new (KE.new (KE.new (KE.new (KE.new (KE.new (KE.new (KE.new (KE.new (KE.new (KE.new (KE.new (KE.new (KE.new (KE.new (KE.new (KE.new (KE.new (KE.new (KE.new (KE.new (KE.new KE.rf hq10 hK11) hq24 hK25) hq38 hK39) hq52 hK53) hq66 hK67) hq80 hK81) hq94 hK95) hq108 hK109) hq122 hK123) hq136 hK137) hq150 hK151) hq164 hK165) hq178 hK179) hq192 hK193) hq206 hK207) hq220 hK221) hq234 hK235) hq248 hK249) hq262 hK263) hq276 hK277) hq290 hK291) hq304 hK305) hq318 hK319) hq332 hK333) hq346 hK347) hq360 hK361) hq374 hK375) hq388 hK389) hq402 hK403) hq416 hK417) hq430 hK431) hq444 hK445) hq458 hK459) hq472 hK473) hq486 hK487) hq500 hK501) hq514 hK515) hq528 hK529) hq542 hK543) hq556 hK557) hq570 hK571) hq584 hK585) hq598 hK599) hq612 hK613) hq626 hK627) hq640 hK641) hq654 hK655) hq668 hK669) hq682 hK683) hq696 hK697) hq710 hK711) hq724 hK725) hq738 hK739) hq752 hK753) hq766 hK767) hq780 hK781) hq794 hK795) hq808 hK809) hq822 hK823) hq836 hK837) hq850 hK851) hq864 hK865) hq878 hK879) hq892 hK893) hq906 hK907) hq920 hK921) hq934 hK935) hq948 hK949) hq962 hK963) hq976 hK977) hq990 hK991) hq1004 hK1005) hq1018 hK1019) hq1032 hK1033) hq1046 hK1047) hq1060 hK1061) hq1074 hK1075) hq1088 hK1089) hq1102 hK1103) hq1116 hK1117) hq1130 hK1131) hq1144 hK1145) hq1158 hK1159) hq1172 hK1173) hq1186 hK1187) hq1200 hK1201) hq1214 hK1215) hq1231 hK1232) hq1245 hK1246) hq1259 hK1260) hq1273 hK1274) hq1287 hK1288) hq1301 hK1302) hq1315 hK1316) hq1329 hK1330) hq1343 hK1344) hq1357 hK1358) hq1371 hK1372) hq1385 hK1386) hq1399 hK1400) hq1413 hK1414) hq1430 hK1431) hq1450 hK1451) hq1470 hK1471) hq1490 hK1491) hq1510 hK1511) h1516 hq1530
  clear pf1525 kz1519 hz1526 kz1521 hz1527
  refine GO.putRF rfl rfl (by decide +kernel) h1536 fp_raw_fp_RX12_340 rfl rfl dX12_init_906 (fun V1544 e1543 => ?_)
  have pf1545 := PF.put pf1537 e1543 rfl
  have hz1546 : ∀ j, V1544 o1411 j = .int 0 := fun j => (uq_ne e1543 (Or.inl (K_ne kz1539 h1536 (by decide)))).trans (hz1538 j)
  have hz1547 : ∀ j, V1544 o1428 j = .int 0 := fun j => (uq_ne e1543 (Or.inl (K_ne kz1541 h1536 (by decide)))).trans (hz1540 j)
  clear pf1537 hz1538 hz1540
  refine GO.aload_n dX12_init_909 rfl rfl ?_
  refine GO.bipush dX12_init_910 rfl ?_
  refine GO.newT (atype := .int) 116 8 gw_89 rfl rfl (fun _ _ h => h) rfl rfl rfl (Or.inr rfl) (fun _ => okv_df rfl rfl rfl) rfl rfl dX12_init_912 (fun o1548 K1549 V1555 hq1550 hK1551 hE1552 h1553 _ hV1554 => ?_)
  have h1556 := (by rw [hK1551, updK_ne (K_old h1536 hq1550)]; exact h1536 : K1549 x = some (0, 23))
  have pf1557 := PF.nw pf1545 hV1554 (K_old h1536 hq1550)
  have kz1559 := hE1552.arr kz1539
  have hz1558 : ∀ j, V1555 o1411 j = .int 0 := fun j => (congrFun (hV1554 _ (K_old kz1539 hq1550)) j).trans (hz1546 j)
  have kz1561 := hE1552.arr kz1541
  have hz1560 : ∀ j, V1555 o1428 j = .int 0 := fun j => (congrFun (hV1554 _ (K_old kz1541 hq1550)) j).trans (hz1547 j)
  have h1562 := KE.nw (KE.new (KE.new (KE.new (KE.new (KE.new (KE.new (KE.new (KE.new (KE.new (KE.new (KE.new (KE.new (KE.new (KE.new (KE.new (KE.new (KE.new (KE.new (KE.new (KE.new (KE.new (KE.new (KE.new (KE.new (KE.new (KE.new (KE.new (KE.new (KE.new (KE.new (KE.new (KE.new (KE.new (KE.new (KE.new (KE.new (KE.new (KE.new (KE.new (KE.new (KE.new (KE.new (KE.new (KE.new (KE.new (KE.new (KE.new (KE.new (KE.new (KE.new (KE.new (KE.new (KE.new (KE.new (KE.new (KE.new (KE.new (KE.new (KE.new (KE.new (KE.new (KE.new (KE.new (KE.new (KE.new (KE.new (KE.new (KE.new (KE.new (KE.new (KE.new (KE.new (KE.new (KE.new (KE.new (KE.new (KE.new (KE.new (KE.new (KE.new (KE.new (KE.new (KE.new (KE.new (KE.new (KE.new (KE.new (KE.new (KE.new (KE.new (KE.new (KE.new (KE.new (KE.new (KE.new (KE.new (KE.new (KE.new (KE.new (KE.new (KE.new (KE.new (KE.new (KE.new (KE.new (KE.new (KE.new KE.rf hq10 hK11) hq24 hK25) hq38 hK39) hq52 hK53) hq66 hK67) hq80 hK81) hq94 hK95) hq108 hK109) hq122 hK123) hq136 hK137) hq150 hK151) hq164 hK165) hq178 hK179) hq192 hK193) hq206 hK207) hq220 hK221) hq234 hK235) hq248 hK249) hq262 hK263) hq276 hK277) hq290 hK291) hq304 hK305) hq318 hK319) hq332 hK333) hq346 hK347) hq360 hK361) hq374 hK375) hq388 hK389) hq402 hK403) hq416 hK417) hq430 hK431) hq444 hK445) hq458 hK459) hq472 hK473) hq486 hK487) hq500 hK501) hq514 hK515) hq528 hK529) hq542 hK543) hq556 hK557) hq570 hK571) hq584 hK585) hq598 hK599) hq612 hK613) hq626 hK627) hq640 hK641) hq654 hK655) hq668 hK669) hq682 hK683) hq696 hK697) hq710 hK711) hq724 hK725) hq738 hK739) hq752 hK753) hq766 hK767) hq780 hK781) hq794 hK795) hq808 hK809) hq822 hK823) hq836 hK837) hq850 hK851) hq864 hK865) hq878 hK879) hq892 hK893) hq906 hK907) hq920 hK921) hq934 hK935) hq948 hK949) hq962 hK963) hq976 hK977) hq990 hK991) hq1004 hK1005) hq1018 hK1019) hq1032 hK1033) hq1046 hK1047) hq1060 hK1061) hq1074 hK1075) hq1088 hK1089) hq1102 hK1103) hq1116 hK1117) hq1130 hK1131) hq1144 hK1145) hq1158 hK1159) hq1172 hK1173) hq1186 hK1187) hq1200 hK1201) hq1214 hK1215) hq1231 hK1232) hq1245 hK1246) hq1259 hK1260) hq1273 hK1274) hq1287 hK1288) hq1301 hK1302) hq1315 hK1316) hq1329 hK1330) hq1343 hK1344) hq1357 hK1358) hq1371 hK1372) hq1385 hK1386) hq1399 hK1400) hq1413 hK1414) hq1430 hK1431) hq1450 hK1451) hq1470 hK1471) hq1490 hK1491) hq1510 hK1511) hq1530 hK1531) h1536 hq1550
  clear pf1545 kz1539 hz1546 kz1541 hz1547
  refine GO.putRF rfl rfl (by decide +kernel) h1556 fp_raw_fp_RX12_343 rfl rfl dX12_init_914 (fun V1564 e1563 => ?_)
  have pf1565 := PF.put pf1557 e1563 rfl
  have hz1566 : ∀ j, V1564 o1411 j = .int 0 := fun j => (uq_ne e1563 (Or.inl (K_ne kz1559 h1556 (by decide)))).trans (hz1558 j)
  have hz1567 : ∀ j, V1564 o1428 j = .int 0 := fun j => (uq_ne e1563 (Or.inl (K_ne kz1561 h1556 (by decide)))).trans (hz1560 j)
  clear pf1557 hz1558 hz1560
  refine GO.aload_n dX12_init_917 rfl rfl ?_
  refine GO.sipush dX12_init_918 rfl ?_
  refine GO.newT (atype := .int) 117 200 gw_89 rfl rfl (fun _ _ h => h) rfl rfl rfl (Or.inr rfl) (fun _ => okv_df rfl rfl rfl) rfl rfl dX12_init_921 (fun o1568 K1569 V1575 hq1570 hK1571 hE1572 h1573 _ hV1574 => ?_)
  have h1576 := (by rw [hK1571, updK_ne (K_old h1556 hq1570)]; exact h1556 : K1569 x = some (0, 23))
  have pf1577 := PF.nw pf1565 hV1574 (K_old h1556 hq1570)
  have kz1579 := hE1572.arr kz1559
  have hz1578 : ∀ j, V1575 o1411 j = .int 0 := fun j => (congrFun (hV1574 _ (K_old kz1559 hq1570)) j).trans (hz1566 j)
  have kz1581 := hE1572.arr kz1561
  have hz1580 : ∀ j, V1575 o1428 j = .int 0 := fun j => (congrFun (hV1574 _ (K_old kz1561 hq1570)) j).trans (hz1567 j)
  have h1582 := KE.nw (KE.new (KE.new (KE.new (KE.new (KE.new (KE.new (KE.new (KE.new (KE.new (KE.new (KE.new (KE.new (KE.new (KE.new (KE.new (KE.new (KE.new (KE.new (KE.new (KE.new (KE.new (KE.new (KE.new (KE.new (KE.new (KE.new (KE.new (KE.new (KE.new (KE.new (KE.new (KE.new (KE.new (KE.new (KE.new (KE.new (KE.new (KE.new (KE.new (KE.new (KE.new (KE.new (KE.new (KE.new (KE.new (KE.new (KE.new (KE.new (KE.new (KE.new (KE.new (KE.new (KE.new (KE.new (KE.new (KE.new (KE.new (KE.new (KE.new (KE.new (KE.new (KE.new (KE.new (KE.new (KE.new (KE.new (KE.new (KE.new (KE.new (KE.new (KE.new (KE.new (KE.new (KE.new (KE.new (KE.new (KE.new (KE.new (KE.new (KE.new (KE.new (KE.new (KE.new (KE.new (KE.new (KE.new (KE.new (KE.new (KE.new (KE.new (KE.new (KE.new (KE.new (KE.new (KE.new (KE.new (KE.new (KE.new (KE.new (KE.new (KE.new (KE.new (KE.new (KE.new (KE.new (KE.new (KE.new (KE.new KE.rf hq10 hK11) hq24 hK25) hq38 hK39) hq52 hK53) hq66 hK67) hq80 hK81) hq94 hK95) hq108 hK109) hq122 hK123) hq136 hK137) hq150 hK151) hq164 hK165) hq178 hK179) hq192 hK193) hq206 hK207) hq220 hK221) hq234 hK235) hq248 hK249) hq262 hK263) hq276 hK277) hq290 hK291) hq304 hK305) hq318 hK319) hq332 hK333) hq346 hK347) hq360 hK361) hq374 hK375) hq388 hK389) hq402 hK403) hq416 hK417) hq430 hK431) hq444 hK445) hq458 hK459) hq472 hK473) hq486 hK487) hq500 hK501) hq514 hK515) hq528 hK529) hq542 hK543) hq556 hK557) hq570 hK571) hq584 hK585) hq598 hK599) hq612 hK613) hq626 hK627) hq640 hK641) hq654 hK655) hq668 hK669) hq682 hK683) hq696 hK697) hq710 hK711) hq724 hK725) hq738 hK739) hq752 hK753) hq766 hK767) hq780 hK781) hq794 hK795) hq808 hK809) hq822 hK823) hq836 hK837) hq850 hK851) hq864 hK865) hq878 hK879) hq892 hK893) hq906 hK907) hq920 hK921) hq934 hK935) hq948 hK949) hq962 hK963) hq976 hK977) hq990 hK991) hq1004 hK1005) hq1018 hK1019) hq1032 hK1033) hq1046 hK1047) hq1060 hK1061) hq1074 hK1075) hq1088 hK1089) hq1102 hK1103) hq1116 hK1117) hq1130 hK1131) hq1144 hK1145) hq1158 hK1159) hq1172 hK1173) hq1186 hK1187) hq1200 hK1201) hq1214 hK1215) hq1231 hK1232) hq1245 hK1246) hq1259 hK1260) hq1273 hK1274) hq1287 hK1288) hq1301 hK1302) hq1315 hK1316) hq1329 hK1330) hq1343 hK1344) hq1357 hK1358) hq1371 hK1372) hq1385 hK1386) hq1399 hK1400) hq1413 hK1414) hq1430 hK1431) hq1450 hK1451) hq1470 hK1471) hq1490 hK1491) hq1510 hK1511) hq1530 hK1531) hq1550 hK1551) h1556 hq1570
  clear pf1565 kz1559 hz1566 kz1561 hz1567
  refine GO.putRF rfl rfl (by decide +kernel) h1576 fp_raw_fp_RX12_346 rfl rfl dX12_init_923 (fun V1584 e1583 => ?_)
  have pf1585 := PF.put pf1577 e1583 rfl
  have hz1586 : ∀ j, V1584 o1411 j = .int 0 := fun j => (uq_ne e1583 (Or.inl (K_ne kz1579 h1576 (by decide)))).trans (hz1578 j)
  have hz1587 : ∀ j, V1584 o1428 j = .int 0 := fun j => (uq_ne e1583 (Or.inl (K_ne kz1581 h1576 (by decide)))).trans (hz1580 j)
  clear pf1577 hz1578 hz1580
  refine GO.aload_n dX12_init_926 rfl rfl ?_
  refine GO.sipush dX12_init_927 rfl ?_
  refine GO.newT (atype := .int) 118 200 gw_89 rfl rfl (fun _ _ h => h) rfl rfl rfl (Or.inr rfl) (fun _ => okv_df rfl rfl rfl) rfl rfl dX12_init_930 (fun o1588 K1589 V1595 hq1590 hK1591 hE1592 h1593 _ hV1594 => ?_)
  have h1596 := (by rw [hK1591, updK_ne (K_old h1576 hq1590)]; exact h1576 : K1589 x = some (0, 23))
  have pf1597 := PF.nw pf1585 hV1594 (K_old h1576 hq1590)
  have kz1599 := hE1592.arr kz1579
  have hz1598 : ∀ j, V1595 o1411 j = .int 0 := fun j => (congrFun (hV1594 _ (K_old kz1579 hq1590)) j).trans (hz1586 j)
  have kz1601 := hE1592.arr kz1581
  have hz1600 : ∀ j, V1595 o1428 j = .int 0 := fun j => (congrFun (hV1594 _ (K_old kz1581 hq1590)) j).trans (hz1587 j)
  have h1602 := KE.nw (KE.new (KE.new (KE.new (KE.new (KE.new (KE.new (KE.new (KE.new (KE.new (KE.new (KE.new (KE.new (KE.new (KE.new (KE.new (KE.new (KE.new (KE.new (KE.new (KE.new (KE.new (KE.new (KE.new (KE.new (KE.new (KE.new (KE.new (KE.new (KE.new (KE.new (KE.new (KE.new (KE.new (KE.new (KE.new (KE.new (KE.new (KE.new (KE.new (KE.new (KE.new (KE.new (KE.new (KE.new (KE.new (KE.new (KE.new (KE.new (KE.new (KE.new (KE.new (KE.new (KE.new (KE.new (KE.new (KE.new (KE.new (KE.new (KE.new (KE.new (KE.new (KE.new (KE.new (KE.new (KE.new (KE.new (KE.new (KE.new (KE.new (KE.new (KE.new (KE.new (KE.new (KE.new (KE.new (KE.new (KE.new (KE.new (KE.new (KE.new (KE.new (KE.new (KE.new (KE.new (KE.new (KE.new (KE.new (KE.new (KE.new (KE.new (KE.new (KE.new (KE.new (KE.new (KE.new (KE.new (KE.new (KE.new (KE.new (KE.new (KE.new (KE.new (KE.new (KE.new (KE.new (KE.new (KE.new (KE.new (KE.new KE.rf hq10 hK11) hq24 hK25) hq38 hK39) hq52 hK53) hq66 hK67) hq80 hK81) hq94 hK95) hq108 hK109) hq122 hK123) hq136 hK137) hq150 hK151) hq164 hK165) hq178 hK179) hq192 hK193) hq206 hK207) hq220 hK221) hq234 hK235) hq248 hK249) hq262 hK263) hq276 hK277) hq290 hK291) hq304 hK305) hq318 hK319) hq332 hK333) hq346 hK347) hq360 hK361) hq374 hK375) hq388 hK389) hq402 hK403) hq416 hK417) hq430 hK431) hq444 hK445) hq458 hK459) hq472 hK473) hq486 hK487) hq500 hK501) hq514 hK515) hq528 hK529) hq542 hK543) hq556 hK557) hq570 hK571) hq584 hK585) hq598 hK599) hq612 hK613) hq626 hK627) hq640 hK641) hq654 hK655) hq668 hK669) hq682 hK683) hq696 hK697) hq710 hK711) hq724 hK725) hq738 hK739) hq752 hK753) hq766 hK767) hq780 hK781) hq794 hK795) hq808 hK809) hq822 hK823) hq836 hK837) hq850 hK851) hq864 hK865) hq878 hK879) hq892 hK893) hq906 hK907) hq920 hK921) hq934 hK935) hq948 hK949) hq962 hK963) hq976 hK977) hq990 hK991) hq1004 hK1005) hq1018 hK1019) hq1032 hK1033) hq1046 hK1047) hq1060 hK1061) hq1074 hK1075) hq1088 hK1089) hq1102 hK1103) hq1116 hK1117) hq1130 hK1131) hq1144 hK1145) hq1158 hK1159) hq1172 hK1173) hq1186 hK1187) hq1200 hK1201) hq1214 hK1215) hq1231 hK1232) hq1245 hK1246) hq1259 hK1260) hq1273 hK1274) hq1287 hK1288) hq1301 hK1302) hq1315 hK1316) hq1329 hK1330) hq1343 hK1344) hq1357 hK1358) hq1371 hK1372) hq1385 hK1386) hq1399 hK1400) hq1413 hK1414) hq1430 hK1431) hq1450 hK1451) hq1470 hK1471) hq1490 hK1491) hq1510 hK1511) hq1530 hK1531) hq1550 hK1551) hq1570 hK1571) h1576 hq1590
  clear pf1585 kz1579 hz1586 kz1581 hz1587
  refine GO.putRF rfl rfl (by decide +kernel) h1596 fp_raw_fp_RX12_349 rfl rfl dX12_init_932 (fun V1604 e1603 => ?_)
  have pf1605 := PF.put pf1597 e1603 rfl
  have hz1606 : ∀ j, V1604 o1411 j = .int 0 := fun j => (uq_ne e1603 (Or.inl (K_ne kz1599 h1596 (by decide)))).trans (hz1598 j)
  have hz1607 : ∀ j, V1604 o1428 j = .int 0 := fun j => (uq_ne e1603 (Or.inl (K_ne kz1601 h1596 (by decide)))).trans (hz1600 j)
  clear pf1597 hz1598 hz1600
  refine GO.aload_n dX12_init_935 rfl rfl ?_
  refine GO.sipush dX12_init_936 rfl ?_
  refine GO.newT (atype := .int) 119 200 gw_89 rfl rfl (fun _ _ h => h) rfl rfl rfl (Or.inr rfl) (fun _ => okv_df rfl rfl rfl) rfl rfl dX12_init_939 (fun o1608 K1609 V1615 hq1610 hK1611 hE1612 h1613 _ hV1614 => ?_)
  have h1616 := (by rw [hK1611, updK_ne (K_old h1596 hq1610)]; exact h1596 : K1609 x = some (0, 23))
  have pf1617 := PF.nw pf1605 hV1614 (K_old h1596 hq1610)
  have kz1619 := hE1612.arr kz1599
  have hz1618 : ∀ j, V1615 o1411 j = .int 0 := fun j => (congrFun (hV1614 _ (K_old kz1599 hq1610)) j).trans (hz1606 j)
  have kz1621 := hE1612.arr kz1601
  have hz1620 : ∀ j, V1615 o1428 j = .int 0 := fun j => (congrFun (hV1614 _ (K_old kz1601 hq1610)) j).trans (hz1607 j)
  have h1622 := KE.nw (KE.new (KE.new (KE.new (KE.new (KE.new (KE.new (KE.new (KE.new (KE.new (KE.new (KE.new (KE.new (KE.new (KE.new (KE.new (KE.new (KE.new (KE.new (KE.new (KE.new (KE.new (KE.new (KE.new (KE.new (KE.new (KE.new (KE.new (KE.new (KE.new (KE.new (KE.new (KE.new (KE.new (KE.new (KE.new (KE.new (KE.new (KE.new (KE.new (KE.new (KE.new (KE.new (KE.new (KE.new (KE.new (KE.new (KE.new (KE.new (KE.new (KE.new (KE.new (KE.new (KE.new (KE.new (KE.new (KE.new (KE.new (KE.new (KE.new (KE.new (KE.new (KE.new (KE.new (KE.new (KE.new (KE.new (KE.new (KE.new (KE.new (KE.new (KE.new (KE.new (KE.new (KE.new (KE.new (KE.new (KE.new (KE.new (KE.new (KE.new (KE.new (KE.new (KE.new (KE.new (KE.new (KE.new (KE.new (KE.new (KE.new (KE.new (KE.new (KE.new (KE.new (KE.new (KE.new (KE.new (KE.new (KE.new (KE.new (KE.new (KE.new (KE.new (KE.new (KE.new (KE.new (KE.new (KE.new (KE.new (KE.new (KE.new KE.rf hq10 hK11) hq24 hK25) hq38 hK39) hq52 hK53) hq66 hK67) hq80 hK81) hq94 hK95) hq108 hK109) hq122 hK123) hq136 hK137) hq150 hK151) hq164 hK165) hq178 hK179) hq192 hK193) hq206 hK207) hq220 hK221) hq234 hK235) hq248 hK249) hq262 hK263) hq276 hK277) hq290 hK291) hq304 hK305) hq318 hK319) hq332 hK333) hq346 hK347) hq360 hK361) hq374 hK375) hq388 hK389) hq402 hK403) hq416 hK417) hq430 hK431) hq444 hK445) hq458 hK459) hq472 hK473) hq486 hK487) hq500 hK501) hq514 hK515) hq528 hK529) hq542 hK543) hq556 hK557) hq570 hK571) hq584 hK585) hq598 hK599) hq612 hK613) hq626 hK627) hq640 hK641) hq654 hK655) hq668 hK669) hq682 hK683) hq696 hK697) hq710 hK711) hq724 hK725) hq738 hK739) hq752 hK753) hq766 hK767) hq780 hK781) hq794 hK795) hq808 hK809) hq822 hK823) hq836 hK837) hq850 hK851) hq864 hK865) hq878 hK879) hq892 hK893) hq906 hK907) hq920 hK921) hq934 hK935) hq948 hK949) hq962 hK963) hq976 hK977) hq990 hK991) hq1004 hK1005) hq1018 hK1019) hq1032 hK1033) hq1046 hK1047) hq1060 hK1061) hq1074 hK1075) hq1088 hK1089) hq1102 hK1103) hq1116 hK1117) hq1130 hK1131) hq1144 hK1145) hq1158 hK1159) hq1172 hK1173) hq1186 hK1187) hq1200 hK1201) hq1214 hK1215) hq1231 hK1232) hq1245 hK1246) hq1259 hK1260) hq1273 hK1274) hq1287 hK1288) hq1301 hK1302) hq1315 hK1316) hq1329 hK1330) hq1343 hK1344) hq1357 hK1358) hq1371 hK1372) hq1385 hK1386) hq1399 hK1400) hq1413 hK1414) hq1430 hK1431) hq1450 hK1451) hq1470 hK1471) hq1490 hK1491) hq1510 hK1511) hq1530 hK1531) hq1550 hK1551) hq1570 hK1571) hq1590 hK1591) h1596 hq1610
  clear pf1605 kz1599 hz1606 kz1601 hz1607
  refine GO.putRF rfl rfl (by decide +kernel) h1616 fp_raw_fp_RX12_352 rfl rfl dX12_init_941 (fun V1624 e1623 => ?_)
  have pf1625 := PF.put pf1617 e1623 rfl
  have hz1626 : ∀ j, V1624 o1411 j = .int 0 := fun j => (uq_ne e1623 (Or.inl (K_ne kz1619 h1616 (by decide)))).trans (hz1618 j)
  have hz1627 : ∀ j, V1624 o1428 j = .int 0 := fun j => (uq_ne e1623 (Or.inl (K_ne kz1621 h1616 (by decide)))).trans (hz1620 j)
  clear pf1617 hz1618 hz1620
  refine GO.aload_n dX12_init_944 rfl rfl ?_
  refine GO.sipush dX12_init_945 rfl ?_
  refine GO.newT (atype := .int) 120 200 gw_89 rfl rfl (fun _ _ h => h) rfl rfl rfl (Or.inr rfl) (fun _ => okv_df rfl rfl rfl) rfl rfl dX12_init_948 (fun o1628 K1629 V1635 hq1630 hK1631 hE1632 h1633 _ hV1634 => ?_)
  have h1636 := (by rw [hK1631, updK_ne (K_old h1616 hq1630)]; exact h1616 : K1629 x = some (0, 23))
  have pf1637 := PF.nw pf1625 hV1634 (K_old h1616 hq1630)
  have kz1639 := hE1632.arr kz1619
  have hz1638 : ∀ j, V1635 o1411 j = .int 0 := fun j => (congrFun (hV1634 _ (K_old kz1619 hq1630)) j).trans (hz1626 j)
  have kz1641 := hE1632.arr kz1621
  have hz1640 : ∀ j, V1635 o1428 j = .int 0 := fun j => (congrFun (hV1634 _ (K_old kz1621 hq1630)) j).trans (hz1627 j)
  have h1642 := KE.nw (KE.new (KE.new (KE.new (KE.new (KE.new (KE.new (KE.new (KE.new (KE.new (KE.new (KE.new (KE.new (KE.new (KE.new (KE.new (KE.new (KE.new (KE.new (KE.new (KE.new (KE.new (KE.new (KE.new (KE.new (KE.new (KE.new (KE.new (KE.new (KE.new (KE.new (KE.new (KE.new (KE.new (KE.new (KE.new (KE.new (KE.new (KE.new (KE.new (KE.new (KE.new (KE.new (KE.new (KE.new (KE.new (KE.new (KE.new (KE.new (KE.new (KE.new (KE.new (KE.new (KE.new (KE.new (KE.new (KE.new (KE.new (KE.new (KE.new (KE.new (KE.new (KE.new (KE.new (KE.new (KE.new (KE.new (KE.new (KE.new (KE.new (KE.new (KE.new (KE.new (KE.new (KE.new (KE.new (KE.new (KE.new (KE.new (KE.new (KE.new (KE.new (KE.new (KE.new (KE.new (KE.new (KE.new (KE.new (KE.new (KE.new (KE.new (KE.new (KE.new (KE.new (KE.new (KE.new (KE.new (KE.new (KE.new (KE.new (KE.new (KE.new (KE.new (KE.new (KE.new (KE.new (KE.new (KE.new (KE.new (KE.new (KE.new (KE.new KE.rf hq10 hK11) hq24 hK25) hq38 hK39) hq52 hK53) hq66 hK67) hq80 hK81) hq94 hK95) hq108 hK109) hq122 hK123) hq136 hK137) hq150 hK151) hq164 hK165) hq178 hK179) hq192 hK193) hq206 hK207) hq220 hK221) hq234 hK235) hq248 hK249) hq262 hK263) hq276 hK277) hq290 hK291) hq304 hK305) hq318 hK319) hq332 hK333) hq346 hK347) hq360 hK361) hq374 hK375) hq388 hK389) hq402 hK403) hq416 hK417) hq430 hK431) hq444 hK445) hq458 hK459) hq472 hK473) hq486 hK487) hq500 hK501) hq514 hK515) hq528 hK529) hq542 hK543) hq556 hK557) hq570 hK571) hq584 hK585) hq598 hK599) hq612 hK613) hq626 hK627) hq640 hK641) hq654 hK655) hq668 hK669) hq682 hK683) hq696 hK697) hq710 hK711) hq724 hK725) hq738 hK739) hq752 hK753) hq766 hK767) hq780 hK781) hq794 hK795) hq808 hK809) hq822 hK823) hq836 hK837) hq850 hK851) hq864 hK865) hq878 hK879) hq892 hK893) hq906 hK907) hq920 hK921) hq934 hK935) hq948 hK949) hq962 hK963) hq976 hK977) hq990 hK991) hq1004 hK1005) hq1018 hK1019) hq1032 hK1033) hq1046 hK1047) hq1060 hK1061) hq1074 hK1075) hq1088 hK1089) hq1102 hK1103) hq1116 hK1117) hq1130 hK1131) hq1144 hK1145) hq1158 hK1159) hq1172 hK1173) hq1186 hK1187) hq1200 hK1201) hq1214 hK1215) hq1231 hK1232) hq1245 hK1246) hq1259 hK1260) hq1273 hK1274) hq1287 hK1288) hq1301 hK1302) hq1315 hK1316) hq1329 hK1330) hq1343 hK1344) hq1357 hK1358) hq1371 hK1372) hq1385 hK1386) hq1399 hK1400) hq1413 hK1414) hq1430 hK1431) hq1450 hK1451) hq1470 hK1471) hq1490 hK1491) hq1510 hK1511) hq1530 hK1531) hq1550 hK1551) hq1570 hK1571) hq1590 hK1591) hq1610 hK1611) h1616 hq1630
  clear pf1625 kz1619 hz1626 kz1621 hz1627
  refine GO.putRF rfl rfl (by decide +kernel) h1636 fp_raw_fp_RX12_355 rfl rfl dX12_init_950 (fun V1644 e1643 => ?_)
  have pf1645 := PF.put pf1637 e1643 rfl
  have hz1646 : ∀ j, V1644 o1411 j = .int 0 := fun j => (uq_ne e1643 (Or.inl (K_ne kz1639 h1636 (by decide)))).trans (hz1638 j)
  have hz1647 : ∀ j, V1644 o1428 j = .int 0 := fun j => (uq_ne e1643 (Or.inl (K_ne kz1641 h1636 (by decide)))).trans (hz1640 j)
  clear pf1637 hz1638 hz1640
  refine GO.aload_n dX12_init_953 rfl rfl ?_
  refine GO.sipush dX12_init_954 rfl ?_
  refine GO.newT (atype := .boolean) 121 200 gw_1936 rfl rfl (fun _ _ h => h) rfl rfl rfl (Or.inr rfl) (fun _ => okv_df rfl rfl rfl) rfl rfl dX12_init_957 (fun o1648 K1649 V1655 hq1650 hK1651 hE1652 h1653 _ hV1654 => ?_)
  have h1656 := (by rw [hK1651, updK_ne (K_old h1636 hq1650)]; exact h1636 : K1649 x = some (0, 23))
  have pf1657 := PF.nw pf1645 hV1654 (K_old h1636 hq1650)
  have kz1659 := hE1652.arr kz1639
  have hz1658 : ∀ j, V1655 o1411 j = .int 0 := fun j => (congrFun (hV1654 _ (K_old kz1639 hq1650)) j).trans (hz1646 j)
  have kz1661 := hE1652.arr kz1641
  have hz1660 : ∀ j, V1655 o1428 j = .int 0 := fun j => (congrFun (hV1654 _ (K_old kz1641 hq1650)) j).trans (hz1647 j)
  have h1662 := KE.nw (KE.new (KE.new (KE.new (KE.new (KE.new (KE.new (KE.new (KE.new (KE.new (KE.new (KE.new (KE.new (KE.new (KE.new (KE.new (KE.new (KE.new (KE.new (KE.new (KE.new (KE.new (KE.new (KE.new (KE.new (KE.new (KE.new (KE.new (KE.new (KE.new (KE.new (KE.new (KE.new (KE.new (KE.new (KE.new (KE.new (KE.new (KE.new (KE.new (KE.new (KE.new (KE.new (KE.new (KE.new (KE.new (KE.new (KE.new (KE.new (KE.new (KE.new (KE.new (KE.new (KE.new (KE.new (KE.new (KE.new (KE.new (KE.new (KE.new (KE.new (KE.new (KE.new (KE.new (KE.new (KE.new (KE.new (KE.new (KE.new (KE.new (KE.new (KE.new (KE.new (KE.new (KE.new (KE.new (KE.new (KE.new (KE.new (KE.new (KE.new (KE.new (KE.new (KE.new (KE.new (KE.new (KE.new (KE.new (KE.new (KE.new (KE.new (KE.new (KE.new (KE.new (KE.new (KE.new (KE.new (KE.new (KE.new (KE.new (KE.new (KE.new (KE.new (KE.new (KE.new (KE.new (KE.new (KE.new (KE.new (KE.new (KE.new (KE.new (KE.new KE.rf hq10 hK11) hq24 hK25) hq38 hK39) hq52 hK53) hq66 hK67) hq80 hK81) hq94 hK95) hq108 hK109) hq122 hK123) hq136 hK137) hq150 hK151) hq164 hK165) hq178 hK179) hq192 hK193) hq206 hK207) hq220 hK221) hq234 hK235) hq248 hK249) hq262 hK263) hq276 hK277) hq290 hK291) hq304 hK305) hq318 hK319) hq332 hK333) hq346 hK347) hq360 hK361) hq374 hK375) hq388 hK389) hq402 hK403) hq416 hK417) hq430 hK431) hq444 hK445) hq458 hK459) hq472 hK473) hq486 hK487) hq500 hK501) hq514 hK515) hq528 hK529) hq542 hK543) hq556 hK557) hq570 hK571) hq584 hK585) hq598 hK599) hq612 hK613) hq626 hK627) hq640 hK641) hq654 hK655) hq668 hK669) hq682 hK683) hq696 hK697) hq710 hK711) hq724 hK725) hq738 hK739) hq752 hK753) hq766 hK767) hq780 hK781) hq794 hK795) hq808 hK809) hq822 hK823) hq836 hK837) hq850 hK851) hq864 hK865) hq878 hK879) hq892 hK893) hq906 hK907) hq920 hK921) hq934 hK935) hq948 hK949) hq962 hK963) hq976 hK977) hq990 hK991) hq1004 hK1005) hq1018 hK1019) hq1032 hK1033) hq1046 hK1047) hq1060 hK1061) hq1074 hK1075) hq1088 hK1089) hq1102 hK1103) hq1116 hK1117) hq1130 hK1131) hq1144 hK1145) hq1158 hK1159) hq1172 hK1173) hq1186 hK1187) hq1200 hK1201) hq1214 hK1215) hq1231 hK1232) hq1245 hK1246) hq1259 hK1260) hq1273 hK1274) hq1287 hK1288) hq1301 hK1302) hq1315 hK1316) hq1329 hK1330) hq1343 hK1344) hq1357 hK1358) hq1371 hK1372) hq1385 hK1386) hq1399 hK1400) hq1413 hK1414) hq1430 hK1431) hq1450 hK1451) hq1470 hK1471) hq1490 hK1491) hq1510 hK1511) hq1530 hK1531) hq1550 hK1551) hq1570 hK1571) hq1590 hK1591) hq1610 hK1611) hq1630 hK1631) h1636 hq1650
  clear pf1645 kz1639 hz1646 kz1641 hz1647
  refine GO.putRF rfl rfl (by decide +kernel) h1656 fp_raw_fp_RX12_358 rfl rfl dX12_init_959 (fun V1664 e1663 => ?_)
  have pf1665 := PF.put pf1657 e1663 rfl
  have hz1666 : ∀ j, V1664 o1411 j = .int 0 := fun j => (uq_ne e1663 (Or.inl (K_ne kz1659 h1656 (by decide)))).trans (hz1658 j)
  have hz1667 : ∀ j, V1664 o1428 j = .int 0 := fun j => (uq_ne e1663 (Or.inl (K_ne kz1661 h1656 (by decide)))).trans (hz1660 j)
  clear pf1657 hz1658 hz1660
  refine GO.aload_n dX12_init_962 rfl rfl ?_
  refine GO.bipush dX12_init_963 rfl ?_
  refine GO.bipush dX12_init_965 rfl ?_
  have E1668 := ext.tr hE1632 hE1652
  have E1669 := ext.tr hE1612 E1668
  have E1670 := ext.tr hE1592 E1669
  have E1671 := ext.tr hE1572 E1670
  have E1672 := ext.tr hE1552 E1671
  have E1673 := ext.tr hE1532 E1672
  have E1674 := ext.tr hE1512 E1673
  have E1675 := ext.tr hE1492 E1674
  have E1676 := ext.tr hE1472 E1675
  have E1677 := ext.tr hE1452 E1676
  have E1678 := ext.tr hE1432 E1677
  have E1679 := ext.tr hE1415 E1678
  have E1680 := ext.tr hE1401 E1679
  have E1681 := ext.tr hE1387 E1680
  have E1682 := ext.tr hE1373 E1681
  have E1683 := ext.tr hE1359 E1682
  have E1684 := ext.tr hE1345 E1683
  have E1685 := ext.tr hE1331 E1684
  have E1686 := ext.tr hE1317 E1685
  have E1687 := ext.tr hE1303 E1686
  have E1688 := ext.tr hE1289 E1687
  have E1689 := ext.tr hE1275 E1688
  have E1690 := ext.tr hE1261 E1689
  have E1691 := ext.tr hE1247 E1690
  have E1692 := ext.tr hE1233 E1691
  have E1693 := ext.tr hE1216 E1692
  have E1694 := ext.tr hE1202 E1693
  have E1695 := ext.tr hE1188 E1694
  have E1696 := ext.tr hE1174 E1695
  have E1697 := ext.tr hE1160 E1696
  have E1698 := ext.tr hE1146 E1697
  have E1699 := ext.tr hE1132 E1698
  have E1700 := ext.tr hE1118 E1699
  have E1701 := ext.tr hE1104 E1700
  have E1702 := ext.tr hE1090 E1701
  have E1703 := ext.tr hE1076 E1702
  have E1704 := ext.tr hE1062 E1703
  have E1705 := ext.tr hE1048 E1704
  have E1706 := ext.tr hE1034 E1705
  have E1707 := ext.tr hE1020 E1706
  have E1708 := ext.tr hE1006 E1707
  have E1709 := ext.tr hE992 E1708
  have E1710 := ext.tr hE978 E1709
  have E1711 := ext.tr hE964 E1710
  have E1712 := ext.tr hE950 E1711
  have E1713 := ext.tr hE936 E1712
  have E1714 := ext.tr hE922 E1713
  have E1715 := ext.tr hE908 E1714
  have E1716 := ext.tr hE894 E1715
  have E1717 := ext.tr hE880 E1716
  have E1718 := ext.tr hE866 E1717
  have E1719 := ext.tr hE852 E1718
  have E1720 := ext.tr hE838 E1719
  have E1721 := ext.tr hE824 E1720
  have E1722 := ext.tr hE810 E1721
  have E1723 := ext.tr hE796 E1722
  have E1724 := ext.tr hE782 E1723
  have E1725 := ext.tr hE768 E1724
  have E1726 := ext.tr hE754 E1725
  have E1727 := ext.tr hE740 E1726
  have E1728 := ext.tr hE726 E1727
  have E1729 := ext.tr hE712 E1728
  have E1730 := ext.tr hE698 E1729
  have E1731 := ext.tr hE684 E1730
  have E1732 := ext.tr hE670 E1731
  have E1733 := ext.tr hE656 E1732
  have E1734 := ext.tr hE642 E1733
  have E1735 := ext.tr hE628 E1734
  have E1736 := ext.tr hE614 E1735
  have E1737 := ext.tr hE600 E1736
  have E1738 := ext.tr hE586 E1737
  have E1739 := ext.tr hE572 E1738
  have E1740 := ext.tr hE558 E1739
  have E1741 := ext.tr hE544 E1740
  have E1742 := ext.tr hE530 E1741
  have E1743 := ext.tr hE516 E1742
  have E1744 := ext.tr hE502 E1743
  have E1745 := ext.tr hE488 E1744
  have E1746 := ext.tr hE474 E1745
  have E1747 := ext.tr hE460 E1746
  have E1748 := ext.tr hE446 E1747
  have E1749 := ext.tr hE432 E1748
  have E1750 := ext.tr hE418 E1749
  have E1751 := ext.tr hE404 E1750
  have E1752 := ext.tr hE390 E1751
  have E1753 := ext.tr hE376 E1752
  have E1754 := ext.tr hE362 E1753
  have E1755 := ext.tr hE348 E1754
  have E1756 := ext.tr hE334 E1755
  have E1757 := ext.tr hE320 E1756
  have E1758 := ext.tr hE306 E1757
  have E1759 := ext.tr hE292 E1758
  have E1760 := ext.tr hE278 E1759
  have E1761 := ext.tr hE264 E1760
  have E1762 := ext.tr hE250 E1761
  have E1763 := ext.tr hE236 E1762
  have E1764 := ext.tr hE222 E1763
  have E1765 := ext.tr hE208 E1764
  have E1766 := ext.tr hE194 E1765
  have E1767 := ext.tr hE180 E1766
  have E1768 := ext.tr hE166 E1767
  have E1769 := ext.tr hE152 E1768
  have E1770 := ext.tr hE138 E1769
  have E1771 := ext.tr hE124 E1770
  have E1772 := ext.tr hE110 E1771
  have E1773 := ext.tr hE96 E1772
  have E1774 := ext.tr hE82 E1773
  have E1775 := ext.tr hE68 E1774
  have E1776 := ext.tr hE54 E1775
  have E1777 := ext.tr hE40 E1776
  have E1778 := ext.tr hE26 E1777
  have E1779 := ext.tr hE12 E1778
  refine GO.callV (ci := 23) (N := mX12_begins_raw) dX12_init_967 (RX12, TX12, 151) rfl gV_RX12_361 h1656 (t_X12_begins_raw h1656 (PF.at pf1665 113 rfl) (E1778.arr h13) (PF.at pf1665 112 rfl) (E1777.arr h27) (PF.at pf1665 111 rfl) (E1776.arr h41) (PF.at pf1665 110 rfl) (E1775.arr h55) (ir_c rfl) (ir_c rfl)) rfl [] rfl rfl (Nat.le_of_ble_eq_true rfl) rfl (k_vs fun V1780 h1781 hF1782 => ?_)
  have pf1783 := PF.two pf1665 h1781.1 h1781.2.1 h1781.2.2 rfl rfl
  have hz1784 : ∀ j, V1780 o1411 j = .int 0 := fun j => (FRA hF1782 kz1659 kz1659 (by decide +kernel) j).trans (hz1666 j)
  have hz1785 : ∀ j, V1780 o1428 j = .int 0 := fun j => (FRA hF1782 kz1661 kz1661 (by decide +kernel) j).trans (hz1667 j)
  have E1786 := ext.tr hE1632 hE1652
  have E1787 := ext.tr hE1612 E1786
  have E1788 := ext.tr hE1592 E1787
  have E1789 := ext.tr hE1572 E1788
  have E1790 := ext.tr hE1552 E1789
  have E1791 := ext.tr hE1532 E1790
  have E1792 := ext.tr hE1512 E1791
  have E1793 := ext.tr hE1492 E1792
  have E1794 := ext.tr hE1472 E1793
  have E1795 := ext.tr hE1452 E1794
  have E1796 := ext.tr hE1432 E1795
  have E1797 := ext.tr hE1415 E1796
  have E1798 := ext.tr hE1401 E1797
  have E1799 := ext.tr hE1387 E1798
  have E1800 := ext.tr hE1373 E1799
  have E1801 := ext.tr hE1359 E1800
  have E1802 := ext.tr hE1345 E1801
  have E1803 := ext.tr hE1331 E1802
  have E1804 := ext.tr hE1317 E1803
  have E1805 := ext.tr hE1303 E1804
  have E1806 := ext.tr hE1289 E1805
  have E1807 := ext.tr hE1275 E1806
  have E1808 := ext.tr hE1261 E1807
  have E1809 := ext.tr hE1247 E1808
  have E1810 := ext.tr hE1233 E1809
  have E1811 := ext.tr hE1216 E1810
  have E1812 := ext.tr hE1202 E1811
  have E1813 := ext.tr hE1188 E1812
  have E1814 := ext.tr hE1174 E1813
  have E1815 := ext.tr hE1160 E1814
  have E1816 := ext.tr hE1146 E1815
  have E1817 := ext.tr hE1132 E1816
  have E1818 := ext.tr hE1118 E1817
  have E1819 := ext.tr hE1104 E1818
  have E1820 := ext.tr hE1090 E1819
  have E1821 := ext.tr hE1076 E1820
  have E1822 := ext.tr hE1062 E1821
  have E1823 := ext.tr hE1048 E1822
  have E1824 := ext.tr hE1034 E1823
  have E1825 := ext.tr hE1020 E1824
  have E1826 := ext.tr hE1006 E1825
  have E1827 := ext.tr hE992 E1826
  have E1828 := ext.tr hE978 E1827
  have E1829 := ext.tr hE964 E1828
  have E1830 := ext.tr hE950 E1829
  have E1831 := ext.tr hE936 E1830
  have E1832 := ext.tr hE922 E1831
  have E1833 := ext.tr hE908 E1832
  have E1834 := ext.tr hE894 E1833
  have E1835 := ext.tr hE880 E1834
  have E1836 := ext.tr hE866 E1835
  have E1837 := ext.tr hE852 E1836
  have E1838 := ext.tr hE838 E1837
  have E1839 := ext.tr hE824 E1838
  have E1840 := ext.tr hE810 E1839
  have E1841 := ext.tr hE796 E1840
  have E1842 := ext.tr hE782 E1841
  have E1843 := ext.tr hE768 E1842
  have E1844 := ext.tr hE754 E1843
  have E1845 := ext.tr hE740 E1844
  have E1846 := ext.tr hE726 E1845
  have E1847 := ext.tr hE712 E1846
  have E1848 := ext.tr hE698 E1847
  have E1849 := ext.tr hE684 E1848
  have E1850 := ext.tr hE670 E1849
  have E1851 := ext.tr hE656 E1850
  have E1852 := ext.tr hE642 E1851
  have E1853 := ext.tr hE628 E1852
  have E1854 := ext.tr hE614 E1853
  have E1855 := ext.tr hE600 E1854
  have E1856 := ext.tr hE586 E1855
  have E1857 := ext.tr hE572 E1856
  have E1858 := ext.tr hE558 E1857
  have E1859 := ext.tr hE544 E1858
  have E1860 := ext.tr hE530 E1859
  have E1861 := ext.tr hE516 E1860
  have E1862 := ext.tr hE502 E1861
  have E1863 := ext.tr hE488 E1862
  have E1864 := ext.tr hE474 E1863
  have E1865 := ext.tr hE460 E1864
  have E1866 := ext.tr hE446 E1865
  have E1867 := ext.tr hE432 E1866
  have E1868 := ext.tr hE418 E1867
  have E1869 := ext.tr hE404 E1868
  have E1870 := ext.tr hE390 E1869
  have E1871 := ext.tr hE376 E1870
  have E1872 := ext.tr hE362 E1871
  have E1873 := ext.tr hE348 E1872
  have E1874 := ext.tr hE334 E1873
  have E1875 := ext.tr hE320 E1874
  have E1876 := ext.tr hE306 E1875
  have E1877 := ext.tr hE292 E1876
  have E1878 := ext.tr hE278 E1877
  have E1879 := ext.tr hE264 E1878
  have E1880 := ext.tr hE250 E1879
  have E1881 := ext.tr hE236 E1880
  have E1882 := ext.tr hE222 E1881
  have E1883 := ext.tr hE208 E1882
  have E1884 := ext.tr hE194 E1883
  have E1885 := ext.tr hE180 E1884
  have E1886 := ext.tr hE166 E1885
  have E1887 := ext.tr hE152 E1886
  have E1888 := ext.tr hE138 E1887
  have E1889 := ext.tr hE124 E1888
  have E1890 := ext.tr hE110 E1889
  have E1891 := ext.tr hE96 E1890
  have E1892 := ext.tr hE82 E1891
  have E1893 := ext.tr hE68 E1892
  have E1894 := ext.tr hE54 E1893
  have E1895 := ext.tr hE40 E1894
  have E1896 := ext.tr hE26 E1895
  have E1897 := ext.tr hE12 E1896
  refine GO.promote (ci := 11) rfl h1656 (fun j hj => ?_) (fun K1898 e1899 hE1900 h1901 => ?_)
  ·
    have hj : j < 151 := hj
    match j, hj with
    | 0, _ => exact okv_at (PF.at pf1783 0 rfl) (ir_c rfl) (by decide) (by decide)
    | 1, _ => exact okv_at (PF.at pf1783 1 rfl) (ir_c rfl) (by decide) (by decide)
    | 2, _ => exact okv_df rfl rfl (PF.df pf1783 2 rfl rfl)
    | 3, _ => exact okv_at (PF.at pf1783 117 rfl) (ir_c rfl) (by decide) (by decide)
    | 4, _ => exact okv_at (PF.at pf1783 116 rfl) (ir_c rfl) (by decide) (by decide)
    | 5, _ => exact ⟨_, (PF.at pf1783 115 rfl), ⟨_, (E1896.arr h13)⟩⟩
    | 6, _ => exact ⟨_, (PF.at pf1783 114 rfl), ⟨_, (E1895.arr h27)⟩⟩
    | 7, _ => exact ⟨_, (PF.at pf1783 113 rfl), ⟨_, (E1894.arr h41)⟩⟩
    | 8, _ => exact ⟨_, (PF.at pf1783 112 rfl), ⟨_, (E1893.arr h55)⟩⟩
    | 9, _ => exact okv_df rfl rfl (PF.df pf1783 9 rfl rfl)
    | 10, _ => exact okv_df rfl rfl (PF.df pf1783 10 rfl rfl)
    | 11, _ => exact ⟨_, (PF.at pf1783 111 rfl), ⟨_, (E1892.arr h69)⟩⟩
    | 12, _ => exact ⟨_, (PF.at pf1783 110 rfl), ⟨_, (E1891.arr h83)⟩⟩
    | 13, _ => exact ⟨_, (PF.at pf1783 109 rfl), ⟨_, (E1890.arr h97)⟩⟩
    | 14, _ => exact ⟨_, (PF.at pf1783 108 rfl), ⟨_, (E1889.arr h111)⟩⟩
    | 15, _ => exact ⟨_, (PF.at pf1783 107 rfl), ⟨_, (E1888.arr h125)⟩⟩
    | 16, _ => exact ⟨_, (PF.at pf1783 106 rfl), ⟨_, (E1887.arr h139)⟩⟩
    | 17, _ => exact ⟨_, (PF.at pf1783 105 rfl), ⟨_, (E1886.arr h153)⟩⟩
    | 18, _ => exact ⟨_, (PF.at pf1783 104 rfl), ⟨_, (E1885.arr h167)⟩⟩
    | 19, _ => exact ⟨_, (PF.at pf1783 103 rfl), ⟨_, (E1884.arr h181)⟩⟩
    | 20, _ => exact ⟨_, (PF.at pf1783 102 rfl), ⟨_, (E1883.arr h195)⟩⟩
    | 21, _ => exact ⟨_, (PF.at pf1783 101 rfl), ⟨_, (E1882.arr h209)⟩⟩
    | 22, _ => exact ⟨_, (PF.at pf1783 100 rfl), ⟨_, (E1881.arr h223)⟩⟩
    | 23, _ => exact ⟨_, (PF.at pf1783 99 rfl), ⟨_, (E1880.arr h237)⟩⟩
    | 24, _ => exact ⟨_, (PF.at pf1783 98 rfl), ⟨_, (E1879.arr h251)⟩⟩
    | 25, _ => exact ⟨_, (PF.at pf1783 97 rfl), ⟨_, (E1878.arr h265)⟩⟩
    | 26, _ => exact ⟨_, (PF.at pf1783 96 rfl), ⟨_, (E1877.arr h279)⟩⟩
    | 27, _ => exact ⟨_, (PF.at pf1783 95 rfl), ⟨_, (E1876.arr h293)⟩⟩
    | 28, _ => exact ⟨_, (PF.at pf1783 94 rfl), ⟨_, (E1875.arr h307)⟩⟩
    | 29, _ => exact ⟨_, (PF.at pf1783 93 rfl), ⟨_, (E1874.arr h321)⟩⟩
    | 30, _ => exact okv_df rfl rfl (PF.df pf1783 30 rfl rfl)
    | 31, _ => exact okv_df rfl rfl (PF.df pf1783 31 rfl rfl)
    | 32, _ => exact okv_df rfl rfl (PF.df pf1783 32 rfl rfl)
    | 33, _ => exact okv_df rfl rfl (PF.df pf1783 33 rfl rfl)
    | 34, _ => exact okv_df rfl rfl (PF.df pf1783 34 rfl rfl)
    | 35, _ => exact okv_df rfl rfl (PF.df pf1783 35 rfl rfl)
    | 36, _ => exact okv_df rfl rfl (PF.df pf1783 36 rfl rfl)
    | 37, _ => exact okv_df rfl rfl (PF.df pf1783 37 rfl rfl)
    | 38, _ => exact okv_df rfl rfl (PF.df pf1783 38 rfl rfl)
    | 39, _ => exact ⟨_, (PF.at pf1783 92 rfl), ⟨_, (E1873.arr h335)⟩⟩
    | 40, _ => exact ⟨_, (PF.at pf1783 91 rfl), ⟨_, (E1872.arr h349)⟩⟩
    | 41, _ => exact ⟨_, (PF.at pf1783 90 rfl), ⟨_, (E1871.arr h363)⟩⟩
    | 42, _ => exact ⟨_, (PF.at pf1783 89 rfl), ⟨_, (E1870.arr h377)⟩⟩
    | 43, _ => exact ⟨_, (PF.at pf1783 88 rfl), ⟨_, (E1869.arr h391)⟩⟩
    | 44, _ => exact ⟨_, (PF.at pf1783 87 rfl), ⟨_, (E1868.arr h405)⟩⟩
    | 45, _ => exact ⟨_, (PF.at pf1783 86 rfl), ⟨_, (E1867.arr h419)⟩⟩
    | 46, _ => exact ⟨_, (PF.at pf1783 85 rfl), ⟨_, (E1866.arr h433)⟩⟩
    | 47, _ => exact okv_df rfl rfl (PF.df pf1783 47 rfl rfl)
    | 48, _ => exact okv_df rfl rfl (PF.df pf1783 48 rfl rfl)
    | 49, _ => exact ⟨_, (PF.at pf1783 84 rfl), ⟨_, (E1865.arr h447)⟩⟩
    | 50, _ => exact ⟨_, (PF.at pf1783 83 rfl), ⟨_, (E1864.arr h461)⟩⟩
    | 51, _ => exact ⟨_, (PF.at pf1783 82 rfl), ⟨_, (E1863.arr h475)⟩⟩
    | 52, _ => exact ⟨_, (PF.at pf1783 81 rfl), ⟨_, (E1862.arr h489)⟩⟩
    | 53, _ => exact ⟨_, (PF.at pf1783 80 rfl), ⟨_, (E1861.arr h503)⟩⟩
    | 54, _ => exact ⟨_, (PF.at pf1783 79 rfl), ⟨_, (E1860.arr h517)⟩⟩
    | 55, _ => exact ⟨_, (PF.at pf1783 78 rfl), ⟨_, (E1859.arr h531)⟩⟩
    | 56, _ => exact ⟨_, (PF.at pf1783 77 rfl), ⟨_, (E1858.arr h545)⟩⟩
    | 57, _ => exact ⟨_, (PF.at pf1783 76 rfl), ⟨_, (E1857.arr h559)⟩⟩
    | 58, _ => exact ⟨_, (PF.at pf1783 75 rfl), ⟨_, (E1856.arr h573)⟩⟩
    | 59, _ => exact ⟨_, (PF.at pf1783 74 rfl), ⟨_, (E1855.arr h587)⟩⟩
    | 60, _ => exact ⟨_, (PF.at pf1783 73 rfl), ⟨_, (E1854.arr h601)⟩⟩
    | 61, _ => exact ⟨_, (PF.at pf1783 72 rfl), ⟨_, (E1853.arr h615)⟩⟩
    | 62, _ => exact ⟨_, (PF.at pf1783 71 rfl), ⟨_, (E1852.arr h629)⟩⟩
    | 63, _ => exact ⟨_, (PF.at pf1783 70 rfl), ⟨_, (E1851.arr h643)⟩⟩
    | 64, _ => exact ⟨_, (PF.at pf1783 69 rfl), ⟨_, (E1850.arr h657)⟩⟩
    | 65, _ => exact ⟨_, (PF.at pf1783 68 rfl), ⟨_, (E1849.arr h671)⟩⟩
    | 66, _ => exact okv_df rfl rfl (PF.df pf1783 66 rfl rfl)
    | 67, _ => exact ⟨_, (PF.at pf1783 67 rfl), ⟨_, (E1848.arr h685)⟩⟩
    | 68, _ => exact ⟨_, (PF.at pf1783 66 rfl), ⟨_, (E1847.arr h699)⟩⟩
    | 69, _ => exact ⟨_, (PF.at pf1783 65 rfl), ⟨_, (E1846.arr h713)⟩⟩
    | 70, _ => exact ⟨_, (PF.at pf1783 64 rfl), ⟨_, (E1845.arr h727)⟩⟩
    | 71, _ => exact ⟨_, (PF.at pf1783 63 rfl), ⟨_, (E1844.arr h741)⟩⟩
    | 72, _ => exact ⟨_, (PF.at pf1783 62 rfl), ⟨_, (E1843.arr h755)⟩⟩
    | 73, _ => exact ⟨_, (PF.at pf1783 61 rfl), ⟨_, (E1842.arr h769)⟩⟩
    | 74, _ => exact ⟨_, (PF.at pf1783 60 rfl), ⟨_, (E1841.arr h783)⟩⟩
    | 75, _ => exact ⟨_, (PF.at pf1783 59 rfl), ⟨_, (E1840.arr h797)⟩⟩
    | 76, _ => exact ⟨_, (PF.at pf1783 58 rfl), ⟨_, (E1839.arr h811)⟩⟩
    | 77, _ => exact ⟨_, (PF.at pf1783 57 rfl), ⟨_, (E1838.arr h825)⟩⟩
    | 78, _ => exact ⟨_, (PF.at pf1783 56 rfl), ⟨_, (E1837.arr h839)⟩⟩
    | 79, _ => exact ⟨_, (PF.at pf1783 55 rfl), ⟨_, (E1836.arr h853)⟩⟩
    | 80, _ => exact ⟨_, (PF.at pf1783 54 rfl), ⟨_, (E1835.arr h867)⟩⟩
    | 81, _ => exact ⟨_, (PF.at pf1783 53 rfl), ⟨_, (E1834.arr h881)⟩⟩
    | 82, _ => exact okv_df rfl rfl (PF.df pf1783 82 rfl rfl)
    | 83, _ => exact ⟨_, (PF.df pf1783 83 rfl rfl)⟩
    | 84, _ => exact ⟨_, (PF.df pf1783 84 rfl rfl)⟩
    | 85, _ => exact ⟨_, (PF.df pf1783 85 rfl rfl)⟩
    | 86, _ => exact ⟨_, (PF.df pf1783 86 rfl rfl)⟩
    | 87, _ => exact ⟨_, (PF.df pf1783 87 rfl rfl)⟩
    | 88, _ => exact ⟨_, (PF.df pf1783 88 rfl rfl)⟩
    | 89, _ => exact ⟨_, (PF.df pf1783 89 rfl rfl)⟩
    | 90, _ => exact ⟨_, (PF.df pf1783 90 rfl rfl)⟩
    | 91, _ => exact okv_df rfl rfl (PF.df pf1783 91 rfl rfl)
    | 92, _ => exact okv_df rfl rfl (PF.df pf1783 92 rfl rfl)
    | 93, _ => exact okv_df rfl rfl (PF.df pf1783 93 rfl rfl)
    | 94, _ => exact ⟨_, (PF.at pf1783 52 rfl), ⟨_, (E1833.arr h895)⟩⟩
    | 95, _ => exact ⟨_, (PF.at pf1783 51 rfl), ⟨_, (E1832.arr h909)⟩⟩
    | 96, _ => exact ⟨_, (PF.at pf1783 50 rfl), ⟨_, (E1831.arr h923)⟩⟩
    | 97, _ => exact ⟨_, (PF.at pf1783 49 rfl), ⟨_, (E1830.arr h937)⟩⟩
    | 98, _ => exact ⟨_, (PF.at pf1783 48 rfl), ⟨_, (E1829.arr h951)⟩⟩
    | 99, _ => exact ⟨_, (PF.at pf1783 47 rfl), ⟨_, (E1828.arr h965)⟩⟩
    | 100, _ => exact ⟨_, (PF.at pf1783 46 rfl), ⟨_, (E1827.arr h979)⟩⟩
    | 101, _ => exact ⟨_, (PF.at pf1783 45 rfl), ⟨_, (E1826.arr h993)⟩⟩
    | 102, _ => exact ⟨_, (PF.at pf1783 44 rfl), ⟨_, (E1825.arr h1007)⟩⟩
    | 103, _ => exact ⟨_, (PF.at pf1783 43 rfl), ⟨_, (E1824.arr h1021)⟩⟩
    | 104, _ => exact ⟨_, (PF.at pf1783 42 rfl), ⟨_, (E1823.arr h1035)⟩⟩
    | 105, _ => exact ⟨_, (PF.at pf1783 41 rfl), ⟨_, (E1822.arr h1049)⟩⟩
    | 106, _ => exact ⟨_, (PF.at pf1783 40 rfl), ⟨_, (E1821.arr h1063)⟩⟩
    | 107, _ => exact ⟨_, (PF.at pf1783 39 rfl), ⟨_, (E1820.arr h1077)⟩⟩
    | 108, _ => exact ⟨_, (PF.at pf1783 38 rfl), ⟨_, (E1819.arr h1091)⟩⟩
    | 109, _ => exact ⟨_, (PF.at pf1783 37 rfl), ⟨_, (E1818.arr h1105)⟩⟩
    | 110, _ => exact ⟨_, (PF.at pf1783 36 rfl), ⟨_, (E1817.arr h1119)⟩⟩
    | 111, _ => exact ⟨_, (PF.at pf1783 35 rfl), ⟨_, (E1816.arr h1133)⟩⟩
    | 112, _ => exact ⟨_, (PF.at pf1783 34 rfl), ⟨_, (E1815.arr h1147)⟩⟩
    | 113, _ => exact ⟨_, (PF.at pf1783 33 rfl), ⟨_, (E1814.arr h1161)⟩⟩
    | 114, _ => exact ⟨_, (PF.at pf1783 32 rfl), ⟨_, (E1813.arr h1175)⟩⟩
    | 115, _ => exact ⟨_, (PF.at pf1783 31 rfl), ⟨_, (E1812.arr h1189)⟩⟩
    | 116, _ => exact ⟨_, (PF.at pf1783 30 rfl), ⟨_, (E1811.arr h1203)⟩⟩
    | 117, _ => exact ⟨_, (PF.at pf1783 29 rfl), ⟨_, (E1810.arr h1217)⟩⟩
    | 118, _ => exact okv_df rfl rfl (PF.df pf1783 118 rfl rfl)
    | 119, _ => exact okv_at (PF.at pf1783 28 rfl) (ir_c rfl) (by decide) (by decide)
    | 120, _ => exact okv_df rfl rfl (PF.df pf1783 120 rfl rfl)
    | 121, _ => exact ⟨_, (PF.at pf1783 27 rfl), ⟨_, (E1809.arr h1234)⟩⟩
    | 122, _ => exact ⟨_, (PF.at pf1783 26 rfl), ⟨_, (E1808.arr h1248)⟩⟩
    | 123, _ => exact ⟨_, (PF.at pf1783 25 rfl), ⟨_, (E1807.arr h1262)⟩⟩
    | 124, _ => exact ⟨_, (PF.at pf1783 24 rfl), ⟨_, (E1806.arr h1276)⟩⟩
    | 125, _ => exact ⟨_, (PF.at pf1783 23 rfl), ⟨_, (E1805.arr h1290)⟩⟩
    | 126, _ => exact ⟨_, (PF.at pf1783 22 rfl), ⟨_, (E1804.arr h1304)⟩⟩
    | 127, _ => exact ⟨_, (PF.at pf1783 21 rfl), ⟨_, (E1803.arr h1318)⟩⟩
    | 128, _ => exact ⟨_, (PF.at pf1783 20 rfl), ⟨_, (E1802.arr h1332)⟩⟩
    | 129, _ => exact ⟨_, (PF.at pf1783 19 rfl), ⟨_, (E1801.arr h1346)⟩⟩
    | 130, _ => exact ⟨_, (PF.at pf1783 18 rfl), ⟨_, (E1800.arr h1360)⟩⟩
    | 131, _ => exact ⟨_, (PF.at pf1783 17 rfl), ⟨_, (E1799.arr h1374)⟩⟩
    | 132, _ => exact ⟨_, (PF.at pf1783 16 rfl), ⟨_, (E1798.arr h1388)⟩⟩
    | 133, _ => exact okv_df rfl rfl (PF.df pf1783 133 rfl rfl)
    | 134, _ => exact ⟨_, (PF.at pf1783 15 rfl), ⟨_, (E1797.arr h1402)⟩⟩
    | 135, _ => exact ⟨_, (PF.at pf1783 14 rfl), ⟨_, (E1796.arr h1416)⟩⟩
    | 136, _ => exact ⟨_, (PF.at pf1783 13 rfl), ⟨_, (E1795.arr h1433)⟩⟩
    | 137, _ => exact okv_df rfl rfl (PF.df pf1783 137 rfl rfl)
    | 138, _ => exact okv_df rfl rfl (PF.df pf1783 138 rfl rfl)
    | 139, _ => exact ⟨_, (PF.at pf1783 12 rfl), ⟨_, (E1794.arr h1453)⟩⟩
    | 140, _ => exact ⟨_, (PF.at pf1783 11 rfl), ⟨_, (E1793.arr h1473)⟩⟩
    | 141, _ => exact ⟨_, (PF.at pf1783 10 rfl), ⟨_, (E1792.arr h1493)⟩⟩
    | 142, _ => exact ⟨_, (PF.at pf1783 9 rfl), ⟨_, (E1791.arr h1513)⟩⟩
    | 143, _ => exact ⟨_, (PF.at pf1783 8 rfl), ⟨_, (E1790.arr h1533)⟩⟩
    | 144, _ => exact ⟨_, (PF.at pf1783 7 rfl), ⟨_, (E1789.arr h1553)⟩⟩
    | 145, _ => exact okv_df rfl rfl (PF.df pf1783 145 rfl rfl)
    | 146, _ => exact ⟨_, (PF.at pf1783 6 rfl), ⟨_, (E1788.arr h1573)⟩⟩
    | 147, _ => exact ⟨_, (PF.at pf1783 5 rfl), ⟨_, (E1787.arr h1593)⟩⟩
    | 148, _ => exact ⟨_, (PF.at pf1783 4 rfl), ⟨_, (E1786.arr h1613)⟩⟩
    | 149, _ => exact ⟨_, (PF.at pf1783 3 rfl), ⟨_, (hE1652.arr h1633)⟩⟩
    | 150, _ => exact ⟨_, (PF.at pf1783 2 rfl), ⟨_, h1653⟩⟩
    | j + 151, hj => exact absurd hj (by omega)
  have q1902 : vi V1780 x 10 = 0 := vi_at (X := 0) (PF.df pf1783 10 rfl rfl) (ir_c rfl)
  have q1903 : vi V1780 x 47 = 0 := vi_at (X := 0) (PF.df pf1783 47 rfl rfl) (ir_c rfl)
  have q1904 : vi V1780 x 48 = 0 := vi_at (X := 0) (PF.df pf1783 48 rfl rfl) (ir_c rfl)
  have q1905 : vi V1780 x 30 = 0 := vi_at (X := 0) (PF.df pf1783 30 rfl rfl) (ir_c rfl)
  have q1906 : vi V1780 x 9 = 0 := vi_at (X := 0) (PF.df pf1783 9 rfl rfl) (ir_c rfl)
  have q1907 : vi V1780 x 2 = 0 := vi_at (X := 0) (PF.df pf1783 2 rfl rfl) (ir_c rfl)
  have q1908 : vi V1780 x 91 = 0 := vi_at (X := 0) (PF.df pf1783 91 rfl rfl) (ir_c rfl)
  have q1909 : vi V1780 x 133 = 0 := vi_at (X := 0) (PF.df pf1783 133 rfl rfl) (ir_c rfl)
  have q1910 : vi V1780 x 120 = 0 := vi_at (X := 0) (PF.df pf1783 120 rfl rfl) (ir_c rfl)
  have hzb1911 : ZB V1780 x 135 63 := ZB.mk (PF.at pf1783 14 rfl) hz1784
  have hzb1912 : ZB V1780 x 136 441 := ZB.mk (PF.at pf1783 13 rfl) hz1785
  refine GO.iconst dX12_init_970 ?_
  refine GO.istore_n (ls1 := [some (.ref x), some (ti 0)]) dX12_init_971 rfl rfl rfl ?_
  refine GO.loop1 (fun i1913 W => 0 ≤ i1913 ∧ i1913 ≤ 4 ∧ (vi W x 10 = 0 ∧ vi W x 47 = 0 ∧ vi W x 48 = 0 ∧ vi W x 30 = 0 ∧ vi W x 9 = 0 ∧ vi W x 2 = 0 ∧ vi W x 91 = 0 ∧ vi W x 133 = 0 ∧ vi W x 120 = 0) ∧ (ZB W x 135 63) ∧ (ZB W x 136 441) ∧ True) (fun i1913 => [some (.ref x), some (ti i1913)]) (fun i1913 W => (2147483647 - i1913).toNat) 0 ⟨by omega, by omega, by omega, (by first | assumption), (by first | assumption), trivial⟩ rfl (fun i1913 Wi1913 hp3360 ih3359 => ?_)
  obtain ⟨l_i1913, u_i1913, n_i1913, w0_i1913, w1_i1913, -⟩ := hp3360
  have r_i1913 : ir i1913 := ⟨by omega, by omega⟩
  show GO mX12_init K V (VX (fun K1 V1 => (K1 x = some (0, 11) ∧ vi V1 x 10 = 0 ∧ vi V1 x 47 = 0 ∧ vi V1 x 48 = 0 ∧ vi V1 x 30 = 0 ∧ vi V1 x 9 = 0 ∧ vi V1 x 2 = 0 ∧ vi V1 x 91 = 0 ∧ vi V1 x 133 = 0 ∧ vi V1 x 120 = 0 ∧ ZB V1 x 135 63 ∧ ZB V1 x 136 441) ∧ KE K K1 x)) K1898 Wi1913 113 19203 972 [some (.ref x), some (ti i1913)] []
  refine GO.useWT (fun hWz => ?_)
  refine GO.iload_n dX12_init_972 rfl rfl ?_
  refine GO.iconst dX12_init_973 ?_
  refine GO.icmp_ge (tgt := 991) dX12_init_974 (by decide) r_i1913 (ir_c rfl) (fun c3361 => ?_) (fun c3361 => ?_)
  ·
    refine GO.iconst dX12_init_991 ?_
    refine GO.istore_n (ls1 := [some (.ref x), some (ti 0)]) dX12_init_992 rfl rfl rfl ?_
    have q3363 : -2147483648 ≤ vi Wi1913 x 10 ∧ vi Wi1913 x 10 ≤ 2147483647 := vi_ir
    have q3364 : -2147483648 ≤ vi Wi1913 x 47 ∧ vi Wi1913 x 47 ≤ 2147483647 := vi_ir
    have q3365 : -2147483648 ≤ vi Wi1913 x 48 ∧ vi Wi1913 x 48 ≤ 2147483647 := vi_ir
    have q3366 : -2147483648 ≤ vi Wi1913 x 30 ∧ vi Wi1913 x 30 ≤ 2147483647 := vi_ir
    have q3367 : -2147483648 ≤ vi Wi1913 x 9 ∧ vi Wi1913 x 9 ≤ 2147483647 := vi_ir
    have q3368 : -2147483648 ≤ vi Wi1913 x 2 ∧ vi Wi1913 x 2 ≤ 2147483647 := vi_ir
    have q3369 : -2147483648 ≤ vi Wi1913 x 91 ∧ vi Wi1913 x 91 ≤ 2147483647 := vi_ir
    have q3370 : -2147483648 ≤ vi Wi1913 x 133 ∧ vi Wi1913 x 133 ≤ 2147483647 := vi_ir
    have q3371 : -2147483648 ≤ vi Wi1913 x 120 ∧ vi Wi1913 x 120 ≤ 2147483647 := vi_ir
    refine GO.loop1 (fun i3362 W => 0 ≤ i3362 ∧ i3362 ≤ 10 ∧ (vi W x 10 = 0 ∧ vi W x 47 = 0 ∧ vi W x 48 = 0 ∧ vi W x 30 = 0 ∧ vi W x 9 = 0 ∧ vi W x 2 = 0 ∧ vi W x 91 = 0 ∧ vi W x 133 = 0 ∧ vi W x 120 = 0) ∧ (ZB W x 135 63) ∧ (ZB W x 136 441) ∧ True) (fun i3362 => [some (.ref x), some (ti i3362)]) (fun i3362 W => (2147483647 - i3362).toNat) 0 ⟨by omega, by omega, by omega, (by first | assumption | exact ZB.put 109 (by assumption) hWz (by assumption) rfl rfl (by assumption) (by assumption) (by decide)), (by first | assumption | exact ZB.put 110 (by assumption) hWz (by assumption) rfl rfl (by assumption) (by assumption) (by decide)), trivial⟩ rfl (fun i3362 Wi3362 hp3728 ih3727 => ?_)
    obtain ⟨l_i3362, u_i3362, n_i3362, w0_i3362, w1_i3362, -⟩ := hp3728
    have r_i3362 : ir i3362 := ⟨by omega, by omega⟩
    show GO mX12_init K V (VX (fun K1 V1 => (K1 x = some (0, 11) ∧ vi V1 x 10 = 0 ∧ vi V1 x 47 = 0 ∧ vi V1 x 48 = 0 ∧ vi V1 x 30 = 0 ∧ vi V1 x 9 = 0 ∧ vi V1 x 2 = 0 ∧ vi V1 x 91 = 0 ∧ vi V1 x 133 = 0 ∧ vi V1 x 120 = 0 ∧ ZB V1 x 135 63 ∧ ZB V1 x 136 441) ∧ KE K K1 x)) K1898 Wi3362 113 19203 993 [some (.ref x), some (ti i3362)] []
    refine GO.useWT (fun hWz => ?_)
    refine GO.iload_n dX12_init_993 rfl rfl ?_
    refine GO.bipush dX12_init_994 rfl ?_
    refine GO.icmp_ge (tgt := 1013) dX12_init_996 (by decide) r_i3362 (ir_c rfl) (fun c3729 => ?_) (fun c3729 => ?_)
    ·
      refine GO.iconst dX12_init_1013 ?_
      refine GO.istore_n (ls1 := [some (.ref x), some (ti 0)]) dX12_init_1014 rfl rfl rfl ?_
      have q3731 : -2147483648 ≤ vi Wi3362 x 10 ∧ vi Wi3362 x 10 ≤ 2147483647 := vi_ir
      have q3732 : -2147483648 ≤ vi Wi3362 x 47 ∧ vi Wi3362 x 47 ≤ 2147483647 := vi_ir
      have q3733 : -2147483648 ≤ vi Wi3362 x 48 ∧ vi Wi3362 x 48 ≤ 2147483647 := vi_ir
      have q3734 : -2147483648 ≤ vi Wi3362 x 30 ∧ vi Wi3362 x 30 ≤ 2147483647 := vi_ir
      have q3735 : -2147483648 ≤ vi Wi3362 x 9 ∧ vi Wi3362 x 9 ≤ 2147483647 := vi_ir
      have q3736 : -2147483648 ≤ vi Wi3362 x 2 ∧ vi Wi3362 x 2 ≤ 2147483647 := vi_ir
      have q3737 : -2147483648 ≤ vi Wi3362 x 91 ∧ vi Wi3362 x 91 ≤ 2147483647 := vi_ir
      have q3738 : -2147483648 ≤ vi Wi3362 x 133 ∧ vi Wi3362 x 133 ≤ 2147483647 := vi_ir
      have q3739 : -2147483648 ≤ vi Wi3362 x 120 ∧ vi Wi3362 x 120 ≤ 2147483647 := vi_ir
      refine GO.loop1 (fun i3730 W => 0 ≤ i3730 ∧ i3730 ≤ 24 ∧ (vi W x 10 = 0 ∧ vi W x 47 = 0 ∧ vi W x 48 = 0 ∧ vi W x 30 = 0 ∧ vi W x 9 = 0 ∧ vi W x 2 = 0 ∧ vi W x 91 = 0 ∧ vi W x 133 = 0 ∧ vi W x 120 = 0) ∧ (ZB W x 135 63) ∧ (ZB W x 136 441) ∧ True) (fun i3730 => [some (.ref x), some (ti i3730)]) (fun i3730 W => (2147483647 - i3730).toNat) 0 ⟨by omega, by omega, by omega, (by first | assumption | exact ZB.put 109 (by assumption) hWz (by assumption) rfl rfl (by assumption) (by assumption) (by decide)), (by first | assumption | exact ZB.put 110 (by assumption) hWz (by assumption) rfl rfl (by assumption) (by assumption) (by decide)), trivial⟩ rfl (fun i3730 Wi3730 hp3946 ih3945 => ?_)
      obtain ⟨l_i3730, u_i3730, n_i3730, w0_i3730, w1_i3730, -⟩ := hp3946
      have r_i3730 : ir i3730 := ⟨by omega, by omega⟩
      show GO mX12_init K V (VX (fun K1 V1 => (K1 x = some (0, 11) ∧ vi V1 x 10 = 0 ∧ vi V1 x 47 = 0 ∧ vi V1 x 48 = 0 ∧ vi V1 x 30 = 0 ∧ vi V1 x 9 = 0 ∧ vi V1 x 2 = 0 ∧ vi V1 x 91 = 0 ∧ vi V1 x 133 = 0 ∧ vi V1 x 120 = 0 ∧ ZB V1 x 135 63 ∧ ZB V1 x 136 441) ∧ KE K K1 x)) K1898 Wi3730 113 19203 1015 [some (.ref x), some (ti i3730)] []
      refine GO.useWT (fun hWz => ?_)
      refine GO.iload_n dX12_init_1015 rfl rfl ?_
      refine GO.bipush dX12_init_1016 rfl ?_
      refine GO.icmp_ge (tgt := 1036) dX12_init_1018 (by decide) r_i3730 (ir_c rfl) (fun c3947 => ?_) (fun c3947 => ?_)
      ·
        refine GO.iconst dX12_init_1036 ?_
        refine GO.istore_n (ls1 := [some (.ref x), some (ti 0)]) dX12_init_1037 rfl rfl rfl ?_
        have q3949 : -2147483648 ≤ vi Wi3730 x 10 ∧ vi Wi3730 x 10 ≤ 2147483647 := vi_ir
        have q3950 : -2147483648 ≤ vi Wi3730 x 47 ∧ vi Wi3730 x 47 ≤ 2147483647 := vi_ir
        have q3951 : -2147483648 ≤ vi Wi3730 x 48 ∧ vi Wi3730 x 48 ≤ 2147483647 := vi_ir
        have q3952 : -2147483648 ≤ vi Wi3730 x 30 ∧ vi Wi3730 x 30 ≤ 2147483647 := vi_ir
        have q3953 : -2147483648 ≤ vi Wi3730 x 9 ∧ vi Wi3730 x 9 ≤ 2147483647 := vi_ir
        have q3954 : -2147483648 ≤ vi Wi3730 x 2 ∧ vi Wi3730 x 2 ≤ 2147483647 := vi_ir
        have q3955 : -2147483648 ≤ vi Wi3730 x 91 ∧ vi Wi3730 x 91 ≤ 2147483647 := vi_ir
        have q3956 : -2147483648 ≤ vi Wi3730 x 133 ∧ vi Wi3730 x 133 ≤ 2147483647 := vi_ir
        have q3957 : -2147483648 ≤ vi Wi3730 x 120 ∧ vi Wi3730 x 120 ≤ 2147483647 := vi_ir
        refine GO.loop1 (fun i3948 W => 0 ≤ i3948 ∧ i3948 ≤ 600 ∧ (vi W x 10 = 0 ∧ vi W x 47 = 0 ∧ vi W x 48 = 0 ∧ vi W x 30 = 0 ∧ vi W x 9 = 0 ∧ vi W x 2 = 0 ∧ vi W x 91 = 0 ∧ vi W x 133 = 0 ∧ vi W x 120 = 0) ∧ (ZB W x 135 63) ∧ (ZB W x 136 441) ∧ True) (fun i3948 => [some (.ref x), some (ti i3948)]) (fun i3948 W => (2147483647 - i3948).toNat) 0 ⟨by omega, by omega, by omega, (by first | assumption | exact ZB.put 109 (by assumption) hWz (by assumption) rfl rfl (by assumption) (by assumption) (by decide)), (by first | assumption | exact ZB.put 110 (by assumption) hWz (by assumption) rfl rfl (by assumption) (by assumption) (by decide)), trivial⟩ rfl (fun i3948 Wi3948 hp4004 ih4003 => ?_)
        obtain ⟨l_i3948, u_i3948, n_i3948, w0_i3948, w1_i3948, -⟩ := hp4004
        have r_i3948 : ir i3948 := ⟨by omega, by omega⟩
        show GO mX12_init K V (VX (fun K1 V1 => (K1 x = some (0, 11) ∧ vi V1 x 10 = 0 ∧ vi V1 x 47 = 0 ∧ vi V1 x 48 = 0 ∧ vi V1 x 30 = 0 ∧ vi V1 x 9 = 0 ∧ vi V1 x 2 = 0 ∧ vi V1 x 91 = 0 ∧ vi V1 x 133 = 0 ∧ vi V1 x 120 = 0 ∧ ZB V1 x 135 63 ∧ ZB V1 x 136 441) ∧ KE K K1 x)) K1898 Wi3948 113 19203 1038 [some (.ref x), some (ti i3948)] []
        refine GO.useWT (fun hWz => ?_)
        refine GO.iload_n dX12_init_1038 rfl rfl ?_
        refine GO.sipush dX12_init_1039 rfl ?_
        refine GO.icmp_ge (tgt := 1058) dX12_init_1042 (by decide) r_i3948 (ir_c rfl) (fun c4005 => ?_) (fun c4005 => ?_)
        ·
          exact GO.retv rfl rfl dX12_init_1058 ⟨rfl, ⟨h1901, by omega, by omega, by omega, by omega, by omega, by omega, by omega, by omega, by omega, (by assumption), (by assumption)⟩, (KE.promote (KE.new (KE.new (KE.new (KE.new (KE.new (KE.new (KE.new (KE.new (KE.new (KE.new (KE.new (KE.new (KE.new (KE.new (KE.new (KE.new (KE.new (KE.new (KE.new (KE.new (KE.new (KE.new (KE.new (KE.new (KE.new (KE.new (KE.new (KE.new (KE.new (KE.new (KE.new (KE.new (KE.new (KE.new (KE.new (KE.new (KE.new (KE.new (KE.new (KE.new (KE.new (KE.new (KE.new (KE.new (KE.new (KE.new (KE.new (KE.new (KE.new (KE.new (KE.new (KE.new (KE.new (KE.new (KE.new (KE.new (KE.new (KE.new (KE.new (KE.new (KE.new (KE.new (KE.new (KE.new (KE.new (KE.new (KE.new (KE.new (KE.new (KE.new (KE.new (KE.new (KE.new (KE.new (KE.new (KE.new (KE.new (KE.new (KE.new (KE.new (KE.new (KE.new (KE.new (KE.new (KE.new (KE.new (KE.new (KE.new (KE.new (KE.new (KE.new (KE.new (KE.new (KE.new (KE.new (KE.new (KE.new (KE.new (KE.new (KE.new (KE.new (KE.new (KE.new (KE.new (KE.new (KE.new (KE.new (KE.new (KE.new (KE.new (KE.new (KE.new (KE.new KE.rf hq10 hK11) hq24 hK25) hq38 hK39) hq52 hK53) hq66 hK67) hq80 hK81) hq94 hK95) hq108 hK109) hq122 hK123) hq136 hK137) hq150 hK151) hq164 hK165) hq178 hK179) hq192 hK193) hq206 hK207) hq220 hK221) hq234 hK235) hq248 hK249) hq262 hK263) hq276 hK277) hq290 hK291) hq304 hK305) hq318 hK319) hq332 hK333) hq346 hK347) hq360 hK361) hq374 hK375) hq388 hK389) hq402 hK403) hq416 hK417) hq430 hK431) hq444 hK445) hq458 hK459) hq472 hK473) hq486 hK487) hq500 hK501) hq514 hK515) hq528 hK529) hq542 hK543) hq556 hK557) hq570 hK571) hq584 hK585) hq598 hK599) hq612 hK613) hq626 hK627) hq640 hK641) hq654 hK655) hq668 hK669) hq682 hK683) hq696 hK697) hq710 hK711) hq724 hK725) hq738 hK739) hq752 hK753) hq766 hK767) hq780 hK781) hq794 hK795) hq808 hK809) hq822 hK823) hq836 hK837) hq850 hK851) hq864 hK865) hq878 hK879) hq892 hK893) hq906 hK907) hq920 hK921) hq934 hK935) hq948 hK949) hq962 hK963) hq976 hK977) hq990 hK991) hq1004 hK1005) hq1018 hK1019) hq1032 hK1033) hq1046 hK1047) hq1060 hK1061) hq1074 hK1075) hq1088 hK1089) hq1102 hK1103) hq1116 hK1117) hq1130 hK1131) hq1144 hK1145) hq1158 hK1159) hq1172 hK1173) hq1186 hK1187) hq1200 hK1201) hq1214 hK1215) hq1231 hK1232) hq1245 hK1246) hq1259 hK1260) hq1273 hK1274) hq1287 hK1288) hq1301 hK1302) hq1315 hK1316) hq1329 hK1330) hq1343 hK1344) hq1357 hK1358) hq1371 hK1372) hq1385 hK1386) hq1399 hK1400) hq1413 hK1414) hq1430 hK1431) hq1450 hK1451) hq1470 hK1471) hq1490 hK1491) hq1510 hK1511) hq1530 hK1531) hq1550 hK1551) hq1570 hK1571) hq1590 hK1591) hq1610 hK1611) hq1630 hK1631) hq1650 hK1651) e1899)⟩
        ·
          refine GO.aload_n dX12_init_1045 rfl rfl ?_
          refine GO.getA (n := 600) h1901 fl_RX12_77 rfl rfl rfl rfl dX12_init_1046 (fun hv4007 h4006 => ?_)
          refine GO.iload_n dX12_init_1049 rfl rfl ?_
          refine GO.iconst dX12_init_1050 ?_
          refine GO.iast (t := 29) rfl rfl (by decide +kernel) h4006 r_i3948 (by omega) (by omega) (ir_c rfl) (by decide) (by decide) dX12_init_1051 (fun V4009 e4008 => ?_)
          refine GO.iinc (X := i3948) (n := 1) (Y := i3948 + 1) (ls1 := [some (.ref x), some (ti (i3948 + 1))]) dX12_init_1052 rfl rfl rfl rfl ?_
          refine GO.goto (tgt := 1038) dX12_init_1055 (by decide) ?_
          have e4010 : vi V4009 x 10 = vi Wi3948 x 10 := vi_up e4008 (Or.inl (K_ne h1901 h4006 (by decide)))
          have q4011 : -2147483648 ≤ vi Wi3948 x 10 ∧ vi Wi3948 x 10 ≤ 2147483647 := vi_ir
          have e4012 : vi V4009 x 47 = vi Wi3948 x 47 := vi_up e4008 (Or.inl (K_ne h1901 h4006 (by decide)))
          have q4013 : -2147483648 ≤ vi Wi3948 x 47 ∧ vi Wi3948 x 47 ≤ 2147483647 := vi_ir
          have e4014 : vi V4009 x 48 = vi Wi3948 x 48 := vi_up e4008 (Or.inl (K_ne h1901 h4006 (by decide)))
          have q4015 : -2147483648 ≤ vi Wi3948 x 48 ∧ vi Wi3948 x 48 ≤ 2147483647 := vi_ir
          have e4016 : vi V4009 x 30 = vi Wi3948 x 30 := vi_up e4008 (Or.inl (K_ne h1901 h4006 (by decide)))
          have q4017 : -2147483648 ≤ vi Wi3948 x 30 ∧ vi Wi3948 x 30 ≤ 2147483647 := vi_ir
          have e4018 : vi V4009 x 9 = vi Wi3948 x 9 := vi_up e4008 (Or.inl (K_ne h1901 h4006 (by decide)))
          have q4019 : -2147483648 ≤ vi Wi3948 x 9 ∧ vi Wi3948 x 9 ≤ 2147483647 := vi_ir
          have e4020 : vi V4009 x 2 = vi Wi3948 x 2 := vi_up e4008 (Or.inl (K_ne h1901 h4006 (by decide)))
          have q4021 : -2147483648 ≤ vi Wi3948 x 2 ∧ vi Wi3948 x 2 ≤ 2147483647 := vi_ir
          have e4022 : vi V4009 x 91 = vi Wi3948 x 91 := vi_up e4008 (Or.inl (K_ne h1901 h4006 (by decide)))
          have q4023 : -2147483648 ≤ vi Wi3948 x 91 ∧ vi Wi3948 x 91 ≤ 2147483647 := vi_ir
          have e4024 : vi V4009 x 133 = vi Wi3948 x 133 := vi_up e4008 (Or.inl (K_ne h1901 h4006 (by decide)))
          have q4025 : -2147483648 ≤ vi Wi3948 x 133 ∧ vi Wi3948 x 133 ≤ 2147483647 := vi_ir
          have e4026 : vi V4009 x 120 = vi Wi3948 x 120 := vi_up e4008 (Or.inl (K_ne h1901 h4006 (by decide)))
          have q4027 : -2147483648 ≤ vi Wi3948 x 120 ∧ vi Wi3948 x 120 ≤ 2147483647 := vi_ir
          exact ih4003 (i3948 + 1) V4009 ⟨by omega, by omega, by omega, (by first | assumption | exact ZB.put 109 (by assumption) hWz (by assumption) rfl rfl (by assumption) (by assumption) (by decide)), (by first | assumption | exact ZB.put 110 (by assumption) hWz (by assumption) rfl rfl (by assumption) (by assumption) (by decide)), trivial⟩ (by show (2147483647 - (i3948 + 1)).toNat < (2147483647 - i3948).toNat; omega)
      ·
        refine GO.aload_n dX12_init_1021 rfl rfl ?_
        refine GO.getA (n := 24) h1901 fl_RX12_337 rfl rfl rfl rfl dX12_init_1022 (fun hv4029 h4028 => ?_)
        refine GO.iload_n dX12_init_1025 rfl rfl ?_
        refine GO.sipush dX12_init_1026 rfl ?_
        refine GO.iast (t := 114) rfl rfl (by decide +kernel) h4028 r_i3730 (by omega) (by omega) (ir_c rfl) (by decide) (by decide) dX12_init_1029 (fun V4031 e4030 => ?_)
        refine GO.iinc (X := i3730) (n := 1) (Y := i3730 + 1) (ls1 := [some (.ref x), some (ti (i3730 + 1))]) dX12_init_1030 rfl rfl rfl rfl ?_
        refine GO.goto (tgt := 1015) dX12_init_1033 (by decide) ?_
        have e4032 : vi V4031 x 10 = vi Wi3730 x 10 := vi_up e4030 (Or.inl (K_ne h1901 h4028 (by decide)))
        have q4033 : -2147483648 ≤ vi Wi3730 x 10 ∧ vi Wi3730 x 10 ≤ 2147483647 := vi_ir
        have e4034 : vi V4031 x 47 = vi Wi3730 x 47 := vi_up e4030 (Or.inl (K_ne h1901 h4028 (by decide)))
        have q4035 : -2147483648 ≤ vi Wi3730 x 47 ∧ vi Wi3730 x 47 ≤ 2147483647 := vi_ir
        have e4036 : vi V4031 x 48 = vi Wi3730 x 48 := vi_up e4030 (Or.inl (K_ne h1901 h4028 (by decide)))
        have q4037 : -2147483648 ≤ vi Wi3730 x 48 ∧ vi Wi3730 x 48 ≤ 2147483647 := vi_ir
        have e4038 : vi V4031 x 30 = vi Wi3730 x 30 := vi_up e4030 (Or.inl (K_ne h1901 h4028 (by decide)))
        have q4039 : -2147483648 ≤ vi Wi3730 x 30 ∧ vi Wi3730 x 30 ≤ 2147483647 := vi_ir
        have e4040 : vi V4031 x 9 = vi Wi3730 x 9 := vi_up e4030 (Or.inl (K_ne h1901 h4028 (by decide)))
        have q4041 : -2147483648 ≤ vi Wi3730 x 9 ∧ vi Wi3730 x 9 ≤ 2147483647 := vi_ir
        have e4042 : vi V4031 x 2 = vi Wi3730 x 2 := vi_up e4030 (Or.inl (K_ne h1901 h4028 (by decide)))
        have q4043 : -2147483648 ≤ vi Wi3730 x 2 ∧ vi Wi3730 x 2 ≤ 2147483647 := vi_ir
        have e4044 : vi V4031 x 91 = vi Wi3730 x 91 := vi_up e4030 (Or.inl (K_ne h1901 h4028 (by decide)))
        have q4045 : -2147483648 ≤ vi Wi3730 x 91 ∧ vi Wi3730 x 91 ≤ 2147483647 := vi_ir
        have e4046 : vi V4031 x 133 = vi Wi3730 x 133 := vi_up e4030 (Or.inl (K_ne h1901 h4028 (by decide)))
        have q4047 : -2147483648 ≤ vi Wi3730 x 133 ∧ vi Wi3730 x 133 ≤ 2147483647 := vi_ir
        have e4048 : vi V4031 x 120 = vi Wi3730 x 120 := vi_up e4030 (Or.inl (K_ne h1901 h4028 (by decide)))
        have q4049 : -2147483648 ≤ vi Wi3730 x 120 ∧ vi Wi3730 x 120 ≤ 2147483647 := vi_ir
        exact ih3945 (i3730 + 1) V4031 ⟨by omega, by omega, by omega, (by first | assumption | exact ZB.put 109 (by assumption) hWz (by assumption) rfl rfl (by assumption) (by assumption) (by decide)), (by first | assumption | exact ZB.put 110 (by assumption) hWz (by assumption) rfl rfl (by assumption) (by assumption) (by decide)), trivial⟩ (by show (2147483647 - (i3730 + 1)).toNat < (2147483647 - i3730).toNat; omega)
    ·
      refine GO.aload_n dX12_init_999 rfl rfl ?_
      refine GO.getA (n := 10) h1901 fl_RX12_301 rfl rfl rfl rfl dX12_init_1000 (fun hv4051 h4050 => ?_)
      refine GO.iload_n dX12_init_1003 rfl rfl ?_
      refine GO.bipush dX12_init_1004 rfl ?_
      refine GO.iast (t := 102) rfl rfl (by decide +kernel) h4050 r_i3362 (by omega) (by omega) (ir_c rfl) (by decide) (by decide) dX12_init_1006 (fun V4053 e4052 => ?_)
      refine GO.iinc (X := i3362) (n := 1) (Y := i3362 + 1) (ls1 := [some (.ref x), some (ti (i3362 + 1))]) dX12_init_1007 rfl rfl rfl rfl ?_
      refine GO.goto (tgt := 993) dX12_init_1010 (by decide) ?_
      have e4054 : vi V4053 x 10 = vi Wi3362 x 10 := vi_up e4052 (Or.inl (K_ne h1901 h4050 (by decide)))
      have q4055 : -2147483648 ≤ vi Wi3362 x 10 ∧ vi Wi3362 x 10 ≤ 2147483647 := vi_ir
      have e4056 : vi V4053 x 47 = vi Wi3362 x 47 := vi_up e4052 (Or.inl (K_ne h1901 h4050 (by decide)))
      have q4057 : -2147483648 ≤ vi Wi3362 x 47 ∧ vi Wi3362 x 47 ≤ 2147483647 := vi_ir
      have e4058 : vi V4053 x 48 = vi Wi3362 x 48 := vi_up e4052 (Or.inl (K_ne h1901 h4050 (by decide)))
      have q4059 : -2147483648 ≤ vi Wi3362 x 48 ∧ vi Wi3362 x 48 ≤ 2147483647 := vi_ir
      have e4060 : vi V4053 x 30 = vi Wi3362 x 30 := vi_up e4052 (Or.inl (K_ne h1901 h4050 (by decide)))
      have q4061 : -2147483648 ≤ vi Wi3362 x 30 ∧ vi Wi3362 x 30 ≤ 2147483647 := vi_ir
      have e4062 : vi V4053 x 9 = vi Wi3362 x 9 := vi_up e4052 (Or.inl (K_ne h1901 h4050 (by decide)))
      have q4063 : -2147483648 ≤ vi Wi3362 x 9 ∧ vi Wi3362 x 9 ≤ 2147483647 := vi_ir
      have e4064 : vi V4053 x 2 = vi Wi3362 x 2 := vi_up e4052 (Or.inl (K_ne h1901 h4050 (by decide)))
      have q4065 : -2147483648 ≤ vi Wi3362 x 2 ∧ vi Wi3362 x 2 ≤ 2147483647 := vi_ir
      have e4066 : vi V4053 x 91 = vi Wi3362 x 91 := vi_up e4052 (Or.inl (K_ne h1901 h4050 (by decide)))
      have q4067 : -2147483648 ≤ vi Wi3362 x 91 ∧ vi Wi3362 x 91 ≤ 2147483647 := vi_ir
      have e4068 : vi V4053 x 133 = vi Wi3362 x 133 := vi_up e4052 (Or.inl (K_ne h1901 h4050 (by decide)))
      have q4069 : -2147483648 ≤ vi Wi3362 x 133 ∧ vi Wi3362 x 133 ≤ 2147483647 := vi_ir
      have e4070 : vi V4053 x 120 = vi Wi3362 x 120 := vi_up e4052 (Or.inl (K_ne h1901 h4050 (by decide)))
      have q4071 : -2147483648 ≤ vi Wi3362 x 120 ∧ vi Wi3362 x 120 ≤ 2147483647 := vi_ir
      exact ih3727 (i3362 + 1) V4053 ⟨by omega, by omega, by omega, (by first | assumption | exact ZB.put 109 (by assumption) hWz (by assumption) rfl rfl (by assumption) (by assumption) (by decide)), (by first | assumption | exact ZB.put 110 (by assumption) hWz (by assumption) rfl rfl (by assumption) (by assumption) (by decide)), trivial⟩ (by show (2147483647 - (i3362 + 1)).toNat < (2147483647 - i3362).toNat; omega)
  ·
    refine GO.aload_n dX12_init_977 rfl rfl ?_
    refine GO.getA (n := 4) h1901 fl_RX12_244 rfl rfl rfl rfl dX12_init_978 (fun hv4073 h4072 => ?_)
    refine GO.iload_n dX12_init_981 rfl rfl ?_
    refine GO.bipush dX12_init_982 rfl ?_
    refine GO.iast (t := 84) rfl rfl (by decide +kernel) h4072 r_i1913 (by omega) (by omega) (ir_c rfl) (by decide) (by decide) dX12_init_984 (fun V4075 e4074 => ?_)
    refine GO.iinc (X := i1913) (n := 1) (Y := i1913 + 1) (ls1 := [some (.ref x), some (ti (i1913 + 1))]) dX12_init_985 rfl rfl rfl rfl ?_
    refine GO.goto (tgt := 972) dX12_init_988 (by decide) ?_
    have e4076 : vi V4075 x 10 = vi Wi1913 x 10 := vi_up e4074 (Or.inl (K_ne h1901 h4072 (by decide)))
    have q4077 : -2147483648 ≤ vi Wi1913 x 10 ∧ vi Wi1913 x 10 ≤ 2147483647 := vi_ir
    have e4078 : vi V4075 x 47 = vi Wi1913 x 47 := vi_up e4074 (Or.inl (K_ne h1901 h4072 (by decide)))
    have q4079 : -2147483648 ≤ vi Wi1913 x 47 ∧ vi Wi1913 x 47 ≤ 2147483647 := vi_ir
    have e4080 : vi V4075 x 48 = vi Wi1913 x 48 := vi_up e4074 (Or.inl (K_ne h1901 h4072 (by decide)))
    have q4081 : -2147483648 ≤ vi Wi1913 x 48 ∧ vi Wi1913 x 48 ≤ 2147483647 := vi_ir
    have e4082 : vi V4075 x 30 = vi Wi1913 x 30 := vi_up e4074 (Or.inl (K_ne h1901 h4072 (by decide)))
    have q4083 : -2147483648 ≤ vi Wi1913 x 30 ∧ vi Wi1913 x 30 ≤ 2147483647 := vi_ir
    have e4084 : vi V4075 x 9 = vi Wi1913 x 9 := vi_up e4074 (Or.inl (K_ne h1901 h4072 (by decide)))
    have q4085 : -2147483648 ≤ vi Wi1913 x 9 ∧ vi Wi1913 x 9 ≤ 2147483647 := vi_ir
    have e4086 : vi V4075 x 2 = vi Wi1913 x 2 := vi_up e4074 (Or.inl (K_ne h1901 h4072 (by decide)))
    have q4087 : -2147483648 ≤ vi Wi1913 x 2 ∧ vi Wi1913 x 2 ≤ 2147483647 := vi_ir
    have e4088 : vi V4075 x 91 = vi Wi1913 x 91 := vi_up e4074 (Or.inl (K_ne h1901 h4072 (by decide)))
    have q4089 : -2147483648 ≤ vi Wi1913 x 91 ∧ vi Wi1913 x 91 ≤ 2147483647 := vi_ir
    have e4090 : vi V4075 x 133 = vi Wi1913 x 133 := vi_up e4074 (Or.inl (K_ne h1901 h4072 (by decide)))
    have q4091 : -2147483648 ≤ vi Wi1913 x 133 ∧ vi Wi1913 x 133 ≤ 2147483647 := vi_ir
    have e4092 : vi V4075 x 120 = vi Wi1913 x 120 := vi_up e4074 (Or.inl (K_ne h1901 h4072 (by decide)))
    have q4093 : -2147483648 ≤ vi Wi1913 x 120 ∧ vi Wi1913 x 120 ≤ 2147483647 := vi_ir
    exact ih3359 (i1913 + 1) V4075 ⟨by omega, by omega, by omega, (by first | assumption | exact ZB.put 109 (by assumption) hWz (by assumption) rfl rfl (by assumption) (by assumption) (by decide)), (by first | assumption | exact ZB.put 110 (by assumption) hWz (by assumption) rfl rfl (by assumption) (by assumption) (by decide)), trivial⟩ (by show (2147483647 - (i1913 + 1)).toNat < (2147483647 - i1913).toNat; omega)
