def mX12_init : MRec := (RX12, cX12_init, 2, (none : Option Jvm.ClassFile.FieldType), yX12_init, 1, 23, 113, 19203, 8498207885068273579033411304839498037273489883632510771191106211206535781025362902823978079484902518213105895774386387355828912333174116938580551385124385758632032909700258804380205056)
set_option maxHeartbeats 8000000 in
theorem t_X12_init {K : Kmap} {V : Vmap} {x : Nat} (h_x : K x = some (0, 23)) (h_d : ∀ j, V x j = defaultValue (tyX12 j)) : MC mX12_init K V [.ref x] (VX (fun K1 V1 => (K1 x = some (0, 11) ∧ vi V1 x 10 = 0 ∧ vi V1 x 47 = 0 ∧ vi V1 x 48 = 0 ∧ vi V1 x 30 = 0 ∧ vi V1 x 9 = 0 ∧ vi V1 x 2 = 0 ∧ vi V1 x 91 = 0 ∧ vi V1 x 133 = 0 ∧ vi V1 x 120 = 0 ∧ vi V1 x 66 = 0 ∧ vi V1 x 118 = 0 ∧ vi V1 x 137 = 0 ∧ ZB V1 x 135 63 ∧ ZB V1 x 136 441 ∧ ZB V1 x 28 60 ∧ (MBG V1 x 8 8)) ∧ KE K K1 x)) := by
  refine MC.start 1 (by decide +kernel) rfl rfl rfl (ls0 := [some (.ref x), none]) rfl ?_
  have pf1 := PF.nil h_d
  refine GO.aload_n dX12_init_0 rfl rfl ?_
  refine GO.objInit dX12_init_1 gw_1477 gw_27 gw_28 rfl rfl ?_
  refine GO.aload_n dX12_init_4 rfl rfl ?_
  refine GO.bipush dX12_init_5 rfl ?_
  refine GO.putRW rfl (by decide +kernel) h_x fp_raw_fp_RX12_7 rfl rfl dX12_init_7 (fun V3 e2 => ?_)
  have pf4 := PF.put pf1 e2 rfl
  clear pf1
  refine GO.aload_n dX12_init_10 rfl rfl ?_
  refine GO.sipush dX12_init_11 rfl ?_
  refine GO.putRW rfl (by decide +kernel) h_x fp_raw_fp_RX12_13 rfl rfl dX12_init_14 (fun V6 e5 => ?_)
  have pf7 := PF.put pf4 e5 rfl
  clear pf4
  refine GO.aload_n dX12_init_17 rfl rfl ?_
  refine GO.sipush dX12_init_18 rfl ?_
  refine GO.newT (atype := .int) 9 144 gw_89 rfl rfl (fun _ _ h => h) rfl rfl rfl (Or.inr rfl) (fun _ => okv_df rfl rfl rfl) rfl rfl dX12_init_21 (fun o8 K9 V15 hq10 hK11 hE12 h13 hz16 hV14 => ?_)
  have h17 := (by rw [hK11, updK_ne (K_old h_x hq10)]; exact h_x : K9 x = some (0, 23))
  have pf18 := PF.nw pf7 hV14 (K_old h_x hq10)
  have h19 := KE.nw KE.rf h_x hq10
  clear pf7
  refine GO.putRF rfl rfl (by decide +kernel) h17 fp_raw_fp_RX12_16 rfl rfl dX12_init_23 (fun V21 e20 => ?_)
  have pf22 := PF.put pf18 e20 rfl
  clear pf18
  refine GO.aload_n dX12_init_26 rfl rfl ?_
  refine GO.sipush dX12_init_27 rfl ?_
  refine GO.newT (atype := .int) 10 144 gw_89 rfl rfl (fun _ _ h => h) rfl rfl rfl (Or.inr rfl) (fun _ => okv_df rfl rfl rfl) rfl rfl dX12_init_30 (fun o23 K24 V30 hq25 hK26 hE27 h28 hz31 hV29 => ?_)
  have h32 := (by rw [hK26, updK_ne (K_old h17 hq25)]; exact h17 : K24 x = some (0, 23))
  have pf33 := PF.nw pf22 hV29 (K_old h17 hq25)
  have h34 := KE.nw (KE.new KE.rf hq10 hK11) h17 hq25
  clear pf22
  refine GO.putRF rfl rfl (by decide +kernel) h32 fp_raw_fp_RX12_20 rfl rfl dX12_init_32 (fun V36 e35 => ?_)
  have pf37 := PF.put pf33 e35 rfl
  clear pf33
  refine GO.aload_n dX12_init_35 rfl rfl ?_
  refine GO.sipush dX12_init_36 rfl ?_
  refine GO.newT (atype := .int) 11 144 gw_89 rfl rfl (fun _ _ h => h) rfl rfl rfl (Or.inr rfl) (fun _ => okv_df rfl rfl rfl) rfl rfl dX12_init_39 (fun o38 K39 V45 hq40 hK41 hE42 h43 hz46 hV44 => ?_)
  have h47 := (by rw [hK41, updK_ne (K_old h32 hq40)]; exact h32 : K39 x = some (0, 23))
  have pf48 := PF.nw pf37 hV44 (K_old h32 hq40)
  have h49 := KE.nw (KE.new (KE.new KE.rf hq10 hK11) hq25 hK26) h32 hq40
  clear pf37
  refine GO.putRF rfl rfl (by decide +kernel) h47 fp_raw_fp_RX12_23 rfl rfl dX12_init_41 (fun V51 e50 => ?_)
  have pf52 := PF.put pf48 e50 rfl
  clear pf48
  refine GO.aload_n dX12_init_44 rfl rfl ?_
  refine GO.sipush dX12_init_45 rfl ?_
  refine GO.newT (atype := .int) 12 144 gw_89 rfl rfl (fun _ _ h => h) rfl rfl rfl (Or.inr rfl) (fun _ => okv_df rfl rfl rfl) rfl rfl dX12_init_48 (fun o53 K54 V60 hq55 hK56 hE57 h58 hz61 hV59 => ?_)
  have h62 := (by rw [hK56, updK_ne (K_old h47 hq55)]; exact h47 : K54 x = some (0, 23))
  have pf63 := PF.nw pf52 hV59 (K_old h47 hq55)
  have h64 := KE.nw (KE.new (KE.new (KE.new KE.rf hq10 hK11) hq25 hK26) hq40 hK41) h47 hq55
  clear pf52
  refine GO.putRF rfl rfl (by decide +kernel) h62 fp_raw_fp_RX12_26 rfl rfl dX12_init_50 (fun V66 e65 => ?_)
  have pf67 := PF.put pf63 e65 rfl
  clear pf63
  refine GO.aload_n dX12_init_53 rfl rfl ?_
  refine GO.bipush dX12_init_54 rfl ?_
  refine GO.newT (atype := .int) 13 9 gw_89 rfl rfl (fun _ _ h => h) rfl rfl rfl (Or.inr rfl) (fun _ => okv_df rfl rfl rfl) rfl rfl dX12_init_56 (fun o68 K69 V75 hq70 hK71 hE72 h73 hz76 hV74 => ?_)
  have h77 := (by rw [hK71, updK_ne (K_old h62 hq70)]; exact h62 : K69 x = some (0, 23))
  have pf78 := PF.nw pf67 hV74 (K_old h62 hq70)
  have h79 := KE.nw (KE.new (KE.new (KE.new (KE.new KE.rf hq10 hK11) hq25 hK26) hq40 hK41) hq55 hK56) h62 hq70
  clear pf67
  refine GO.putRF rfl rfl (by decide +kernel) h77 fp_raw_fp_RX12_29 rfl rfl dX12_init_58 (fun V81 e80 => ?_)
  have pf82 := PF.put pf78 e80 rfl
  clear pf78
  refine GO.aload_n dX12_init_61 rfl rfl ?_
  refine GO.bipush dX12_init_62 rfl ?_
  refine GO.newT (atype := .int) 14 9 gw_89 rfl rfl (fun _ _ h => h) rfl rfl rfl (Or.inr rfl) (fun _ => okv_df rfl rfl rfl) rfl rfl dX12_init_64 (fun o83 K84 V90 hq85 hK86 hE87 h88 hz91 hV89 => ?_)
  have h92 := (by rw [hK86, updK_ne (K_old h77 hq85)]; exact h77 : K84 x = some (0, 23))
  have pf93 := PF.nw pf82 hV89 (K_old h77 hq85)
  have h94 := KE.nw (KE.new (KE.new (KE.new (KE.new (KE.new KE.rf hq10 hK11) hq25 hK26) hq40 hK41) hq55 hK56) hq70 hK71) h77 hq85
  clear pf82
  refine GO.putRF rfl rfl (by decide +kernel) h92 fp_raw_fp_RX12_32 rfl rfl dX12_init_66 (fun V96 e95 => ?_)
  have pf97 := PF.put pf93 e95 rfl
  clear pf93
  refine GO.aload_n dX12_init_69 rfl rfl ?_
  refine GO.bipush dX12_init_70 rfl ?_
  refine GO.newT (atype := .int) 15 60 gw_89 rfl rfl (fun _ _ h => h) rfl rfl rfl (Or.inr rfl) (fun _ => okv_df rfl rfl rfl) rfl rfl dX12_init_72 (fun o98 K99 V105 hq100 hK101 hE102 h103 hz106 hV104 => ?_)
  have h107 := (by rw [hK101, updK_ne (K_old h92 hq100)]; exact h92 : K99 x = some (0, 23))
  have pf108 := PF.nw pf97 hV104 (K_old h92 hq100)
  have h109 := KE.nw (KE.new (KE.new (KE.new (KE.new (KE.new (KE.new KE.rf hq10 hK11) hq25 hK26) hq40 hK41) hq55 hK56) hq70 hK71) hq85 hK86) h92 hq100
  clear pf97
  refine GO.putRF rfl rfl (by decide +kernel) h107 fp_raw_fp_RX12_35 rfl rfl dX12_init_74 (fun V111 e110 => ?_)
  have pf112 := PF.put pf108 e110 rfl
  clear pf108
  refine GO.aload_n dX12_init_77 rfl rfl ?_
  refine GO.bipush dX12_init_78 rfl ?_
  refine GO.newT (atype := .int) 16 60 gw_89 rfl rfl (fun _ _ h => h) rfl rfl rfl (Or.inr rfl) (fun _ => okv_df rfl rfl rfl) rfl rfl dX12_init_80 (fun o113 K114 V120 hq115 hK116 hE117 h118 hz121 hV119 => ?_)
  have h122 := (by rw [hK116, updK_ne (K_old h107 hq115)]; exact h107 : K114 x = some (0, 23))
  have pf123 := PF.nw pf112 hV119 (K_old h107 hq115)
  have h124 := KE.nw (KE.new (KE.new (KE.new (KE.new (KE.new (KE.new (KE.new KE.rf hq10 hK11) hq25 hK26) hq40 hK41) hq55 hK56) hq70 hK71) hq85 hK86) hq100 hK101) h107 hq115
  clear pf112
  refine GO.putRF rfl rfl (by decide +kernel) h122 fp_raw_fp_RX12_38 rfl rfl dX12_init_82 (fun V126 e125 => ?_)
  have pf127 := PF.put pf123 e125 rfl
  clear pf123
  refine GO.aload_n dX12_init_85 rfl rfl ?_
  refine GO.bipush dX12_init_86 rfl ?_
  refine GO.newT (atype := .int) 17 60 gw_89 rfl rfl (fun _ _ h => h) rfl rfl rfl (Or.inr rfl) (fun _ => okv_df rfl rfl rfl) rfl rfl dX12_init_88 (fun o128 K129 V135 hq130 hK131 hE132 h133 hz136 hV134 => ?_)
  have h137 := (by rw [hK131, updK_ne (K_old h122 hq130)]; exact h122 : K129 x = some (0, 23))
  have pf138 := PF.nw pf127 hV134 (K_old h122 hq130)
  have h139 := KE.nw (KE.new (KE.new (KE.new (KE.new (KE.new (KE.new (KE.new (KE.new KE.rf hq10 hK11) hq25 hK26) hq40 hK41) hq55 hK56) hq70 hK71) hq85 hK86) hq100 hK101) hq115 hK116) h122 hq130
  clear pf127
  refine GO.putRF rfl rfl (by decide +kernel) h137 fp_raw_fp_RX12_41 rfl rfl dX12_init_90 (fun V141 e140 => ?_)
  have pf142 := PF.put pf138 e140 rfl
  clear pf138
  refine GO.aload_n dX12_init_93 rfl rfl ?_
  refine GO.bipush dX12_init_94 rfl ?_
  refine GO.newT (atype := .int) 18 60 gw_89 rfl rfl (fun _ _ h => h) rfl rfl rfl (Or.inr rfl) (fun _ => okv_df rfl rfl rfl) rfl rfl dX12_init_96 (fun o143 K144 V150 hq145 hK146 hE147 h148 hz151 hV149 => ?_)
  have h152 := (by rw [hK146, updK_ne (K_old h137 hq145)]; exact h137 : K144 x = some (0, 23))
  have pf153 := PF.nw pf142 hV149 (K_old h137 hq145)
  have h154 := KE.nw (KE.new (KE.new (KE.new (KE.new (KE.new (KE.new (KE.new (KE.new (KE.new KE.rf hq10 hK11) hq25 hK26) hq40 hK41) hq55 hK56) hq70 hK71) hq85 hK86) hq100 hK101) hq115 hK116) hq130 hK131) h137 hq145
  clear pf142
  refine GO.putRF rfl rfl (by decide +kernel) h152 fp_raw_fp_RX12_44 rfl rfl dX12_init_98 (fun V156 e155 => ?_)
  have pf157 := PF.put pf153 e155 rfl
  clear pf153
  refine GO.aload_n dX12_init_101 rfl rfl ?_
  refine GO.bipush dX12_init_102 rfl ?_
  refine GO.newT (atype := .int) 19 60 gw_89 rfl rfl (fun _ _ h => h) rfl rfl rfl (Or.inr rfl) (fun _ => okv_df rfl rfl rfl) rfl rfl dX12_init_104 (fun o158 K159 V165 hq160 hK161 hE162 h163 hz166 hV164 => ?_)
  have h167 := (by rw [hK161, updK_ne (K_old h152 hq160)]; exact h152 : K159 x = some (0, 23))
  have pf168 := PF.nw pf157 hV164 (K_old h152 hq160)
  have h169 := KE.nw (KE.new (KE.new (KE.new (KE.new (KE.new (KE.new (KE.new (KE.new (KE.new (KE.new KE.rf hq10 hK11) hq25 hK26) hq40 hK41) hq55 hK56) hq70 hK71) hq85 hK86) hq100 hK101) hq115 hK116) hq130 hK131) hq145 hK146) h152 hq160
  clear pf157
  refine GO.putRF rfl rfl (by decide +kernel) h167 fp_raw_fp_RX12_47 rfl rfl dX12_init_106 (fun V171 e170 => ?_)
  have pf172 := PF.put pf168 e170 rfl
  clear pf168
  refine GO.aload_n dX12_init_109 rfl rfl ?_
  refine GO.bipush dX12_init_110 rfl ?_
  refine GO.newT (atype := .int) 20 60 gw_89 rfl rfl (fun _ _ h => h) rfl rfl rfl (Or.inr rfl) (fun _ => okv_df rfl rfl rfl) rfl rfl dX12_init_112 (fun o173 K174 V180 hq175 hK176 hE177 h178 hz181 hV179 => ?_)
  have h182 := (by rw [hK176, updK_ne (K_old h167 hq175)]; exact h167 : K174 x = some (0, 23))
  have pf183 := PF.nw pf172 hV179 (K_old h167 hq175)
  have h184 := KE.nw (KE.new (KE.new (KE.new (KE.new (KE.new (KE.new (KE.new (KE.new (KE.new (KE.new (KE.new KE.rf hq10 hK11) hq25 hK26) hq40 hK41) hq55 hK56) hq70 hK71) hq85 hK86) hq100 hK101) hq115 hK116) hq130 hK131) hq145 hK146) hq160 hK161) h167 hq175
  clear pf172
  refine GO.putRF rfl rfl (by decide +kernel) h182 fp_raw_fp_RX12_50 rfl rfl dX12_init_114 (fun V186 e185 => ?_)
  have pf187 := PF.put pf183 e185 rfl
  clear pf183
  refine GO.aload_n dX12_init_117 rfl rfl ?_
  refine GO.bipush dX12_init_118 rfl ?_
  refine GO.newT (atype := .int) 21 60 gw_89 rfl rfl (fun _ _ h => h) rfl rfl rfl (Or.inr rfl) (fun _ => okv_df rfl rfl rfl) rfl rfl dX12_init_120 (fun o188 K189 V195 hq190 hK191 hE192 h193 hz196 hV194 => ?_)
  have h197 := (by rw [hK191, updK_ne (K_old h182 hq190)]; exact h182 : K189 x = some (0, 23))
  have pf198 := PF.nw pf187 hV194 (K_old h182 hq190)
  have h199 := KE.nw (KE.new (KE.new (KE.new (KE.new (KE.new (KE.new (KE.new (KE.new (KE.new (KE.new (KE.new (KE.new KE.rf hq10 hK11) hq25 hK26) hq40 hK41) hq55 hK56) hq70 hK71) hq85 hK86) hq100 hK101) hq115 hK116) hq130 hK131) hq145 hK146) hq160 hK161) hq175 hK176) h182 hq190
  clear pf187
  refine GO.putRF rfl rfl (by decide +kernel) h197 fp_raw_fp_RX12_53 rfl rfl dX12_init_122 (fun V201 e200 => ?_)
  have pf202 := PF.put pf198 e200 rfl
  clear pf198
  refine GO.aload_n dX12_init_125 rfl rfl ?_
  refine GO.bipush dX12_init_126 rfl ?_
  refine GO.newT (atype := .int) 22 60 gw_89 rfl rfl (fun _ _ h => h) rfl rfl rfl (Or.inr rfl) (fun _ => okv_df rfl rfl rfl) rfl rfl dX12_init_128 (fun o203 K204 V210 hq205 hK206 hE207 h208 hz211 hV209 => ?_)
  have h212 := (by rw [hK206, updK_ne (K_old h197 hq205)]; exact h197 : K204 x = some (0, 23))
  have pf213 := PF.nw pf202 hV209 (K_old h197 hq205)
  have h214 := KE.nw (KE.new (KE.new (KE.new (KE.new (KE.new (KE.new (KE.new (KE.new (KE.new (KE.new (KE.new (KE.new (KE.new KE.rf hq10 hK11) hq25 hK26) hq40 hK41) hq55 hK56) hq70 hK71) hq85 hK86) hq100 hK101) hq115 hK116) hq130 hK131) hq145 hK146) hq160 hK161) hq175 hK176) hq190 hK191) h197 hq205
  clear pf202
  refine GO.putRF rfl rfl (by decide +kernel) h212 fp_raw_fp_RX12_56 rfl rfl dX12_init_130 (fun V216 e215 => ?_)
  have pf217 := PF.put pf213 e215 rfl
  clear pf213
  refine GO.aload_n dX12_init_133 rfl rfl ?_
  refine GO.bipush dX12_init_134 rfl ?_
  refine GO.newT (atype := .int) 23 60 gw_89 rfl rfl (fun _ _ h => h) rfl rfl rfl (Or.inr rfl) (fun _ => okv_df rfl rfl rfl) rfl rfl dX12_init_136 (fun o218 K219 V225 hq220 hK221 hE222 h223 hz226 hV224 => ?_)
  have h227 := (by rw [hK221, updK_ne (K_old h212 hq220)]; exact h212 : K219 x = some (0, 23))
  have pf228 := PF.nw pf217 hV224 (K_old h212 hq220)
  have h229 := KE.nw (KE.new (KE.new (KE.new (KE.new (KE.new (KE.new (KE.new (KE.new (KE.new (KE.new (KE.new (KE.new (KE.new (KE.new KE.rf hq10 hK11) hq25 hK26) hq40 hK41) hq55 hK56) hq70 hK71) hq85 hK86) hq100 hK101) hq115 hK116) hq130 hK131) hq145 hK146) hq160 hK161) hq175 hK176) hq190 hK191) hq205 hK206) h212 hq220
  clear pf217
  refine GO.putRF rfl rfl (by decide +kernel) h227 fp_raw_fp_RX12_59 rfl rfl dX12_init_138 (fun V231 e230 => ?_)
  have pf232 := PF.put pf228 e230 rfl
  clear pf228
  refine GO.aload_n dX12_init_141 rfl rfl ?_
  refine GO.bipush dX12_init_142 rfl ?_
  refine GO.newT (atype := .int) 24 60 gw_89 rfl rfl (fun _ _ h => h) rfl rfl rfl (Or.inr rfl) (fun _ => okv_df rfl rfl rfl) rfl rfl dX12_init_144 (fun o233 K234 V240 hq235 hK236 hE237 h238 hz241 hV239 => ?_)
  have h242 := (by rw [hK236, updK_ne (K_old h227 hq235)]; exact h227 : K234 x = some (0, 23))
  have pf243 := PF.nw pf232 hV239 (K_old h227 hq235)
  have h244 := KE.nw (KE.new (KE.new (KE.new (KE.new (KE.new (KE.new (KE.new (KE.new (KE.new (KE.new (KE.new (KE.new (KE.new (KE.new (KE.new KE.rf hq10 hK11) hq25 hK26) hq40 hK41) hq55 hK56) hq70 hK71) hq85 hK86) hq100 hK101) hq115 hK116) hq130 hK131) hq145 hK146) hq160 hK161) hq175 hK176) hq190 hK191) hq205 hK206) hq220 hK221) h227 hq235
  clear pf232
  refine GO.putRF rfl rfl (by decide +kernel) h242 fp_raw_fp_RX12_62 rfl rfl dX12_init_146 (fun V246 e245 => ?_)
  have pf247 := PF.put pf243 e245 rfl
  clear pf243
  refine GO.aload_n dX12_init_149 rfl rfl ?_
  refine GO.sipush dX12_init_150 rfl ?_
  refine GO.newT (atype := .int) 25 240 gw_89 rfl rfl (fun _ _ h => h) rfl rfl rfl (Or.inr rfl) (fun _ => okv_df rfl rfl rfl) rfl rfl dX12_init_153 (fun o248 K249 V255 hq250 hK251 hE252 h253 hz256 hV254 => ?_)
  have h257 := (by rw [hK251, updK_ne (K_old h242 hq250)]; exact h242 : K249 x = some (0, 23))
  have pf258 := PF.nw pf247 hV254 (K_old h242 hq250)
  have h259 := KE.nw (KE.new (KE.new (KE.new (KE.new (KE.new (KE.new (KE.new (KE.new (KE.new (KE.new (KE.new (KE.new (KE.new (KE.new (KE.new (KE.new KE.rf hq10 hK11) hq25 hK26) hq40 hK41) hq55 hK56) hq70 hK71) hq85 hK86) hq100 hK101) hq115 hK116) hq130 hK131) hq145 hK146) hq160 hK161) hq175 hK176) hq190 hK191) hq205 hK206) hq220 hK221) hq235 hK236) h242 hq250
  clear pf247
  refine GO.putRF rfl rfl (by decide +kernel) h257 fp_raw_fp_RX12_65 rfl rfl dX12_init_155 (fun V261 e260 => ?_)
  have pf262 := PF.put pf258 e260 rfl
  clear pf258
  refine GO.aload_n dX12_init_158 rfl rfl ?_
  refine GO.bipush dX12_init_159 rfl ?_
  refine GO.newT (atype := .int) 26 60 gw_89 rfl rfl (fun _ _ h => h) rfl rfl rfl (Or.inr rfl) (fun _ => okv_df rfl rfl rfl) rfl rfl dX12_init_161 (fun o263 K264 V270 hq265 hK266 hE267 h268 hz271 hV269 => ?_)
  have h272 := (by rw [hK266, updK_ne (K_old h257 hq265)]; exact h257 : K264 x = some (0, 23))
  have pf273 := PF.nw pf262 hV269 (K_old h257 hq265)
  have h274 := KE.nw (KE.new (KE.new (KE.new (KE.new (KE.new (KE.new (KE.new (KE.new (KE.new (KE.new (KE.new (KE.new (KE.new (KE.new (KE.new (KE.new (KE.new KE.rf hq10 hK11) hq25 hK26) hq40 hK41) hq55 hK56) hq70 hK71) hq85 hK86) hq100 hK101) hq115 hK116) hq130 hK131) hq145 hK146) hq160 hK161) hq175 hK176) hq190 hK191) hq205 hK206) hq220 hK221) hq235 hK236) hq250 hK251) h257 hq265
  clear pf262
  refine GO.putRF rfl rfl (by decide +kernel) h272 fp_raw_fp_RX12_68 rfl rfl dX12_init_163 (fun V276 e275 => ?_)
  have pf277 := PF.put pf273 e275 rfl
  clear pf273
  refine GO.aload_n dX12_init_166 rfl rfl ?_
  refine GO.bipush dX12_init_167 rfl ?_
  refine GO.newT (atype := .int) 27 60 gw_89 rfl rfl (fun _ _ h => h) rfl rfl rfl (Or.inr rfl) (fun _ => okv_df rfl rfl rfl) rfl rfl dX12_init_169 (fun o278 K279 V285 hq280 hK281 hE282 h283 hz286 hV284 => ?_)
  have h287 := (by rw [hK281, updK_ne (K_old h272 hq280)]; exact h272 : K279 x = some (0, 23))
  have pf288 := PF.nw pf277 hV284 (K_old h272 hq280)
  have h289 := KE.nw (KE.new (KE.new (KE.new (KE.new (KE.new (KE.new (KE.new (KE.new (KE.new (KE.new (KE.new (KE.new (KE.new (KE.new (KE.new (KE.new (KE.new (KE.new KE.rf hq10 hK11) hq25 hK26) hq40 hK41) hq55 hK56) hq70 hK71) hq85 hK86) hq100 hK101) hq115 hK116) hq130 hK131) hq145 hK146) hq160 hK161) hq175 hK176) hq190 hK191) hq205 hK206) hq220 hK221) hq235 hK236) hq250 hK251) hq265 hK266) h272 hq280
  clear pf277
  refine GO.putRF rfl rfl (by decide +kernel) h287 fp_raw_fp_RX12_71 rfl rfl dX12_init_171 (fun V291 e290 => ?_)
  have pf292 := PF.put pf288 e290 rfl
  clear pf288
  refine GO.aload_n dX12_init_174 rfl rfl ?_
  refine GO.sipush dX12_init_175 rfl ?_
  refine GO.newT (atype := .int) 28 600 gw_89 rfl rfl (fun _ _ h => h) rfl rfl rfl (Or.inr rfl) (fun _ => okv_df rfl rfl rfl) rfl rfl dX12_init_178 (fun o293 K294 V300 hq295 hK296 hE297 h298 hz301 hV299 => ?_)
  have h302 := (by rw [hK296, updK_ne (K_old h287 hq295)]; exact h287 : K294 x = some (0, 23))
  have pf303 := PF.nw pf292 hV299 (K_old h287 hq295)
  have h304 := KE.nw (KE.new (KE.new (KE.new (KE.new (KE.new (KE.new (KE.new (KE.new (KE.new (KE.new (KE.new (KE.new (KE.new (KE.new (KE.new (KE.new (KE.new (KE.new (KE.new KE.rf hq10 hK11) hq25 hK26) hq40 hK41) hq55 hK56) hq70 hK71) hq85 hK86) hq100 hK101) hq115 hK116) hq130 hK131) hq145 hK146) hq160 hK161) hq175 hK176) hq190 hK191) hq205 hK206) hq220 hK221) hq235 hK236) hq250 hK251) hq265 hK266) hq280 hK281) h287 hq295
  clear pf292
  refine GO.putRF rfl rfl (by decide +kernel) h302 fp_raw_fp_RX12_74 rfl rfl dX12_init_180 (fun V306 e305 => ?_)
  have pf307 := PF.put pf303 e305 rfl
  clear pf303
  refine GO.aload_n dX12_init_183 rfl rfl ?_
  refine GO.sipush dX12_init_184 rfl ?_
  refine GO.newT (atype := .int) 29 600 gw_89 rfl rfl (fun _ _ h => h) rfl rfl rfl (Or.inr rfl) (fun _ => okv_df rfl rfl rfl) rfl rfl dX12_init_187 (fun o308 K309 V315 hq310 hK311 hE312 h313 hz316 hV314 => ?_)
  have h317 := (by rw [hK311, updK_ne (K_old h302 hq310)]; exact h302 : K309 x = some (0, 23))
  have pf318 := PF.nw pf307 hV314 (K_old h302 hq310)
  have h319 := KE.nw (KE.new (KE.new (KE.new (KE.new (KE.new (KE.new (KE.new (KE.new (KE.new (KE.new (KE.new (KE.new (KE.new (KE.new (KE.new (KE.new (KE.new (KE.new (KE.new (KE.new KE.rf hq10 hK11) hq25 hK26) hq40 hK41) hq55 hK56) hq70 hK71) hq85 hK86) hq100 hK101) hq115 hK116) hq130 hK131) hq145 hK146) hq160 hK161) hq175 hK176) hq190 hK191) hq205 hK206) hq220 hK221) hq235 hK236) hq250 hK251) hq265 hK266) hq280 hK281) hq295 hK296) h302 hq310
  clear pf307
  refine GO.putRF rfl rfl (by decide +kernel) h317 fp_raw_fp_RX12_77 rfl rfl dX12_init_189 (fun V321 e320 => ?_)
  have pf322 := PF.put pf318 e320 rfl
  clear pf318
  refine GO.aload_n dX12_init_192 rfl rfl ?_
  refine GO.bipush dX12_init_193 rfl ?_
  refine GO.newT (atype := .boolean) 30 60 gw_1936 rfl rfl (fun _ _ h => h) rfl rfl rfl (Or.inr rfl) (fun _ => okv_df rfl rfl rfl) rfl rfl dX12_init_195 (fun o323 K324 V330 hq325 hK326 hE327 h328 hz331 hV329 => ?_)
  have h332 := (by rw [hK326, updK_ne (K_old h317 hq325)]; exact h317 : K324 x = some (0, 23))
  have pf333 := PF.nw pf322 hV329 (K_old h317 hq325)
  have hz334 : ∀ j, V330 o323 j = .int 0 := hz331
  have h335 := KE.nw (KE.new (KE.new (KE.new (KE.new (KE.new (KE.new (KE.new (KE.new (KE.new (KE.new (KE.new (KE.new (KE.new (KE.new (KE.new (KE.new (KE.new (KE.new (KE.new (KE.new (KE.new KE.rf hq10 hK11) hq25 hK26) hq40 hK41) hq55 hK56) hq70 hK71) hq85 hK86) hq100 hK101) hq115 hK116) hq130 hK131) hq145 hK146) hq160 hK161) hq175 hK176) hq190 hK191) hq205 hK206) hq220 hK221) hq235 hK236) hq250 hK251) hq265 hK266) hq280 hK281) hq295 hK296) hq310 hK311) h317 hq325
  clear pf322
  refine GO.putRF rfl rfl (by decide +kernel) h332 fp_raw_fp_RX12_80 rfl rfl dX12_init_197 (fun V337 e336 => ?_)
  have pf338 := PF.put pf333 e336 rfl
  have hz339 : ∀ j, V337 o323 j = .int 0 := fun j => (uq_ne e336 (Or.inl (K_ne h328 h332 (by decide)))).trans (hz334 j)
  clear pf333 hz334
  refine GO.aload_n dX12_init_200 rfl rfl ?_
  refine GO.sipush dX12_init_201 rfl ?_
  refine GO.newT (atype := .byte) 31 400 gw_815 rfl rfl (fun _ _ h => h) rfl rfl rfl (Or.inr rfl) (fun _ => okv_df rfl rfl rfl) rfl rfl dX12_init_204 (fun o340 K341 V347 hq342 hK343 hE344 h345 hz348 hV346 => ?_)
  have h349 := (by rw [hK343, updK_ne (K_old h332 hq342)]; exact h332 : K341 x = some (0, 23))
  have pf350 := PF.nw pf338 hV346 (K_old h332 hq342)
  have kz352 := hE344.arr h328
  have hz351 : ∀ j, V347 o323 j = .int 0 := fun j => (congrFun (hV346 _ (K_old h328 hq342)) j).trans (hz339 j)
  have h353 := KE.nw (KE.new (KE.new (KE.new (KE.new (KE.new (KE.new (KE.new (KE.new (KE.new (KE.new (KE.new (KE.new (KE.new (KE.new (KE.new (KE.new (KE.new (KE.new (KE.new (KE.new (KE.new (KE.new KE.rf hq10 hK11) hq25 hK26) hq40 hK41) hq55 hK56) hq70 hK71) hq85 hK86) hq100 hK101) hq115 hK116) hq130 hK131) hq145 hK146) hq160 hK161) hq175 hK176) hq190 hK191) hq205 hK206) hq220 hK221) hq235 hK236) hq250 hK251) hq265 hK266) hq280 hK281) hq295 hK296) hq310 hK311) hq325 hK326) h332 hq342
  clear pf338 hz339
  refine GO.putRF rfl rfl (by decide +kernel) h349 fp_raw_fp_RX12_84 rfl rfl dX12_init_206 (fun V355 e354 => ?_)
  have pf356 := PF.put pf350 e354 rfl
  have hz357 : ∀ j, V355 o323 j = .int 0 := fun j => (uq_ne e354 (Or.inl (K_ne kz352 h349 (by decide)))).trans (hz351 j)
  clear pf350 hz351
  refine GO.aload_n dX12_init_209 rfl rfl ?_
  refine GO.sipush dX12_init_210 rfl ?_
  refine GO.newT (atype := .int) 32 220 gw_89 rfl rfl (fun _ _ h => h) rfl rfl rfl (Or.inr rfl) (fun _ => okv_df rfl rfl rfl) rfl rfl dX12_init_213 (fun o358 K359 V365 hq360 hK361 hE362 h363 hz366 hV364 => ?_)
  have h367 := (by rw [hK361, updK_ne (K_old h349 hq360)]; exact h349 : K359 x = some (0, 23))
  have pf368 := PF.nw pf356 hV364 (K_old h349 hq360)
  have kz370 := hE362.arr kz352
  have hz369 : ∀ j, V365 o323 j = .int 0 := fun j => (congrFun (hV364 _ (K_old kz352 hq360)) j).trans (hz357 j)
  have h371 := KE.nw (KE.new (KE.new (KE.new (KE.new (KE.new (KE.new (KE.new (KE.new (KE.new (KE.new (KE.new (KE.new (KE.new (KE.new (KE.new (KE.new (KE.new (KE.new (KE.new (KE.new (KE.new (KE.new (KE.new KE.rf hq10 hK11) hq25 hK26) hq40 hK41) hq55 hK56) hq70 hK71) hq85 hK86) hq100 hK101) hq115 hK116) hq130 hK131) hq145 hK146) hq160 hK161) hq175 hK176) hq190 hK191) hq205 hK206) hq220 hK221) hq235 hK236) hq250 hK251) hq265 hK266) hq280 hK281) hq295 hK296) hq310 hK311) hq325 hK326) hq342 hK343) h349 hq360
  clear pf356 kz352 hz357
  refine GO.putRF rfl rfl (by decide +kernel) h367 fp_raw_fp_RX12_88 rfl rfl dX12_init_215 (fun V373 e372 => ?_)
  have pf374 := PF.put pf368 e372 rfl
  have hz375 : ∀ j, V373 o323 j = .int 0 := fun j => (uq_ne e372 (Or.inl (K_ne kz370 h367 (by decide)))).trans (hz369 j)
  clear pf368 hz369
  refine GO.aload_n dX12_init_218 rfl rfl ?_
  refine GO.sipush dX12_init_219 rfl ?_
  refine GO.newT (atype := .int) 33 220 gw_89 rfl rfl (fun _ _ h => h) rfl rfl rfl (Or.inr rfl) (fun _ => okv_df rfl rfl rfl) rfl rfl dX12_init_222 (fun o376 K377 V383 hq378 hK379 hE380 h381 hz384 hV382 => ?_)
  have h385 := (by rw [hK379, updK_ne (K_old h367 hq378)]; exact h367 : K377 x = some (0, 23))
  have pf386 := PF.nw pf374 hV382 (K_old h367 hq378)
  have kz388 := hE380.arr kz370
  have hz387 : ∀ j, V383 o323 j = .int 0 := fun j => (congrFun (hV382 _ (K_old kz370 hq378)) j).trans (hz375 j)
  have h389 := KE.nw (KE.new (KE.new (KE.new (KE.new (KE.new (KE.new (KE.new (KE.new (KE.new (KE.new (KE.new (KE.new (KE.new (KE.new (KE.new (KE.new (KE.new (KE.new (KE.new (KE.new (KE.new (KE.new (KE.new (KE.new KE.rf hq10 hK11) hq25 hK26) hq40 hK41) hq55 hK56) hq70 hK71) hq85 hK86) hq100 hK101) hq115 hK116) hq130 hK131) hq145 hK146) hq160 hK161) hq175 hK176) hq190 hK191) hq205 hK206) hq220 hK221) hq235 hK236) hq250 hK251) hq265 hK266) hq280 hK281) hq295 hK296) hq310 hK311) hq325 hK326) hq342 hK343) hq360 hK361) h367 hq378
  clear pf374 kz370 hz375
  refine GO.putRF rfl rfl (by decide +kernel) h385 fp_raw_fp_RX12_91 rfl rfl dX12_init_224 (fun V391 e390 => ?_)
  have pf392 := PF.put pf386 e390 rfl
  have hz393 : ∀ j, V391 o323 j = .int 0 := fun j => (uq_ne e390 (Or.inl (K_ne kz388 h385 (by decide)))).trans (hz387 j)
  clear pf386 hz387
  refine GO.aload_n dX12_init_227 rfl rfl ?_
  refine GO.bipush dX12_init_228 rfl ?_
  refine GO.newT (atype := .int) 34 12 gw_89 rfl rfl (fun _ _ h => h) rfl rfl rfl (Or.inr rfl) (fun _ => okv_df rfl rfl rfl) rfl rfl dX12_init_230 (fun o394 K395 V401 hq396 hK397 hE398 h399 hz402 hV400 => ?_)
  have h403 := (by rw [hK397, updK_ne (K_old h385 hq396)]; exact h385 : K395 x = some (0, 23))
  have pf404 := PF.nw pf392 hV400 (K_old h385 hq396)
  have kz406 := hE398.arr kz388
  have hz405 : ∀ j, V401 o323 j = .int 0 := fun j => (congrFun (hV400 _ (K_old kz388 hq396)) j).trans (hz393 j)
  have h407 := KE.nw (KE.new (KE.new (KE.new (KE.new (KE.new (KE.new (KE.new (KE.new (KE.new (KE.new (KE.new (KE.new (KE.new (KE.new (KE.new (KE.new (KE.new (KE.new (KE.new (KE.new (KE.new (KE.new (KE.new (KE.new (KE.new KE.rf hq10 hK11) hq25 hK26) hq40 hK41) hq55 hK56) hq70 hK71) hq85 hK86) hq100 hK101) hq115 hK116) hq130 hK131) hq145 hK146) hq160 hK161) hq175 hK176) hq190 hK191) hq205 hK206) hq220 hK221) hq235 hK236) hq250 hK251) hq265 hK266) hq280 hK281) hq295 hK296) hq310 hK311) hq325 hK326) hq342 hK343) hq360 hK361) hq378 hK379) h385 hq396
  clear pf392 kz388 hz393
  refine GO.putRF rfl rfl (by decide +kernel) h403 fp_raw_fp_RX12_94 rfl rfl dX12_init_232 (fun V409 e408 => ?_)
  have pf410 := PF.put pf404 e408 rfl
  have hz411 : ∀ j, V409 o323 j = .int 0 := fun j => (uq_ne e408 (Or.inl (K_ne kz406 h403 (by decide)))).trans (hz405 j)
  clear pf404 hz405
  refine GO.aload_n dX12_init_235 rfl rfl ?_
  refine GO.bipush dX12_init_236 rfl ?_
  refine GO.newT (atype := .int) 35 12 gw_89 rfl rfl (fun _ _ h => h) rfl rfl rfl (Or.inr rfl) (fun _ => okv_df rfl rfl rfl) rfl rfl dX12_init_238 (fun o412 K413 V419 hq414 hK415 hE416 h417 hz420 hV418 => ?_)
  have h421 := (by rw [hK415, updK_ne (K_old h403 hq414)]; exact h403 : K413 x = some (0, 23))
  have pf422 := PF.nw pf410 hV418 (K_old h403 hq414)
  have kz424 := hE416.arr kz406
  have hz423 : ∀ j, V419 o323 j = .int 0 := fun j => (congrFun (hV418 _ (K_old kz406 hq414)) j).trans (hz411 j)
  have h425 := KE.nw (KE.new (KE.new (KE.new (KE.new (KE.new (KE.new (KE.new (KE.new (KE.new (KE.new (KE.new (KE.new (KE.new (KE.new (KE.new (KE.new (KE.new (KE.new (KE.new (KE.new (KE.new (KE.new (KE.new (KE.new (KE.new (KE.new KE.rf hq10 hK11) hq25 hK26) hq40 hK41) hq55 hK56) hq70 hK71) hq85 hK86) hq100 hK101) hq115 hK116) hq130 hK131) hq145 hK146) hq160 hK161) hq175 hK176) hq190 hK191) hq205 hK206) hq220 hK221) hq235 hK236) hq250 hK251) hq265 hK266) hq280 hK281) hq295 hK296) hq310 hK311) hq325 hK326) hq342 hK343) hq360 hK361) hq378 hK379) hq396 hK397) h403 hq414
  clear pf410 kz406 hz411
  refine GO.putRF rfl rfl (by decide +kernel) h421 fp_raw_fp_RX12_97 rfl rfl dX12_init_240 (fun V427 e426 => ?_)
  have pf428 := PF.put pf422 e426 rfl
  have hz429 : ∀ j, V427 o323 j = .int 0 := fun j => (uq_ne e426 (Or.inl (K_ne kz424 h421 (by decide)))).trans (hz423 j)
  clear pf422 hz423
  refine GO.aload_n dX12_init_243 rfl rfl ?_
  refine GO.bipush dX12_init_244 rfl ?_
  refine GO.newT (atype := .int) 36 12 gw_89 rfl rfl (fun _ _ h => h) rfl rfl rfl (Or.inr rfl) (fun _ => okv_df rfl rfl rfl) rfl rfl dX12_init_246 (fun o430 K431 V437 hq432 hK433 hE434 h435 hz438 hV436 => ?_)
  have h439 := (by rw [hK433, updK_ne (K_old h421 hq432)]; exact h421 : K431 x = some (0, 23))
  have pf440 := PF.nw pf428 hV436 (K_old h421 hq432)
  have kz442 := hE434.arr kz424
  have hz441 : ∀ j, V437 o323 j = .int 0 := fun j => (congrFun (hV436 _ (K_old kz424 hq432)) j).trans (hz429 j)
  have h443 := KE.nw (KE.new (KE.new (KE.new (KE.new (KE.new (KE.new (KE.new (KE.new (KE.new (KE.new (KE.new (KE.new (KE.new (KE.new (KE.new (KE.new (KE.new (KE.new (KE.new (KE.new (KE.new (KE.new (KE.new (KE.new (KE.new (KE.new (KE.new KE.rf hq10 hK11) hq25 hK26) hq40 hK41) hq55 hK56) hq70 hK71) hq85 hK86) hq100 hK101) hq115 hK116) hq130 hK131) hq145 hK146) hq160 hK161) hq175 hK176) hq190 hK191) hq205 hK206) hq220 hK221) hq235 hK236) hq250 hK251) hq265 hK266) hq280 hK281) hq295 hK296) hq310 hK311) hq325 hK326) hq342 hK343) hq360 hK361) hq378 hK379) hq396 hK397) hq414 hK415) h421 hq432
  clear pf428 kz424 hz429
  refine GO.putRF rfl rfl (by decide +kernel) h439 fp_raw_fp_RX12_100 rfl rfl dX12_init_248 (fun V445 e444 => ?_)
  have pf446 := PF.put pf440 e444 rfl
  have hz447 : ∀ j, V445 o323 j = .int 0 := fun j => (uq_ne e444 (Or.inl (K_ne kz442 h439 (by decide)))).trans (hz441 j)
  clear pf440 hz441
  refine GO.aload_n dX12_init_251 rfl rfl ?_
  refine GO.bipush dX12_init_252 rfl ?_
  refine GO.newT (atype := .int) 37 12 gw_89 rfl rfl (fun _ _ h => h) rfl rfl rfl (Or.inr rfl) (fun _ => okv_df rfl rfl rfl) rfl rfl dX12_init_254 (fun o448 K449 V455 hq450 hK451 hE452 h453 hz456 hV454 => ?_)
  have h457 := (by rw [hK451, updK_ne (K_old h439 hq450)]; exact h439 : K449 x = some (0, 23))
  have pf458 := PF.nw pf446 hV454 (K_old h439 hq450)
  have kz460 := hE452.arr kz442
  have hz459 : ∀ j, V455 o323 j = .int 0 := fun j => (congrFun (hV454 _ (K_old kz442 hq450)) j).trans (hz447 j)
  have h461 := KE.nw (KE.new (KE.new (KE.new (KE.new (KE.new (KE.new (KE.new (KE.new (KE.new (KE.new (KE.new (KE.new (KE.new (KE.new (KE.new (KE.new (KE.new (KE.new (KE.new (KE.new (KE.new (KE.new (KE.new (KE.new (KE.new (KE.new (KE.new (KE.new KE.rf hq10 hK11) hq25 hK26) hq40 hK41) hq55 hK56) hq70 hK71) hq85 hK86) hq100 hK101) hq115 hK116) hq130 hK131) hq145 hK146) hq160 hK161) hq175 hK176) hq190 hK191) hq205 hK206) hq220 hK221) hq235 hK236) hq250 hK251) hq265 hK266) hq280 hK281) hq295 hK296) hq310 hK311) hq325 hK326) hq342 hK343) hq360 hK361) hq378 hK379) hq396 hK397) hq414 hK415) hq432 hK433) h439 hq450
  clear pf446 kz442 hz447
  refine GO.putRF rfl rfl (by decide +kernel) h457 fp_raw_fp_RX12_103 rfl rfl dX12_init_256 (fun V463 e462 => ?_)
  have pf464 := PF.put pf458 e462 rfl
  have hz465 : ∀ j, V463 o323 j = .int 0 := fun j => (uq_ne e462 (Or.inl (K_ne kz460 h457 (by decide)))).trans (hz459 j)
  clear pf458 hz459
  refine GO.aload_n dX12_init_259 rfl rfl ?_
  refine GO.bipush dX12_init_260 rfl ?_
  refine GO.newT (atype := .int) 38 12 gw_89 rfl rfl (fun _ _ h => h) rfl rfl rfl (Or.inr rfl) (fun _ => okv_df rfl rfl rfl) rfl rfl dX12_init_262 (fun o466 K467 V473 hq468 hK469 hE470 h471 hz474 hV472 => ?_)
  have h475 := (by rw [hK469, updK_ne (K_old h457 hq468)]; exact h457 : K467 x = some (0, 23))
  have pf476 := PF.nw pf464 hV472 (K_old h457 hq468)
  have kz478 := hE470.arr kz460
  have hz477 : ∀ j, V473 o323 j = .int 0 := fun j => (congrFun (hV472 _ (K_old kz460 hq468)) j).trans (hz465 j)
  have h479 := KE.nw (KE.new (KE.new (KE.new (KE.new (KE.new (KE.new (KE.new (KE.new (KE.new (KE.new (KE.new (KE.new (KE.new (KE.new (KE.new (KE.new (KE.new (KE.new (KE.new (KE.new (KE.new (KE.new (KE.new (KE.new (KE.new (KE.new (KE.new (KE.new (KE.new KE.rf hq10 hK11) hq25 hK26) hq40 hK41) hq55 hK56) hq70 hK71) hq85 hK86) hq100 hK101) hq115 hK116) hq130 hK131) hq145 hK146) hq160 hK161) hq175 hK176) hq190 hK191) hq205 hK206) hq220 hK221) hq235 hK236) hq250 hK251) hq265 hK266) hq280 hK281) hq295 hK296) hq310 hK311) hq325 hK326) hq342 hK343) hq360 hK361) hq378 hK379) hq396 hK397) hq414 hK415) hq432 hK433) hq450 hK451) h457 hq468
  clear pf464 kz460 hz465
  refine GO.putRF rfl rfl (by decide +kernel) h475 fp_raw_fp_RX12_106 rfl rfl dX12_init_264 (fun V481 e480 => ?_)
  have pf482 := PF.put pf476 e480 rfl
  have hz483 : ∀ j, V481 o323 j = .int 0 := fun j => (uq_ne e480 (Or.inl (K_ne kz478 h475 (by decide)))).trans (hz477 j)
  clear pf476 hz477
  refine GO.aload_n dX12_init_267 rfl rfl ?_
  refine GO.bipush dX12_init_268 rfl ?_
  refine GO.newT (atype := .int) 39 12 gw_89 rfl rfl (fun _ _ h => h) rfl rfl rfl (Or.inr rfl) (fun _ => okv_df rfl rfl rfl) rfl rfl dX12_init_270 (fun o484 K485 V491 hq486 hK487 hE488 h489 hz492 hV490 => ?_)
  have h493 := (by rw [hK487, updK_ne (K_old h475 hq486)]; exact h475 : K485 x = some (0, 23))
  have pf494 := PF.nw pf482 hV490 (K_old h475 hq486)
  have kz496 := hE488.arr kz478
  have hz495 : ∀ j, V491 o323 j = .int 0 := fun j => (congrFun (hV490 _ (K_old kz478 hq486)) j).trans (hz483 j)
  have h497 := KE.nw (KE.new (KE.new (KE.new (KE.new (KE.new (KE.new (KE.new (KE.new (KE.new (KE.new (KE.new (KE.new (KE.new (KE.new (KE.new (KE.new (KE.new (KE.new (KE.new (KE.new (KE.new (KE.new (KE.new (KE.new (KE.new (KE.new (KE.new (KE.new (KE.new (KE.new KE.rf hq10 hK11) hq25 hK26) hq40 hK41) hq55 hK56) hq70 hK71) hq85 hK86) hq100 hK101) hq115 hK116) hq130 hK131) hq145 hK146) hq160 hK161) hq175 hK176) hq190 hK191) hq205 hK206) hq220 hK221) hq235 hK236) hq250 hK251) hq265 hK266) hq280 hK281) hq295 hK296) hq310 hK311) hq325 hK326) hq342 hK343) hq360 hK361) hq378 hK379) hq396 hK397) hq414 hK415) hq432 hK433) hq450 hK451) hq468 hK469) h475 hq486
  clear pf482 kz478 hz483
  refine GO.putRF rfl rfl (by decide +kernel) h493 fp_raw_fp_RX12_109 rfl rfl dX12_init_272 (fun V499 e498 => ?_)
  have pf500 := PF.put pf494 e498 rfl
  have hz501 : ∀ j, V499 o323 j = .int 0 := fun j => (uq_ne e498 (Or.inl (K_ne kz496 h493 (by decide)))).trans (hz495 j)
  clear pf494 hz495
  refine GO.aload_n dX12_init_275 rfl rfl ?_
  refine GO.sipush dX12_init_276 rfl ?_
  refine GO.newT (atype := .int) 40 4400 gw_89 rfl rfl (fun _ _ h => h) rfl rfl rfl (Or.inr rfl) (fun _ => okv_df rfl rfl rfl) rfl rfl dX12_init_279 (fun o502 K503 V509 hq504 hK505 hE506 h507 hz510 hV508 => ?_)
  have h511 := (by rw [hK505, updK_ne (K_old h493 hq504)]; exact h493 : K503 x = some (0, 23))
  have pf512 := PF.nw pf500 hV508 (K_old h493 hq504)
  have kz514 := hE506.arr kz496
  have hz513 : ∀ j, V509 o323 j = .int 0 := fun j => (congrFun (hV508 _ (K_old kz496 hq504)) j).trans (hz501 j)
  have h515 := KE.nw (KE.new (KE.new (KE.new (KE.new (KE.new (KE.new (KE.new (KE.new (KE.new (KE.new (KE.new (KE.new (KE.new (KE.new (KE.new (KE.new (KE.new (KE.new (KE.new (KE.new (KE.new (KE.new (KE.new (KE.new (KE.new (KE.new (KE.new (KE.new (KE.new (KE.new (KE.new KE.rf hq10 hK11) hq25 hK26) hq40 hK41) hq55 hK56) hq70 hK71) hq85 hK86) hq100 hK101) hq115 hK116) hq130 hK131) hq145 hK146) hq160 hK161) hq175 hK176) hq190 hK191) hq205 hK206) hq220 hK221) hq235 hK236) hq250 hK251) hq265 hK266) hq280 hK281) hq295 hK296) hq310 hK311) hq325 hK326) hq342 hK343) hq360 hK361) hq378 hK379) hq396 hK397) hq414 hK415) hq432 hK433) hq450 hK451) hq468 hK469) hq486 hK487) h493 hq504
  clear pf500 kz496 hz501
  refine GO.putRF rfl rfl (by decide +kernel) h511 fp_raw_fp_RX12_112 rfl rfl dX12_init_281 (fun V517 e516 => ?_)
  have pf518 := PF.put pf512 e516 rfl
  have hz519 : ∀ j, V517 o323 j = .int 0 := fun j => (uq_ne e516 (Or.inl (K_ne kz514 h511 (by decide)))).trans (hz513 j)
  clear pf512 hz513
  refine GO.aload_n dX12_init_284 rfl rfl ?_
  refine GO.bipush dX12_init_285 rfl ?_
  refine GO.newT (atype := .int) 41 20 gw_89 rfl rfl (fun _ _ h => h) rfl rfl rfl (Or.inr rfl) (fun _ => okv_df rfl rfl rfl) rfl rfl dX12_init_287 (fun o520 K521 V527 hq522 hK523 hE524 h525 hz528 hV526 => ?_)
  have h529 := (by rw [hK523, updK_ne (K_old h511 hq522)]; exact h511 : K521 x = some (0, 23))
  have pf530 := PF.nw pf518 hV526 (K_old h511 hq522)
  have kz532 := hE524.arr kz514
  have hz531 : ∀ j, V527 o323 j = .int 0 := fun j => (congrFun (hV526 _ (K_old kz514 hq522)) j).trans (hz519 j)
  have h533 := KE.nw (KE.new (KE.new (KE.new (KE.new (KE.new (KE.new (KE.new (KE.new (KE.new (KE.new (KE.new (KE.new (KE.new (KE.new (KE.new (KE.new (KE.new (KE.new (KE.new (KE.new (KE.new (KE.new (KE.new (KE.new (KE.new (KE.new (KE.new (KE.new (KE.new (KE.new (KE.new (KE.new KE.rf hq10 hK11) hq25 hK26) hq40 hK41) hq55 hK56) hq70 hK71) hq85 hK86) hq100 hK101) hq115 hK116) hq130 hK131) hq145 hK146) hq160 hK161) hq175 hK176) hq190 hK191) hq205 hK206) hq220 hK221) hq235 hK236) hq250 hK251) hq265 hK266) hq280 hK281) hq295 hK296) hq310 hK311) hq325 hK326) hq342 hK343) hq360 hK361) hq378 hK379) hq396 hK397) hq414 hK415) hq432 hK433) hq450 hK451) hq468 hK469) hq486 hK487) hq504 hK505) h511 hq522
  clear pf518 kz514 hz519
  refine GO.putRF rfl rfl (by decide +kernel) h529 fp_raw_fp_RX12_115 rfl rfl dX12_init_289 (fun V535 e534 => ?_)
  have pf536 := PF.put pf530 e534 rfl
  have hz537 : ∀ j, V535 o323 j = .int 0 := fun j => (uq_ne e534 (Or.inl (K_ne kz532 h529 (by decide)))).trans (hz531 j)
  clear pf530 hz531
  refine GO.aload_n dX12_init_292 rfl rfl ?_
  refine GO.bipush dX12_init_293 rfl ?_
  refine GO.newT (atype := .int) 42 20 gw_89 rfl rfl (fun _ _ h => h) rfl rfl rfl (Or.inr rfl) (fun _ => okv_df rfl rfl rfl) rfl rfl dX12_init_295 (fun o538 K539 V545 hq540 hK541 hE542 h543 hz546 hV544 => ?_)
  have h547 := (by rw [hK541, updK_ne (K_old h529 hq540)]; exact h529 : K539 x = some (0, 23))
  have pf548 := PF.nw pf536 hV544 (K_old h529 hq540)
  have kz550 := hE542.arr kz532
  have hz549 : ∀ j, V545 o323 j = .int 0 := fun j => (congrFun (hV544 _ (K_old kz532 hq540)) j).trans (hz537 j)
  have h551 := KE.nw (KE.new (KE.new (KE.new (KE.new (KE.new (KE.new (KE.new (KE.new (KE.new (KE.new (KE.new (KE.new (KE.new (KE.new (KE.new (KE.new (KE.new (KE.new (KE.new (KE.new (KE.new (KE.new (KE.new (KE.new (KE.new (KE.new (KE.new (KE.new (KE.new (KE.new (KE.new (KE.new (KE.new KE.rf hq10 hK11) hq25 hK26) hq40 hK41) hq55 hK56) hq70 hK71) hq85 hK86) hq100 hK101) hq115 hK116) hq130 hK131) hq145 hK146) hq160 hK161) hq175 hK176) hq190 hK191) hq205 hK206) hq220 hK221) hq235 hK236) hq250 hK251) hq265 hK266) hq280 hK281) hq295 hK296) hq310 hK311) hq325 hK326) hq342 hK343) hq360 hK361) hq378 hK379) hq396 hK397) hq414 hK415) hq432 hK433) hq450 hK451) hq468 hK469) hq486 hK487) hq504 hK505) hq522 hK523) h529 hq540
  clear pf536 kz532 hz537
  refine GO.putRF rfl rfl (by decide +kernel) h547 fp_raw_fp_RX12_118 rfl rfl dX12_init_297 (fun V553 e552 => ?_)
  have pf554 := PF.put pf548 e552 rfl
  have hz555 : ∀ j, V553 o323 j = .int 0 := fun j => (uq_ne e552 (Or.inl (K_ne kz550 h547 (by decide)))).trans (hz549 j)
  clear pf548 hz549
  refine GO.aload_n dX12_init_300 rfl rfl ?_
  refine GO.bipush dX12_init_301 rfl ?_
  refine GO.newT (atype := .int) 43 20 gw_89 rfl rfl (fun _ _ h => h) rfl rfl rfl (Or.inr rfl) (fun _ => okv_df rfl rfl rfl) rfl rfl dX12_init_303 (fun o556 K557 V563 hq558 hK559 hE560 h561 hz564 hV562 => ?_)
  have h565 := (by rw [hK559, updK_ne (K_old h547 hq558)]; exact h547 : K557 x = some (0, 23))
  have pf566 := PF.nw pf554 hV562 (K_old h547 hq558)
  have kz568 := hE560.arr kz550
  have hz567 : ∀ j, V563 o323 j = .int 0 := fun j => (congrFun (hV562 _ (K_old kz550 hq558)) j).trans (hz555 j)
  have h569 := KE.nw (KE.new (KE.new (KE.new (KE.new (KE.new (KE.new (KE.new (KE.new (KE.new (KE.new (KE.new (KE.new (KE.new (KE.new (KE.new (KE.new (KE.new (KE.new (KE.new (KE.new (KE.new (KE.new (KE.new (KE.new (KE.new (KE.new (KE.new (KE.new (KE.new (KE.new (KE.new (KE.new (KE.new (KE.new KE.rf hq10 hK11) hq25 hK26) hq40 hK41) hq55 hK56) hq70 hK71) hq85 hK86) hq100 hK101) hq115 hK116) hq130 hK131) hq145 hK146) hq160 hK161) hq175 hK176) hq190 hK191) hq205 hK206) hq220 hK221) hq235 hK236) hq250 hK251) hq265 hK266) hq280 hK281) hq295 hK296) hq310 hK311) hq325 hK326) hq342 hK343) hq360 hK361) hq378 hK379) hq396 hK397) hq414 hK415) hq432 hK433) hq450 hK451) hq468 hK469) hq486 hK487) hq504 hK505) hq522 hK523) hq540 hK541) h547 hq558
  clear pf554 kz550 hz555
  refine GO.putRF rfl rfl (by decide +kernel) h565 fp_raw_fp_RX12_121 rfl rfl dX12_init_305 (fun V571 e570 => ?_)
  have pf572 := PF.put pf566 e570 rfl
  have hz573 : ∀ j, V571 o323 j = .int 0 := fun j => (uq_ne e570 (Or.inl (K_ne kz568 h565 (by decide)))).trans (hz567 j)
  clear pf566 hz567
  refine GO.aload_n dX12_init_308 rfl rfl ?_
  refine GO.sipush dX12_init_309 rfl ?_
  refine GO.newT (atype := .int) 44 240 gw_89 rfl rfl (fun _ _ h => h) rfl rfl rfl (Or.inr rfl) (fun _ => okv_df rfl rfl rfl) rfl rfl dX12_init_312 (fun o574 K575 V581 hq576 hK577 hE578 h579 hz582 hV580 => ?_)
  have h583 := (by rw [hK577, updK_ne (K_old h565 hq576)]; exact h565 : K575 x = some (0, 23))
  have pf584 := PF.nw pf572 hV580 (K_old h565 hq576)
  have kz586 := hE578.arr kz568
  have hz585 : ∀ j, V581 o323 j = .int 0 := fun j => (congrFun (hV580 _ (K_old kz568 hq576)) j).trans (hz573 j)
  have h587 := KE.nw (KE.new (KE.new (KE.new (KE.new (KE.new (KE.new (KE.new (KE.new (KE.new (KE.new (KE.new (KE.new (KE.new (KE.new (KE.new (KE.new (KE.new (KE.new (KE.new (KE.new (KE.new (KE.new (KE.new (KE.new (KE.new (KE.new (KE.new (KE.new (KE.new (KE.new (KE.new (KE.new (KE.new (KE.new (KE.new KE.rf hq10 hK11) hq25 hK26) hq40 hK41) hq55 hK56) hq70 hK71) hq85 hK86) hq100 hK101) hq115 hK116) hq130 hK131) hq145 hK146) hq160 hK161) hq175 hK176) hq190 hK191) hq205 hK206) hq220 hK221) hq235 hK236) hq250 hK251) hq265 hK266) hq280 hK281) hq295 hK296) hq310 hK311) hq325 hK326) hq342 hK343) hq360 hK361) hq378 hK379) hq396 hK397) hq414 hK415) hq432 hK433) hq450 hK451) hq468 hK469) hq486 hK487) hq504 hK505) hq522 hK523) hq540 hK541) hq558 hK559) h565 hq576
  clear pf572 kz568 hz573
  refine GO.putRF rfl rfl (by decide +kernel) h583 fp_raw_fp_RX12_124 rfl rfl dX12_init_314 (fun V589 e588 => ?_)
  have pf590 := PF.put pf584 e588 rfl
  have hz591 : ∀ j, V589 o323 j = .int 0 := fun j => (uq_ne e588 (Or.inl (K_ne kz586 h583 (by decide)))).trans (hz585 j)
  clear pf584 hz585
  refine GO.aload_n dX12_init_317 rfl rfl ?_
  refine GO.sipush dX12_init_318 rfl ?_
  refine GO.newT (atype := .int) 45 240 gw_89 rfl rfl (fun _ _ h => h) rfl rfl rfl (Or.inr rfl) (fun _ => okv_df rfl rfl rfl) rfl rfl dX12_init_321 (fun o592 K593 V599 hq594 hK595 hE596 h597 hz600 hV598 => ?_)
  have h601 := (by rw [hK595, updK_ne (K_old h583 hq594)]; exact h583 : K593 x = some (0, 23))
  have pf602 := PF.nw pf590 hV598 (K_old h583 hq594)
  have kz604 := hE596.arr kz586
  have hz603 : ∀ j, V599 o323 j = .int 0 := fun j => (congrFun (hV598 _ (K_old kz586 hq594)) j).trans (hz591 j)
  have h605 := KE.nw (KE.new (KE.new (KE.new (KE.new (KE.new (KE.new (KE.new (KE.new (KE.new (KE.new (KE.new (KE.new (KE.new (KE.new (KE.new (KE.new (KE.new (KE.new (KE.new (KE.new (KE.new (KE.new (KE.new (KE.new (KE.new (KE.new (KE.new (KE.new (KE.new (KE.new (KE.new (KE.new (KE.new (KE.new (KE.new (KE.new KE.rf hq10 hK11) hq25 hK26) hq40 hK41) hq55 hK56) hq70 hK71) hq85 hK86) hq100 hK101) hq115 hK116) hq130 hK131) hq145 hK146) hq160 hK161) hq175 hK176) hq190 hK191) hq205 hK206) hq220 hK221) hq235 hK236) hq250 hK251) hq265 hK266) hq280 hK281) hq295 hK296) hq310 hK311) hq325 hK326) hq342 hK343) hq360 hK361) hq378 hK379) hq396 hK397) hq414 hK415) hq432 hK433) hq450 hK451) hq468 hK469) hq486 hK487) hq504 hK505) hq522 hK523) hq540 hK541) hq558 hK559) hq576 hK577) h583 hq594
  clear pf590 kz586 hz591
  refine GO.putRF rfl rfl (by decide +kernel) h601 fp_raw_fp_RX12_127 rfl rfl dX12_init_323 (fun V607 e606 => ?_)
  have pf608 := PF.put pf602 e606 rfl
  have hz609 : ∀ j, V607 o323 j = .int 0 := fun j => (uq_ne e606 (Or.inl (K_ne kz604 h601 (by decide)))).trans (hz603 j)
  clear pf602 hz603
  refine GO.aload_n dX12_init_326 rfl rfl ?_
  refine GO.sipush dX12_init_327 rfl ?_
  refine GO.newT (atype := .int) 46 240 gw_89 rfl rfl (fun _ _ h => h) rfl rfl rfl (Or.inr rfl) (fun _ => okv_df rfl rfl rfl) rfl rfl dX12_init_330 (fun o610 K611 V617 hq612 hK613 hE614 h615 hz618 hV616 => ?_)
  have h619 := (by rw [hK613, updK_ne (K_old h601 hq612)]; exact h601 : K611 x = some (0, 23))
  have pf620 := PF.nw pf608 hV616 (K_old h601 hq612)
  have kz622 := hE614.arr kz604
  have hz621 : ∀ j, V617 o323 j = .int 0 := fun j => (congrFun (hV616 _ (K_old kz604 hq612)) j).trans (hz609 j)
  have h623 := KE.nw (KE.new (KE.new (KE.new (KE.new (KE.new (KE.new (KE.new (KE.new (KE.new (KE.new (KE.new (KE.new (KE.new (KE.new (KE.new (KE.new (KE.new (KE.new (KE.new (KE.new (KE.new (KE.new (KE.new (KE.new (KE.new (KE.new (KE.new (KE.new (KE.new (KE.new (KE.new (KE.new (KE.new (KE.new (KE.new (KE.new (KE.new KE.rf hq10 hK11) hq25 hK26) hq40 hK41) hq55 hK56) hq70 hK71) hq85 hK86) hq100 hK101) hq115 hK116) hq130 hK131) hq145 hK146) hq160 hK161) hq175 hK176) hq190 hK191) hq205 hK206) hq220 hK221) hq235 hK236) hq250 hK251) hq265 hK266) hq280 hK281) hq295 hK296) hq310 hK311) hq325 hK326) hq342 hK343) hq360 hK361) hq378 hK379) hq396 hK397) hq414 hK415) hq432 hK433) hq450 hK451) hq468 hK469) hq486 hK487) hq504 hK505) hq522 hK523) hq540 hK541) hq558 hK559) hq576 hK577) hq594 hK595) h601 hq612
  clear pf608 kz604 hz609
  refine GO.putRF rfl rfl (by decide +kernel) h619 fp_raw_fp_RX12_130 rfl rfl dX12_init_332 (fun V625 e624 => ?_)
  have pf626 := PF.put pf620 e624 rfl
  have hz627 : ∀ j, V625 o323 j = .int 0 := fun j => (uq_ne e624 (Or.inl (K_ne kz622 h619 (by decide)))).trans (hz621 j)
  clear pf620 hz621
  refine GO.aload_n dX12_init_335 rfl rfl ?_
  refine GO.sipush dX12_init_336 rfl ?_
  refine GO.newT (atype := .int) 47 240 gw_89 rfl rfl (fun _ _ h => h) rfl rfl rfl (Or.inr rfl) (fun _ => okv_df rfl rfl rfl) rfl rfl dX12_init_339 (fun o628 K629 V635 hq630 hK631 hE632 h633 hz636 hV634 => ?_)
  have h637 := (by rw [hK631, updK_ne (K_old h619 hq630)]; exact h619 : K629 x = some (0, 23))
  have pf638 := PF.nw pf626 hV634 (K_old h619 hq630)
  have kz640 := hE632.arr kz622
  have hz639 : ∀ j, V635 o323 j = .int 0 := fun j => (congrFun (hV634 _ (K_old kz622 hq630)) j).trans (hz627 j)
  have h641 := KE.nw (KE.new (KE.new (KE.new (KE.new (KE.new (KE.new (KE.new (KE.new (KE.new (KE.new (KE.new (KE.new (KE.new (KE.new (KE.new (KE.new (KE.new (KE.new (KE.new (KE.new (KE.new (KE.new (KE.new (KE.new (KE.new (KE.new (KE.new (KE.new (KE.new (KE.new (KE.new (KE.new (KE.new (KE.new (KE.new (KE.new (KE.new (KE.new KE.rf hq10 hK11) hq25 hK26) hq40 hK41) hq55 hK56) hq70 hK71) hq85 hK86) hq100 hK101) hq115 hK116) hq130 hK131) hq145 hK146) hq160 hK161) hq175 hK176) hq190 hK191) hq205 hK206) hq220 hK221) hq235 hK236) hq250 hK251) hq265 hK266) hq280 hK281) hq295 hK296) hq310 hK311) hq325 hK326) hq342 hK343) hq360 hK361) hq378 hK379) hq396 hK397) hq414 hK415) hq432 hK433) hq450 hK451) hq468 hK469) hq486 hK487) hq504 hK505) hq522 hK523) hq540 hK541) hq558 hK559) hq576 hK577) hq594 hK595) hq612 hK613) h619 hq630
  clear pf626 kz622 hz627
  refine GO.putRF rfl rfl (by decide +kernel) h637 fp_raw_fp_RX12_133 rfl rfl dX12_init_341 (fun V643 e642 => ?_)
  have pf644 := PF.put pf638 e642 rfl
  have hz645 : ∀ j, V643 o323 j = .int 0 := fun j => (uq_ne e642 (Or.inl (K_ne kz640 h637 (by decide)))).trans (hz639 j)
  clear pf638 hz639
  refine GO.aload_n dX12_init_344 rfl rfl ?_
  refine GO.sipush dX12_init_345 rfl ?_
  refine GO.newT (atype := .int) 48 240 gw_89 rfl rfl (fun _ _ h => h) rfl rfl rfl (Or.inr rfl) (fun _ => okv_df rfl rfl rfl) rfl rfl dX12_init_348 (fun o646 K647 V653 hq648 hK649 hE650 h651 hz654 hV652 => ?_)
  have h655 := (by rw [hK649, updK_ne (K_old h637 hq648)]; exact h637 : K647 x = some (0, 23))
  have pf656 := PF.nw pf644 hV652 (K_old h637 hq648)
  have kz658 := hE650.arr kz640
  have hz657 : ∀ j, V653 o323 j = .int 0 := fun j => (congrFun (hV652 _ (K_old kz640 hq648)) j).trans (hz645 j)
  have h659 := KE.nw (KE.new (KE.new (KE.new (KE.new (KE.new (KE.new (KE.new (KE.new (KE.new (KE.new (KE.new (KE.new (KE.new (KE.new (KE.new (KE.new (KE.new (KE.new (KE.new (KE.new (KE.new (KE.new (KE.new (KE.new (KE.new (KE.new (KE.new (KE.new (KE.new (KE.new (KE.new (KE.new (KE.new (KE.new (KE.new (KE.new (KE.new (KE.new (KE.new KE.rf hq10 hK11) hq25 hK26) hq40 hK41) hq55 hK56) hq70 hK71) hq85 hK86) hq100 hK101) hq115 hK116) hq130 hK131) hq145 hK146) hq160 hK161) hq175 hK176) hq190 hK191) hq205 hK206) hq220 hK221) hq235 hK236) hq250 hK251) hq265 hK266) hq280 hK281) hq295 hK296) hq310 hK311) hq325 hK326) hq342 hK343) hq360 hK361) hq378 hK379) hq396 hK397) hq414 hK415) hq432 hK433) hq450 hK451) hq468 hK469) hq486 hK487) hq504 hK505) hq522 hK523) hq540 hK541) hq558 hK559) hq576 hK577) hq594 hK595) hq612 hK613) hq630 hK631) h637 hq648
  clear pf644 kz640 hz645
  refine GO.putRF rfl rfl (by decide +kernel) h655 fp_raw_fp_RX12_136 rfl rfl dX12_init_350 (fun V661 e660 => ?_)
  have pf662 := PF.put pf656 e660 rfl
  have hz663 : ∀ j, V661 o323 j = .int 0 := fun j => (uq_ne e660 (Or.inl (K_ne kz658 h655 (by decide)))).trans (hz657 j)
  clear pf656 hz657
  refine GO.aload_n dX12_init_353 rfl rfl ?_
  refine GO.sipush dX12_init_354 rfl ?_
  refine GO.newT (atype := .int) 49 240 gw_89 rfl rfl (fun _ _ h => h) rfl rfl rfl (Or.inr rfl) (fun _ => okv_df rfl rfl rfl) rfl rfl dX12_init_357 (fun o664 K665 V671 hq666 hK667 hE668 h669 hz672 hV670 => ?_)
  have h673 := (by rw [hK667, updK_ne (K_old h655 hq666)]; exact h655 : K665 x = some (0, 23))
  have pf674 := PF.nw pf662 hV670 (K_old h655 hq666)
  have kz676 := hE668.arr kz658
  have hz675 : ∀ j, V671 o323 j = .int 0 := fun j => (congrFun (hV670 _ (K_old kz658 hq666)) j).trans (hz663 j)
  have h677 := KE.nw (KE.new (KE.new (KE.new (KE.new (KE.new (KE.new (KE.new (KE.new (KE.new (KE.new (KE.new (KE.new (KE.new (KE.new (KE.new (KE.new (KE.new (KE.new (KE.new (KE.new (KE.new (KE.new (KE.new (KE.new (KE.new (KE.new (KE.new (KE.new (KE.new (KE.new (KE.new (KE.new (KE.new (KE.new (KE.new (KE.new (KE.new (KE.new (KE.new (KE.new KE.rf hq10 hK11) hq25 hK26) hq40 hK41) hq55 hK56) hq70 hK71) hq85 hK86) hq100 hK101) hq115 hK116) hq130 hK131) hq145 hK146) hq160 hK161) hq175 hK176) hq190 hK191) hq205 hK206) hq220 hK221) hq235 hK236) hq250 hK251) hq265 hK266) hq280 hK281) hq295 hK296) hq310 hK311) hq325 hK326) hq342 hK343) hq360 hK361) hq378 hK379) hq396 hK397) hq414 hK415) hq432 hK433) hq450 hK451) hq468 hK469) hq486 hK487) hq504 hK505) hq522 hK523) hq540 hK541) hq558 hK559) hq576 hK577) hq594 hK595) hq612 hK613) hq630 hK631) hq648 hK649) h655 hq666
  clear pf662 kz658 hz663
  refine GO.putRF rfl rfl (by decide +kernel) h673 fp_raw_fp_RX12_139 rfl rfl dX12_init_359 (fun V679 e678 => ?_)
  have pf680 := PF.put pf674 e678 rfl
  have hz681 : ∀ j, V679 o323 j = .int 0 := fun j => (uq_ne e678 (Or.inl (K_ne kz676 h673 (by decide)))).trans (hz675 j)
  clear pf674 hz675
  refine GO.aload_n dX12_init_362 rfl rfl ?_
  refine GO.sipush dX12_init_363 rfl ?_
  refine GO.newT (atype := .int) 50 180 gw_89 rfl rfl (fun _ _ h => h) rfl rfl rfl (Or.inr rfl) (fun _ => okv_df rfl rfl rfl) rfl rfl dX12_init_366 (fun o682 K683 V689 hq684 hK685 hE686 h687 hz690 hV688 => ?_)
  have h691 := (by rw [hK685, updK_ne (K_old h673 hq684)]; exact h673 : K683 x = some (0, 23))
  have pf692 := PF.nw pf680 hV688 (K_old h673 hq684)
  have kz694 := hE686.arr kz676
  have hz693 : ∀ j, V689 o323 j = .int 0 := fun j => (congrFun (hV688 _ (K_old kz676 hq684)) j).trans (hz681 j)
  have h695 := KE.nw (KE.new (KE.new (KE.new (KE.new (KE.new (KE.new (KE.new (KE.new (KE.new (KE.new (KE.new (KE.new (KE.new (KE.new (KE.new (KE.new (KE.new (KE.new (KE.new (KE.new (KE.new (KE.new (KE.new (KE.new (KE.new (KE.new (KE.new (KE.new (KE.new (KE.new (KE.new (KE.new (KE.new (KE.new (KE.new (KE.new (KE.new (KE.new (KE.new (KE.new (KE.new KE.rf hq10 hK11) hq25 hK26) hq40 hK41) hq55 hK56) hq70 hK71) hq85 hK86) hq100 hK101) hq115 hK116) hq130 hK131) hq145 hK146) hq160 hK161) hq175 hK176) hq190 hK191) hq205 hK206) hq220 hK221) hq235 hK236) hq250 hK251) hq265 hK266) hq280 hK281) hq295 hK296) hq310 hK311) hq325 hK326) hq342 hK343) hq360 hK361) hq378 hK379) hq396 hK397) hq414 hK415) hq432 hK433) hq450 hK451) hq468 hK469) hq486 hK487) hq504 hK505) hq522 hK523) hq540 hK541) hq558 hK559) hq576 hK577) hq594 hK595) hq612 hK613) hq630 hK631) hq648 hK649) hq666 hK667) h673 hq684
  clear pf680 kz676 hz681
  refine GO.putRF rfl rfl (by decide +kernel) h691 fp_raw_fp_RX12_142 rfl rfl dX12_init_368 (fun V697 e696 => ?_)
  have pf698 := PF.put pf692 e696 rfl
  have hz699 : ∀ j, V697 o323 j = .int 0 := fun j => (uq_ne e696 (Or.inl (K_ne kz694 h691 (by decide)))).trans (hz693 j)
  clear pf692 hz693
  refine GO.aload_n dX12_init_371 rfl rfl ?_
  refine GO.sipush dX12_init_372 rfl ?_
  refine GO.newT (atype := .int) 51 2200 gw_89 rfl rfl (fun _ _ h => h) rfl rfl rfl (Or.inr rfl) (fun _ => okv_df rfl rfl rfl) rfl rfl dX12_init_375 (fun o700 K701 V707 hq702 hK703 hE704 h705 hz708 hV706 => ?_)
  have h709 := (by rw [hK703, updK_ne (K_old h691 hq702)]; exact h691 : K701 x = some (0, 23))
  have pf710 := PF.nw pf698 hV706 (K_old h691 hq702)
  have kz712 := hE704.arr kz694
  have hz711 : ∀ j, V707 o323 j = .int 0 := fun j => (congrFun (hV706 _ (K_old kz694 hq702)) j).trans (hz699 j)
  have h713 := KE.nw (KE.new (KE.new (KE.new (KE.new (KE.new (KE.new (KE.new (KE.new (KE.new (KE.new (KE.new (KE.new (KE.new (KE.new (KE.new (KE.new (KE.new (KE.new (KE.new (KE.new (KE.new (KE.new (KE.new (KE.new (KE.new (KE.new (KE.new (KE.new (KE.new (KE.new (KE.new (KE.new (KE.new (KE.new (KE.new (KE.new (KE.new (KE.new (KE.new (KE.new (KE.new (KE.new KE.rf hq10 hK11) hq25 hK26) hq40 hK41) hq55 hK56) hq70 hK71) hq85 hK86) hq100 hK101) hq115 hK116) hq130 hK131) hq145 hK146) hq160 hK161) hq175 hK176) hq190 hK191) hq205 hK206) hq220 hK221) hq235 hK236) hq250 hK251) hq265 hK266) hq280 hK281) hq295 hK296) hq310 hK311) hq325 hK326) hq342 hK343) hq360 hK361) hq378 hK379) hq396 hK397) hq414 hK415) hq432 hK433) hq450 hK451) hq468 hK469) hq486 hK487) hq504 hK505) hq522 hK523) hq540 hK541) hq558 hK559) hq576 hK577) hq594 hK595) hq612 hK613) hq630 hK631) hq648 hK649) hq666 hK667) hq684 hK685) h691 hq702
  clear pf698 kz694 hz699
  refine GO.putRF rfl rfl (by decide +kernel) h709 fp_raw_fp_RX12_145 rfl rfl dX12_init_377 (fun V715 e714 => ?_)
  have pf716 := PF.put pf710 e714 rfl
  have hz717 : ∀ j, V715 o323 j = .int 0 := fun j => (uq_ne e714 (Or.inl (K_ne kz712 h709 (by decide)))).trans (hz711 j)
  clear pf710 hz711
  refine GO.aload_n dX12_init_380 rfl rfl ?_
  refine GO.bipush dX12_init_381 rfl ?_
  refine GO.newT (atype := .int) 52 20 gw_89 rfl rfl (fun _ _ h => h) rfl rfl rfl (Or.inr rfl) (fun _ => okv_df rfl rfl rfl) rfl rfl dX12_init_383 (fun o718 K719 V725 hq720 hK721 hE722 h723 hz726 hV724 => ?_)
  have h727 := (by rw [hK721, updK_ne (K_old h709 hq720)]; exact h709 : K719 x = some (0, 23))
  have pf728 := PF.nw pf716 hV724 (K_old h709 hq720)
  have kz730 := hE722.arr kz712
  have hz729 : ∀ j, V725 o323 j = .int 0 := fun j => (congrFun (hV724 _ (K_old kz712 hq720)) j).trans (hz717 j)
  have h731 := KE.nw (KE.new (KE.new (KE.new (KE.new (KE.new (KE.new (KE.new (KE.new (KE.new (KE.new (KE.new (KE.new (KE.new (KE.new (KE.new (KE.new (KE.new (KE.new (KE.new (KE.new (KE.new (KE.new (KE.new (KE.new (KE.new (KE.new (KE.new (KE.new (KE.new (KE.new (KE.new (KE.new (KE.new (KE.new (KE.new (KE.new (KE.new (KE.new (KE.new (KE.new (KE.new (KE.new (KE.new KE.rf hq10 hK11) hq25 hK26) hq40 hK41) hq55 hK56) hq70 hK71) hq85 hK86) hq100 hK101) hq115 hK116) hq130 hK131) hq145 hK146) hq160 hK161) hq175 hK176) hq190 hK191) hq205 hK206) hq220 hK221) hq235 hK236) hq250 hK251) hq265 hK266) hq280 hK281) hq295 hK296) hq310 hK311) hq325 hK326) hq342 hK343) hq360 hK361) hq378 hK379) hq396 hK397) hq414 hK415) hq432 hK433) hq450 hK451) hq468 hK469) hq486 hK487) hq504 hK505) hq522 hK523) hq540 hK541) hq558 hK559) hq576 hK577) hq594 hK595) hq612 hK613) hq630 hK631) hq648 hK649) hq666 hK667) hq684 hK685) hq702 hK703) h709 hq720
  clear pf716 kz712 hz717
  refine GO.putRF rfl rfl (by decide +kernel) h727 fp_raw_fp_RX12_148 rfl rfl dX12_init_385 (fun V733 e732 => ?_)
  have pf734 := PF.put pf728 e732 rfl
  have hz735 : ∀ j, V733 o323 j = .int 0 := fun j => (uq_ne e732 (Or.inl (K_ne kz730 h727 (by decide)))).trans (hz729 j)
  clear pf728 hz729
  refine GO.aload_n dX12_init_388 rfl rfl ?_
  refine GO.bipush dX12_init_389 rfl ?_
  refine GO.newT (atype := .int) 53 20 gw_89 rfl rfl (fun _ _ h => h) rfl rfl rfl (Or.inr rfl) (fun _ => okv_df rfl rfl rfl) rfl rfl dX12_init_391 (fun o736 K737 V743 hq738 hK739 hE740 h741 hz744 hV742 => ?_)
  have h745 := (by rw [hK739, updK_ne (K_old h727 hq738)]; exact h727 : K737 x = some (0, 23))
  have pf746 := PF.nw pf734 hV742 (K_old h727 hq738)
  have kz748 := hE740.arr kz730
  have hz747 : ∀ j, V743 o323 j = .int 0 := fun j => (congrFun (hV742 _ (K_old kz730 hq738)) j).trans (hz735 j)
  have h749 := KE.nw (KE.new (KE.new (KE.new (KE.new (KE.new (KE.new (KE.new (KE.new (KE.new (KE.new (KE.new (KE.new (KE.new (KE.new (KE.new (KE.new (KE.new (KE.new (KE.new (KE.new (KE.new (KE.new (KE.new (KE.new (KE.new (KE.new (KE.new (KE.new (KE.new (KE.new (KE.new (KE.new (KE.new (KE.new (KE.new (KE.new (KE.new (KE.new (KE.new (KE.new (KE.new (KE.new (KE.new (KE.new KE.rf hq10 hK11) hq25 hK26) hq40 hK41) hq55 hK56) hq70 hK71) hq85 hK86) hq100 hK101) hq115 hK116) hq130 hK131) hq145 hK146) hq160 hK161) hq175 hK176) hq190 hK191) hq205 hK206) hq220 hK221) hq235 hK236) hq250 hK251) hq265 hK266) hq280 hK281) hq295 hK296) hq310 hK311) hq325 hK326) hq342 hK343) hq360 hK361) hq378 hK379) hq396 hK397) hq414 hK415) hq432 hK433) hq450 hK451) hq468 hK469) hq486 hK487) hq504 hK505) hq522 hK523) hq540 hK541) hq558 hK559) hq576 hK577) hq594 hK595) hq612 hK613) hq630 hK631) hq648 hK649) hq666 hK667) hq684 hK685) hq702 hK703) hq720 hK721) h727 hq738
  clear pf734 kz730 hz735
  refine GO.putRF rfl rfl (by decide +kernel) h745 fp_raw_fp_RX12_151 rfl rfl dX12_init_393 (fun V751 e750 => ?_)
  have pf752 := PF.put pf746 e750 rfl
  have hz753 : ∀ j, V751 o323 j = .int 0 := fun j => (uq_ne e750 (Or.inl (K_ne kz748 h745 (by decide)))).trans (hz747 j)
  clear pf746 hz747
  refine GO.aload_n dX12_init_396 rfl rfl ?_
  refine GO.bipush dX12_init_397 rfl ?_
  refine GO.newT (atype := .int) 54 20 gw_89 rfl rfl (fun _ _ h => h) rfl rfl rfl (Or.inr rfl) (fun _ => okv_df rfl rfl rfl) rfl rfl dX12_init_399 (fun o754 K755 V761 hq756 hK757 hE758 h759 hz762 hV760 => ?_)
  have h763 := (by rw [hK757, updK_ne (K_old h745 hq756)]; exact h745 : K755 x = some (0, 23))
  have pf764 := PF.nw pf752 hV760 (K_old h745 hq756)
  have kz766 := hE758.arr kz748
  have hz765 : ∀ j, V761 o323 j = .int 0 := fun j => (congrFun (hV760 _ (K_old kz748 hq756)) j).trans (hz753 j)
  have h767 := KE.nw (KE.new (KE.new (KE.new (KE.new (KE.new (KE.new (KE.new (KE.new (KE.new (KE.new (KE.new (KE.new (KE.new (KE.new (KE.new (KE.new (KE.new (KE.new (KE.new (KE.new (KE.new (KE.new (KE.new (KE.new (KE.new (KE.new (KE.new (KE.new (KE.new (KE.new (KE.new (KE.new (KE.new (KE.new (KE.new (KE.new (KE.new (KE.new (KE.new (KE.new (KE.new (KE.new (KE.new (KE.new (KE.new KE.rf hq10 hK11) hq25 hK26) hq40 hK41) hq55 hK56) hq70 hK71) hq85 hK86) hq100 hK101) hq115 hK116) hq130 hK131) hq145 hK146) hq160 hK161) hq175 hK176) hq190 hK191) hq205 hK206) hq220 hK221) hq235 hK236) hq250 hK251) hq265 hK266) hq280 hK281) hq295 hK296) hq310 hK311) hq325 hK326) hq342 hK343) hq360 hK361) hq378 hK379) hq396 hK397) hq414 hK415) hq432 hK433) hq450 hK451) hq468 hK469) hq486 hK487) hq504 hK505) hq522 hK523) hq540 hK541) hq558 hK559) hq576 hK577) hq594 hK595) hq612 hK613) hq630 hK631) hq648 hK649) hq666 hK667) hq684 hK685) hq702 hK703) hq720 hK721) hq738 hK739) h745 hq756
  clear pf752 kz748 hz753
  refine GO.putRF rfl rfl (by decide +kernel) h763 fp_raw_fp_RX12_154 rfl rfl dX12_init_401 (fun V769 e768 => ?_)
  have pf770 := PF.put pf764 e768 rfl
  have hz771 : ∀ j, V769 o323 j = .int 0 := fun j => (uq_ne e768 (Or.inl (K_ne kz766 h763 (by decide)))).trans (hz765 j)
  clear pf764 hz765
  refine GO.aload_n dX12_init_404 rfl rfl ?_
  refine GO.bipush dX12_init_405 rfl ?_
  refine GO.newT (atype := .boolean) 55 20 gw_1936 rfl rfl (fun _ _ h => h) rfl rfl rfl (Or.inr rfl) (fun _ => okv_df rfl rfl rfl) rfl rfl dX12_init_407 (fun o772 K773 V779 hq774 hK775 hE776 h777 hz780 hV778 => ?_)
  have h781 := (by rw [hK775, updK_ne (K_old h763 hq774)]; exact h763 : K773 x = some (0, 23))
  have pf782 := PF.nw pf770 hV778 (K_old h763 hq774)
  have kz784 := hE776.arr kz766
  have hz783 : ∀ j, V779 o323 j = .int 0 := fun j => (congrFun (hV778 _ (K_old kz766 hq774)) j).trans (hz771 j)
  have h785 := KE.nw (KE.new (KE.new (KE.new (KE.new (KE.new (KE.new (KE.new (KE.new (KE.new (KE.new (KE.new (KE.new (KE.new (KE.new (KE.new (KE.new (KE.new (KE.new (KE.new (KE.new (KE.new (KE.new (KE.new (KE.new (KE.new (KE.new (KE.new (KE.new (KE.new (KE.new (KE.new (KE.new (KE.new (KE.new (KE.new (KE.new (KE.new (KE.new (KE.new (KE.new (KE.new (KE.new (KE.new (KE.new (KE.new (KE.new KE.rf hq10 hK11) hq25 hK26) hq40 hK41) hq55 hK56) hq70 hK71) hq85 hK86) hq100 hK101) hq115 hK116) hq130 hK131) hq145 hK146) hq160 hK161) hq175 hK176) hq190 hK191) hq205 hK206) hq220 hK221) hq235 hK236) hq250 hK251) hq265 hK266) hq280 hK281) hq295 hK296) hq310 hK311) hq325 hK326) hq342 hK343) hq360 hK361) hq378 hK379) hq396 hK397) hq414 hK415) hq432 hK433) hq450 hK451) hq468 hK469) hq486 hK487) hq504 hK505) hq522 hK523) hq540 hK541) hq558 hK559) hq576 hK577) hq594 hK595) hq612 hK613) hq630 hK631) hq648 hK649) hq666 hK667) hq684 hK685) hq702 hK703) hq720 hK721) hq738 hK739) hq756 hK757) h763 hq774
  clear pf770 kz766 hz771
  refine GO.putRF rfl rfl (by decide +kernel) h781 fp_raw_fp_RX12_157 rfl rfl dX12_init_409 (fun V787 e786 => ?_)
  have pf788 := PF.put pf782 e786 rfl
  have hz789 : ∀ j, V787 o323 j = .int 0 := fun j => (uq_ne e786 (Or.inl (K_ne kz784 h781 (by decide)))).trans (hz783 j)
  clear pf782 hz783
  refine GO.aload_n dX12_init_412 rfl rfl ?_
  refine GO.sipush dX12_init_413 rfl ?_
  refine GO.newT (atype := .boolean) 56 240 gw_1936 rfl rfl (fun _ _ h => h) rfl rfl rfl (Or.inr rfl) (fun _ => okv_df rfl rfl rfl) rfl rfl dX12_init_416 (fun o790 K791 V797 hq792 hK793 hE794 h795 hz798 hV796 => ?_)
  have h799 := (by rw [hK793, updK_ne (K_old h781 hq792)]; exact h781 : K791 x = some (0, 23))
  have pf800 := PF.nw pf788 hV796 (K_old h781 hq792)
  have kz802 := hE794.arr kz784
  have hz801 : ∀ j, V797 o323 j = .int 0 := fun j => (congrFun (hV796 _ (K_old kz784 hq792)) j).trans (hz789 j)
  have h803 := KE.nw (KE.new (KE.new (KE.new (KE.new (KE.new (KE.new (KE.new (KE.new (KE.new (KE.new (KE.new (KE.new (KE.new (KE.new (KE.new (KE.new (KE.new (KE.new (KE.new (KE.new (KE.new (KE.new (KE.new (KE.new (KE.new (KE.new (KE.new (KE.new (KE.new (KE.new (KE.new (KE.new (KE.new (KE.new (KE.new (KE.new (KE.new (KE.new (KE.new (KE.new (KE.new (KE.new (KE.new (KE.new (KE.new (KE.new (KE.new KE.rf hq10 hK11) hq25 hK26) hq40 hK41) hq55 hK56) hq70 hK71) hq85 hK86) hq100 hK101) hq115 hK116) hq130 hK131) hq145 hK146) hq160 hK161) hq175 hK176) hq190 hK191) hq205 hK206) hq220 hK221) hq235 hK236) hq250 hK251) hq265 hK266) hq280 hK281) hq295 hK296) hq310 hK311) hq325 hK326) hq342 hK343) hq360 hK361) hq378 hK379) hq396 hK397) hq414 hK415) hq432 hK433) hq450 hK451) hq468 hK469) hq486 hK487) hq504 hK505) hq522 hK523) hq540 hK541) hq558 hK559) hq576 hK577) hq594 hK595) hq612 hK613) hq630 hK631) hq648 hK649) hq666 hK667) hq684 hK685) hq702 hK703) hq720 hK721) hq738 hK739) hq756 hK757) hq774 hK775) h781 hq792
  clear pf788 kz784 hz789
  refine GO.putRF rfl rfl (by decide +kernel) h799 fp_raw_fp_RX12_160 rfl rfl dX12_init_418 (fun V805 e804 => ?_)
  have pf806 := PF.put pf800 e804 rfl
  have hz807 : ∀ j, V805 o323 j = .int 0 := fun j => (uq_ne e804 (Or.inl (K_ne kz802 h799 (by decide)))).trans (hz801 j)
  clear pf800 hz801
  refine GO.aload_n dX12_init_421 rfl rfl ?_
  refine GO.bipush dX12_init_422 rfl ?_
  refine GO.newT (atype := .int) 57 100 gw_89 rfl rfl (fun _ _ h => h) rfl rfl rfl (Or.inr rfl) (fun _ => okv_df rfl rfl rfl) rfl rfl dX12_init_424 (fun o808 K809 V815 hq810 hK811 hE812 h813 hz816 hV814 => ?_)
  have h817 := (by rw [hK811, updK_ne (K_old h799 hq810)]; exact h799 : K809 x = some (0, 23))
  have pf818 := PF.nw pf806 hV814 (K_old h799 hq810)
  have kz820 := hE812.arr kz802
  have hz819 : ∀ j, V815 o323 j = .int 0 := fun j => (congrFun (hV814 _ (K_old kz802 hq810)) j).trans (hz807 j)
  have h821 := KE.nw (KE.new (KE.new (KE.new (KE.new (KE.new (KE.new (KE.new (KE.new (KE.new (KE.new (KE.new (KE.new (KE.new (KE.new (KE.new (KE.new (KE.new (KE.new (KE.new (KE.new (KE.new (KE.new (KE.new (KE.new (KE.new (KE.new (KE.new (KE.new (KE.new (KE.new (KE.new (KE.new (KE.new (KE.new (KE.new (KE.new (KE.new (KE.new (KE.new (KE.new (KE.new (KE.new (KE.new (KE.new (KE.new (KE.new (KE.new (KE.new KE.rf hq10 hK11) hq25 hK26) hq40 hK41) hq55 hK56) hq70 hK71) hq85 hK86) hq100 hK101) hq115 hK116) hq130 hK131) hq145 hK146) hq160 hK161) hq175 hK176) hq190 hK191) hq205 hK206) hq220 hK221) hq235 hK236) hq250 hK251) hq265 hK266) hq280 hK281) hq295 hK296) hq310 hK311) hq325 hK326) hq342 hK343) hq360 hK361) hq378 hK379) hq396 hK397) hq414 hK415) hq432 hK433) hq450 hK451) hq468 hK469) hq486 hK487) hq504 hK505) hq522 hK523) hq540 hK541) hq558 hK559) hq576 hK577) hq594 hK595) hq612 hK613) hq630 hK631) hq648 hK649) hq666 hK667) hq684 hK685) hq702 hK703) hq720 hK721) hq738 hK739) hq756 hK757) hq774 hK775) hq792 hK793) h799 hq810
  clear pf806 kz802 hz807
  refine GO.putRF rfl rfl (by decide +kernel) h817 fp_raw_fp_RX12_163 rfl rfl dX12_init_426 (fun V823 e822 => ?_)
  have pf824 := PF.put pf818 e822 rfl
  have hz825 : ∀ j, V823 o323 j = .int 0 := fun j => (uq_ne e822 (Or.inl (K_ne kz820 h817 (by decide)))).trans (hz819 j)
  clear pf818 hz819
  refine GO.aload_n dX12_init_429 rfl rfl ?_
  refine GO.bipush dX12_init_430 rfl ?_
  refine GO.newT (atype := .int) 58 100 gw_89 rfl rfl (fun _ _ h => h) rfl rfl rfl (Or.inr rfl) (fun _ => okv_df rfl rfl rfl) rfl rfl dX12_init_432 (fun o826 K827 V833 hq828 hK829 hE830 h831 hz834 hV832 => ?_)
  have h835 := (by rw [hK829, updK_ne (K_old h817 hq828)]; exact h817 : K827 x = some (0, 23))
  have pf836 := PF.nw pf824 hV832 (K_old h817 hq828)
  have kz838 := hE830.arr kz820
  have hz837 : ∀ j, V833 o323 j = .int 0 := fun j => (congrFun (hV832 _ (K_old kz820 hq828)) j).trans (hz825 j)
  have h839 := KE.nw (KE.new (KE.new (KE.new (KE.new (KE.new (KE.new (KE.new (KE.new (KE.new (KE.new (KE.new (KE.new (KE.new (KE.new (KE.new (KE.new (KE.new (KE.new (KE.new (KE.new (KE.new (KE.new (KE.new (KE.new (KE.new (KE.new (KE.new (KE.new (KE.new (KE.new (KE.new (KE.new (KE.new (KE.new (KE.new (KE.new (KE.new (KE.new (KE.new (KE.new (KE.new (KE.new (KE.new (KE.new (KE.new (KE.new (KE.new (KE.new (KE.new KE.rf hq10 hK11) hq25 hK26) hq40 hK41) hq55 hK56) hq70 hK71) hq85 hK86) hq100 hK101) hq115 hK116) hq130 hK131) hq145 hK146) hq160 hK161) hq175 hK176) hq190 hK191) hq205 hK206) hq220 hK221) hq235 hK236) hq250 hK251) hq265 hK266) hq280 hK281) hq295 hK296) hq310 hK311) hq325 hK326) hq342 hK343) hq360 hK361) hq378 hK379) hq396 hK397) hq414 hK415) hq432 hK433) hq450 hK451) hq468 hK469) hq486 hK487) hq504 hK505) hq522 hK523) hq540 hK541) hq558 hK559) hq576 hK577) hq594 hK595) hq612 hK613) hq630 hK631) hq648 hK649) hq666 hK667) hq684 hK685) hq702 hK703) hq720 hK721) hq738 hK739) hq756 hK757) hq774 hK775) hq792 hK793) hq810 hK811) h817 hq828
  clear pf824 kz820 hz825
  refine GO.putRF rfl rfl (by decide +kernel) h835 fp_raw_fp_RX12_166 rfl rfl dX12_init_434 (fun V841 e840 => ?_)
  have pf842 := PF.put pf836 e840 rfl
  have hz843 : ∀ j, V841 o323 j = .int 0 := fun j => (uq_ne e840 (Or.inl (K_ne kz838 h835 (by decide)))).trans (hz837 j)
  clear pf836 hz837
  refine GO.aload_n dX12_init_437 rfl rfl ?_
  refine GO.bipush dX12_init_438 rfl ?_
  refine GO.newT (atype := .int) 59 100 gw_89 rfl rfl (fun _ _ h => h) rfl rfl rfl (Or.inr rfl) (fun _ => okv_df rfl rfl rfl) rfl rfl dX12_init_440 (fun o844 K845 V851 hq846 hK847 hE848 h849 hz852 hV850 => ?_)
  have h853 := (by rw [hK847, updK_ne (K_old h835 hq846)]; exact h835 : K845 x = some (0, 23))
  have pf854 := PF.nw pf842 hV850 (K_old h835 hq846)
  have kz856 := hE848.arr kz838
  have hz855 : ∀ j, V851 o323 j = .int 0 := fun j => (congrFun (hV850 _ (K_old kz838 hq846)) j).trans (hz843 j)
  have h857 := KE.nw (KE.new (KE.new (KE.new (KE.new (KE.new (KE.new (KE.new (KE.new (KE.new (KE.new (KE.new (KE.new (KE.new (KE.new (KE.new (KE.new (KE.new (KE.new (KE.new (KE.new (KE.new (KE.new (KE.new (KE.new (KE.new (KE.new (KE.new (KE.new (KE.new (KE.new (KE.new (KE.new (KE.new (KE.new (KE.new (KE.new (KE.new (KE.new (KE.new (KE.new (KE.new (KE.new (KE.new (KE.new (KE.new (KE.new (KE.new (KE.new (KE.new (KE.new KE.rf hq10 hK11) hq25 hK26) hq40 hK41) hq55 hK56) hq70 hK71) hq85 hK86) hq100 hK101) hq115 hK116) hq130 hK131) hq145 hK146) hq160 hK161) hq175 hK176) hq190 hK191) hq205 hK206) hq220 hK221) hq235 hK236) hq250 hK251) hq265 hK266) hq280 hK281) hq295 hK296) hq310 hK311) hq325 hK326) hq342 hK343) hq360 hK361) hq378 hK379) hq396 hK397) hq414 hK415) hq432 hK433) hq450 hK451) hq468 hK469) hq486 hK487) hq504 hK505) hq522 hK523) hq540 hK541) hq558 hK559) hq576 hK577) hq594 hK595) hq612 hK613) hq630 hK631) hq648 hK649) hq666 hK667) hq684 hK685) hq702 hK703) hq720 hK721) hq738 hK739) hq756 hK757) hq774 hK775) hq792 hK793) hq810 hK811) hq828 hK829) h835 hq846
  clear pf842 kz838 hz843
  refine GO.putRF rfl rfl (by decide +kernel) h853 fp_raw_fp_RX12_169 rfl rfl dX12_init_442 (fun V859 e858 => ?_)
  have pf860 := PF.put pf854 e858 rfl
  have hz861 : ∀ j, V859 o323 j = .int 0 := fun j => (uq_ne e858 (Or.inl (K_ne kz856 h853 (by decide)))).trans (hz855 j)
  clear pf854 hz855
  refine GO.aload_n dX12_init_445 rfl rfl ?_
  refine GO.bipush dX12_init_446 rfl ?_
  refine GO.newT (atype := .int) 60 100 gw_89 rfl rfl (fun _ _ h => h) rfl rfl rfl (Or.inr rfl) (fun _ => okv_df rfl rfl rfl) rfl rfl dX12_init_448 (fun o862 K863 V869 hq864 hK865 hE866 h867 hz870 hV868 => ?_)
  have h871 := (by rw [hK865, updK_ne (K_old h853 hq864)]; exact h853 : K863 x = some (0, 23))
  have pf872 := PF.nw pf860 hV868 (K_old h853 hq864)
  have kz874 := hE866.arr kz856
  have hz873 : ∀ j, V869 o323 j = .int 0 := fun j => (congrFun (hV868 _ (K_old kz856 hq864)) j).trans (hz861 j)
  have h875 := KE.nw (KE.new (KE.new (KE.new (KE.new (KE.new (KE.new (KE.new (KE.new (KE.new (KE.new (KE.new (KE.new (KE.new (KE.new (KE.new (KE.new (KE.new (KE.new (KE.new (KE.new (KE.new (KE.new (KE.new (KE.new (KE.new (KE.new (KE.new (KE.new (KE.new (KE.new (KE.new (KE.new (KE.new (KE.new (KE.new (KE.new (KE.new (KE.new (KE.new (KE.new (KE.new (KE.new (KE.new (KE.new (KE.new (KE.new (KE.new (KE.new (KE.new (KE.new (KE.new KE.rf hq10 hK11) hq25 hK26) hq40 hK41) hq55 hK56) hq70 hK71) hq85 hK86) hq100 hK101) hq115 hK116) hq130 hK131) hq145 hK146) hq160 hK161) hq175 hK176) hq190 hK191) hq205 hK206) hq220 hK221) hq235 hK236) hq250 hK251) hq265 hK266) hq280 hK281) hq295 hK296) hq310 hK311) hq325 hK326) hq342 hK343) hq360 hK361) hq378 hK379) hq396 hK397) hq414 hK415) hq432 hK433) hq450 hK451) hq468 hK469) hq486 hK487) hq504 hK505) hq522 hK523) hq540 hK541) hq558 hK559) hq576 hK577) hq594 hK595) hq612 hK613) hq630 hK631) hq648 hK649) hq666 hK667) hq684 hK685) hq702 hK703) hq720 hK721) hq738 hK739) hq756 hK757) hq774 hK775) hq792 hK793) hq810 hK811) hq828 hK829) hq846 hK847) h853 hq864
  clear pf860 kz856 hz861
  refine GO.putRF rfl rfl (by decide +kernel) h871 fp_raw_fp_RX12_172 rfl rfl dX12_init_450 (fun V877 e876 => ?_)
  have pf878 := PF.put pf872 e876 rfl
  have hz879 : ∀ j, V877 o323 j = .int 0 := fun j => (uq_ne e876 (Or.inl (K_ne kz874 h871 (by decide)))).trans (hz873 j)
  clear pf872 hz873
  refine GO.aload_n dX12_init_453 rfl rfl ?_
  refine GO.bipush dX12_init_454 rfl ?_
  refine GO.newT (atype := .int) 61 100 gw_89 rfl rfl (fun _ _ h => h) rfl rfl rfl (Or.inr rfl) (fun _ => okv_df rfl rfl rfl) rfl rfl dX12_init_456 (fun o880 K881 V887 hq882 hK883 hE884 h885 hz888 hV886 => ?_)
  have h889 := (by rw [hK883, updK_ne (K_old h871 hq882)]; exact h871 : K881 x = some (0, 23))
  have pf890 := PF.nw pf878 hV886 (K_old h871 hq882)
  have kz892 := hE884.arr kz874
  have hz891 : ∀ j, V887 o323 j = .int 0 := fun j => (congrFun (hV886 _ (K_old kz874 hq882)) j).trans (hz879 j)
  have h893 := KE.nw (KE.new (KE.new (KE.new (KE.new (KE.new (KE.new (KE.new (KE.new (KE.new (KE.new (KE.new (KE.new (KE.new (KE.new (KE.new (KE.new (KE.new (KE.new (KE.new (KE.new (KE.new (KE.new (KE.new (KE.new (KE.new (KE.new (KE.new (KE.new (KE.new (KE.new (KE.new (KE.new (KE.new (KE.new (KE.new (KE.new (KE.new (KE.new (KE.new (KE.new (KE.new (KE.new (KE.new (KE.new (KE.new (KE.new (KE.new (KE.new (KE.new (KE.new (KE.new (KE.new KE.rf hq10 hK11) hq25 hK26) hq40 hK41) hq55 hK56) hq70 hK71) hq85 hK86) hq100 hK101) hq115 hK116) hq130 hK131) hq145 hK146) hq160 hK161) hq175 hK176) hq190 hK191) hq205 hK206) hq220 hK221) hq235 hK236) hq250 hK251) hq265 hK266) hq280 hK281) hq295 hK296) hq310 hK311) hq325 hK326) hq342 hK343) hq360 hK361) hq378 hK379) hq396 hK397) hq414 hK415) hq432 hK433) hq450 hK451) hq468 hK469) hq486 hK487) hq504 hK505) hq522 hK523) hq540 hK541) hq558 hK559) hq576 hK577) hq594 hK595) hq612 hK613) hq630 hK631) hq648 hK649) hq666 hK667) hq684 hK685) hq702 hK703) hq720 hK721) hq738 hK739) hq756 hK757) hq774 hK775) hq792 hK793) hq810 hK811) hq828 hK829) hq846 hK847) hq864 hK865) h871 hq882
  clear pf878 kz874 hz879
  refine GO.putRF rfl rfl (by decide +kernel) h889 fp_raw_fp_RX12_175 rfl rfl dX12_init_458 (fun V895 e894 => ?_)
  have pf896 := PF.put pf890 e894 rfl
  have hz897 : ∀ j, V895 o323 j = .int 0 := fun j => (uq_ne e894 (Or.inl (K_ne kz892 h889 (by decide)))).trans (hz891 j)
  clear pf890 hz891
  refine GO.aload_n dX12_init_461 rfl rfl ?_
  refine GO.bipush dX12_init_462 rfl ?_
  refine GO.newT (atype := .int) 62 100 gw_89 rfl rfl (fun _ _ h => h) rfl rfl rfl (Or.inr rfl) (fun _ => okv_df rfl rfl rfl) rfl rfl dX12_init_464 (fun o898 K899 V905 hq900 hK901 hE902 h903 hz906 hV904 => ?_)
  have h907 := (by rw [hK901, updK_ne (K_old h889 hq900)]; exact h889 : K899 x = some (0, 23))
  have pf908 := PF.nw pf896 hV904 (K_old h889 hq900)
  have kz910 := hE902.arr kz892
  have hz909 : ∀ j, V905 o323 j = .int 0 := fun j => (congrFun (hV904 _ (K_old kz892 hq900)) j).trans (hz897 j)
  have h911 := KE.nw (KE.new (KE.new (KE.new (KE.new (KE.new (KE.new (KE.new (KE.new (KE.new (KE.new (KE.new (KE.new (KE.new (KE.new (KE.new (KE.new (KE.new (KE.new (KE.new (KE.new (KE.new (KE.new (KE.new (KE.new (KE.new (KE.new (KE.new (KE.new (KE.new (KE.new (KE.new (KE.new (KE.new (KE.new (KE.new (KE.new (KE.new (KE.new (KE.new (KE.new (KE.new (KE.new (KE.new (KE.new (KE.new (KE.new (KE.new (KE.new (KE.new (KE.new (KE.new (KE.new (KE.new KE.rf hq10 hK11) hq25 hK26) hq40 hK41) hq55 hK56) hq70 hK71) hq85 hK86) hq100 hK101) hq115 hK116) hq130 hK131) hq145 hK146) hq160 hK161) hq175 hK176) hq190 hK191) hq205 hK206) hq220 hK221) hq235 hK236) hq250 hK251) hq265 hK266) hq280 hK281) hq295 hK296) hq310 hK311) hq325 hK326) hq342 hK343) hq360 hK361) hq378 hK379) hq396 hK397) hq414 hK415) hq432 hK433) hq450 hK451) hq468 hK469) hq486 hK487) hq504 hK505) hq522 hK523) hq540 hK541) hq558 hK559) hq576 hK577) hq594 hK595) hq612 hK613) hq630 hK631) hq648 hK649) hq666 hK667) hq684 hK685) hq702 hK703) hq720 hK721) hq738 hK739) hq756 hK757) hq774 hK775) hq792 hK793) hq810 hK811) hq828 hK829) hq846 hK847) hq864 hK865) hq882 hK883) h889 hq900
  clear pf896 kz892 hz897
  refine GO.putRF rfl rfl (by decide +kernel) h907 fp_raw_fp_RX12_178 rfl rfl dX12_init_466 (fun V913 e912 => ?_)
  have pf914 := PF.put pf908 e912 rfl
  have hz915 : ∀ j, V913 o323 j = .int 0 := fun j => (uq_ne e912 (Or.inl (K_ne kz910 h907 (by decide)))).trans (hz909 j)
  clear pf908 hz909
  refine GO.aload_n dX12_init_469 rfl rfl ?_
  refine GO.bipush dX12_init_470 rfl ?_
  refine GO.newT (atype := .int) 63 100 gw_89 rfl rfl (fun _ _ h => h) rfl rfl rfl (Or.inr rfl) (fun _ => okv_df rfl rfl rfl) rfl rfl dX12_init_472 (fun o916 K917 V923 hq918 hK919 hE920 h921 hz924 hV922 => ?_)
  have h925 := (by rw [hK919, updK_ne (K_old h907 hq918)]; exact h907 : K917 x = some (0, 23))
  have pf926 := PF.nw pf914 hV922 (K_old h907 hq918)
  have kz928 := hE920.arr kz910
  have hz927 : ∀ j, V923 o323 j = .int 0 := fun j => (congrFun (hV922 _ (K_old kz910 hq918)) j).trans (hz915 j)
  have h929 := KE.nw (KE.new (KE.new (KE.new (KE.new (KE.new (KE.new (KE.new (KE.new (KE.new (KE.new (KE.new (KE.new (KE.new (KE.new (KE.new (KE.new (KE.new (KE.new (KE.new (KE.new (KE.new (KE.new (KE.new (KE.new (KE.new (KE.new (KE.new (KE.new (KE.new (KE.new (KE.new (KE.new (KE.new (KE.new (KE.new (KE.new (KE.new (KE.new (KE.new (KE.new (KE.new (KE.new (KE.new (KE.new (KE.new (KE.new (KE.new (KE.new (KE.new (KE.new (KE.new (KE.new (KE.new (KE.new KE.rf hq10 hK11) hq25 hK26) hq40 hK41) hq55 hK56) hq70 hK71) hq85 hK86) hq100 hK101) hq115 hK116) hq130 hK131) hq145 hK146) hq160 hK161) hq175 hK176) hq190 hK191) hq205 hK206) hq220 hK221) hq235 hK236) hq250 hK251) hq265 hK266) hq280 hK281) hq295 hK296) hq310 hK311) hq325 hK326) hq342 hK343) hq360 hK361) hq378 hK379) hq396 hK397) hq414 hK415) hq432 hK433) hq450 hK451) hq468 hK469) hq486 hK487) hq504 hK505) hq522 hK523) hq540 hK541) hq558 hK559) hq576 hK577) hq594 hK595) hq612 hK613) hq630 hK631) hq648 hK649) hq666 hK667) hq684 hK685) hq702 hK703) hq720 hK721) hq738 hK739) hq756 hK757) hq774 hK775) hq792 hK793) hq810 hK811) hq828 hK829) hq846 hK847) hq864 hK865) hq882 hK883) hq900 hK901) h907 hq918
  clear pf914 kz910 hz915
  refine GO.putRF rfl rfl (by decide +kernel) h925 fp_raw_fp_RX12_181 rfl rfl dX12_init_474 (fun V931 e930 => ?_)
  have pf932 := PF.put pf926 e930 rfl
  have hz933 : ∀ j, V931 o323 j = .int 0 := fun j => (uq_ne e930 (Or.inl (K_ne kz928 h925 (by decide)))).trans (hz927 j)
  clear pf926 hz927
  refine GO.aload_n dX12_init_477 rfl rfl ?_
  refine GO.bipush dX12_init_478 rfl ?_
  refine GO.newT (atype := .int) 64 100 gw_89 rfl rfl (fun _ _ h => h) rfl rfl rfl (Or.inr rfl) (fun _ => okv_df rfl rfl rfl) rfl rfl dX12_init_480 (fun o934 K935 V941 hq936 hK937 hE938 h939 hz942 hV940 => ?_)
  have h943 := (by rw [hK937, updK_ne (K_old h925 hq936)]; exact h925 : K935 x = some (0, 23))
  have pf944 := PF.nw pf932 hV940 (K_old h925 hq936)
  have kz946 := hE938.arr kz928
  have hz945 : ∀ j, V941 o323 j = .int 0 := fun j => (congrFun (hV940 _ (K_old kz928 hq936)) j).trans (hz933 j)
  have h947 := KE.nw (KE.new (KE.new (KE.new (KE.new (KE.new (KE.new (KE.new (KE.new (KE.new (KE.new (KE.new (KE.new (KE.new (KE.new (KE.new (KE.new (KE.new (KE.new (KE.new (KE.new (KE.new (KE.new (KE.new (KE.new (KE.new (KE.new (KE.new (KE.new (KE.new (KE.new (KE.new (KE.new (KE.new (KE.new (KE.new (KE.new (KE.new (KE.new (KE.new (KE.new (KE.new (KE.new (KE.new (KE.new (KE.new (KE.new (KE.new (KE.new (KE.new (KE.new (KE.new (KE.new (KE.new (KE.new (KE.new KE.rf hq10 hK11) hq25 hK26) hq40 hK41) hq55 hK56) hq70 hK71) hq85 hK86) hq100 hK101) hq115 hK116) hq130 hK131) hq145 hK146) hq160 hK161) hq175 hK176) hq190 hK191) hq205 hK206) hq220 hK221) hq235 hK236) hq250 hK251) hq265 hK266) hq280 hK281) hq295 hK296) hq310 hK311) hq325 hK326) hq342 hK343) hq360 hK361) hq378 hK379) hq396 hK397) hq414 hK415) hq432 hK433) hq450 hK451) hq468 hK469) hq486 hK487) hq504 hK505) hq522 hK523) hq540 hK541) hq558 hK559) hq576 hK577) hq594 hK595) hq612 hK613) hq630 hK631) hq648 hK649) hq666 hK667) hq684 hK685) hq702 hK703) hq720 hK721) hq738 hK739) hq756 hK757) hq774 hK775) hq792 hK793) hq810 hK811) hq828 hK829) hq846 hK847) hq864 hK865) hq882 hK883) hq900 hK901) hq918 hK919) h925 hq936
  clear pf932 kz928 hz933
  refine GO.putRF rfl rfl (by decide +kernel) h943 fp_raw_fp_RX12_184 rfl rfl dX12_init_482 (fun V949 e948 => ?_)
  have pf950 := PF.put pf944 e948 rfl
  have hz951 : ∀ j, V949 o323 j = .int 0 := fun j => (uq_ne e948 (Or.inl (K_ne kz946 h943 (by decide)))).trans (hz945 j)
  clear pf944 hz945
  refine GO.aload_n dX12_init_485 rfl rfl ?_
  refine GO.bipush dX12_init_486 rfl ?_
  refine GO.newT (atype := .int) 65 100 gw_89 rfl rfl (fun _ _ h => h) rfl rfl rfl (Or.inr rfl) (fun _ => okv_df rfl rfl rfl) rfl rfl dX12_init_488 (fun o952 K953 V959 hq954 hK955 hE956 h957 hz960 hV958 => ?_)
  have h961 := (by rw [hK955, updK_ne (K_old h943 hq954)]; exact h943 : K953 x = some (0, 23))
  have pf962 := PF.nw pf950 hV958 (K_old h943 hq954)
  have kz964 := hE956.arr kz946
  have hz963 : ∀ j, V959 o323 j = .int 0 := fun j => (congrFun (hV958 _ (K_old kz946 hq954)) j).trans (hz951 j)
  have h965 := KE.nw (KE.new (KE.new (KE.new (KE.new (KE.new (KE.new (KE.new (KE.new (KE.new (KE.new (KE.new (KE.new (KE.new (KE.new (KE.new (KE.new (KE.new (KE.new (KE.new (KE.new (KE.new (KE.new (KE.new (KE.new (KE.new (KE.new (KE.new (KE.new (KE.new (KE.new (KE.new (KE.new (KE.new (KE.new (KE.new (KE.new (KE.new (KE.new (KE.new (KE.new (KE.new (KE.new (KE.new (KE.new (KE.new (KE.new (KE.new (KE.new (KE.new (KE.new (KE.new (KE.new (KE.new (KE.new (KE.new (KE.new KE.rf hq10 hK11) hq25 hK26) hq40 hK41) hq55 hK56) hq70 hK71) hq85 hK86) hq100 hK101) hq115 hK116) hq130 hK131) hq145 hK146) hq160 hK161) hq175 hK176) hq190 hK191) hq205 hK206) hq220 hK221) hq235 hK236) hq250 hK251) hq265 hK266) hq280 hK281) hq295 hK296) hq310 hK311) hq325 hK326) hq342 hK343) hq360 hK361) hq378 hK379) hq396 hK397) hq414 hK415) hq432 hK433) hq450 hK451) hq468 hK469) hq486 hK487) hq504 hK505) hq522 hK523) hq540 hK541) hq558 hK559) hq576 hK577) hq594 hK595) hq612 hK613) hq630 hK631) hq648 hK649) hq666 hK667) hq684 hK685) hq702 hK703) hq720 hK721) hq738 hK739) hq756 hK757) hq774 hK775) hq792 hK793) hq810 hK811) hq828 hK829) hq846 hK847) hq864 hK865) hq882 hK883) hq900 hK901) hq918 hK919) hq936 hK937) h943 hq954
  clear pf950 kz946 hz951
  refine GO.putRF rfl rfl (by decide +kernel) h961 fp_raw_fp_RX12_187 rfl rfl dX12_init_490 (fun V967 e966 => ?_)
  have pf968 := PF.put pf962 e966 rfl
  have hz969 : ∀ j, V967 o323 j = .int 0 := fun j => (uq_ne e966 (Or.inl (K_ne kz964 h961 (by decide)))).trans (hz963 j)
  clear pf962 hz963
  refine GO.aload_n dX12_init_493 rfl rfl ?_
  refine GO.bipush dX12_init_494 rfl ?_
  refine GO.newT (atype := .int) 66 100 gw_89 rfl rfl (fun _ _ h => h) rfl rfl rfl (Or.inr rfl) (fun _ => okv_df rfl rfl rfl) rfl rfl dX12_init_496 (fun o970 K971 V977 hq972 hK973 hE974 h975 hz978 hV976 => ?_)
  have h979 := (by rw [hK973, updK_ne (K_old h961 hq972)]; exact h961 : K971 x = some (0, 23))
  have pf980 := PF.nw pf968 hV976 (K_old h961 hq972)
  have kz982 := hE974.arr kz964
  have hz981 : ∀ j, V977 o323 j = .int 0 := fun j => (congrFun (hV976 _ (K_old kz964 hq972)) j).trans (hz969 j)
  have h983 := KE.nw (KE.new (KE.new (KE.new (KE.new (KE.new (KE.new (KE.new (KE.new (KE.new (KE.new (KE.new (KE.new (KE.new (KE.new (KE.new (KE.new (KE.new (KE.new (KE.new (KE.new (KE.new (KE.new (KE.new (KE.new (KE.new (KE.new (KE.new (KE.new (KE.new (KE.new (KE.new (KE.new (KE.new (KE.new (KE.new (KE.new (KE.new (KE.new (KE.new (KE.new (KE.new (KE.new (KE.new (KE.new (KE.new (KE.new (KE.new (KE.new (KE.new (KE.new (KE.new (KE.new (KE.new (KE.new (KE.new (KE.new (KE.new KE.rf hq10 hK11) hq25 hK26) hq40 hK41) hq55 hK56) hq70 hK71) hq85 hK86) hq100 hK101) hq115 hK116) hq130 hK131) hq145 hK146) hq160 hK161) hq175 hK176) hq190 hK191) hq205 hK206) hq220 hK221) hq235 hK236) hq250 hK251) hq265 hK266) hq280 hK281) hq295 hK296) hq310 hK311) hq325 hK326) hq342 hK343) hq360 hK361) hq378 hK379) hq396 hK397) hq414 hK415) hq432 hK433) hq450 hK451) hq468 hK469) hq486 hK487) hq504 hK505) hq522 hK523) hq540 hK541) hq558 hK559) hq576 hK577) hq594 hK595) hq612 hK613) hq630 hK631) hq648 hK649) hq666 hK667) hq684 hK685) hq702 hK703) hq720 hK721) hq738 hK739) hq756 hK757) hq774 hK775) hq792 hK793) hq810 hK811) hq828 hK829) hq846 hK847) hq864 hK865) hq882 hK883) hq900 hK901) hq918 hK919) hq936 hK937) hq954 hK955) h961 hq972
  clear pf968 kz964 hz969
  refine GO.putRF rfl rfl (by decide +kernel) h979 fp_raw_fp_RX12_190 rfl rfl dX12_init_498 (fun V985 e984 => ?_)
  have pf986 := PF.put pf980 e984 rfl
  have hz987 : ∀ j, V985 o323 j = .int 0 := fun j => (uq_ne e984 (Or.inl (K_ne kz982 h979 (by decide)))).trans (hz981 j)
  clear pf980 hz981
  refine GO.aload_n dX12_init_501 rfl rfl ?_
  refine GO.bipush dX12_init_502 rfl ?_
  refine GO.newT (atype := .int) 67 100 gw_89 rfl rfl (fun _ _ h => h) rfl rfl rfl (Or.inr rfl) (fun _ => okv_df rfl rfl rfl) rfl rfl dX12_init_504 (fun o988 K989 V995 hq990 hK991 hE992 h993 hz996 hV994 => ?_)
  have h997 := (by rw [hK991, updK_ne (K_old h979 hq990)]; exact h979 : K989 x = some (0, 23))
  have pf998 := PF.nw pf986 hV994 (K_old h979 hq990)
  have kz1000 := hE992.arr kz982
  have hz999 : ∀ j, V995 o323 j = .int 0 := fun j => (congrFun (hV994 _ (K_old kz982 hq990)) j).trans (hz987 j)
  have h1001 := KE.nw (KE.new (KE.new (KE.new (KE.new (KE.new (KE.new (KE.new (KE.new (KE.new (KE.new (KE.new (KE.new (KE.new (KE.new (KE.new (KE.new (KE.new (KE.new (KE.new (KE.new (KE.new (KE.new (KE.new (KE.new (KE.new (KE.new (KE.new (KE.new (KE.new (KE.new (KE.new (KE.new (KE.new (KE.new (KE.new (KE.new (KE.new (KE.new (KE.new (KE.new (KE.new (KE.new (KE.new (KE.new (KE.new (KE.new (KE.new (KE.new (KE.new (KE.new (KE.new (KE.new (KE.new (KE.new (KE.new (KE.new (KE.new (KE.new KE.rf hq10 hK11) hq25 hK26) hq40 hK41) hq55 hK56) hq70 hK71) hq85 hK86) hq100 hK101) hq115 hK116) hq130 hK131) hq145 hK146) hq160 hK161) hq175 hK176) hq190 hK191) hq205 hK206) hq220 hK221) hq235 hK236) hq250 hK251) hq265 hK266) hq280 hK281) hq295 hK296) hq310 hK311) hq325 hK326) hq342 hK343) hq360 hK361) hq378 hK379) hq396 hK397) hq414 hK415) hq432 hK433) hq450 hK451) hq468 hK469) hq486 hK487) hq504 hK505) hq522 hK523) hq540 hK541) hq558 hK559) hq576 hK577) hq594 hK595) hq612 hK613) hq630 hK631) hq648 hK649) hq666 hK667) hq684 hK685) hq702 hK703) hq720 hK721) hq738 hK739) hq756 hK757) hq774 hK775) hq792 hK793) hq810 hK811) hq828 hK829) hq846 hK847) hq864 hK865) hq882 hK883) hq900 hK901) hq918 hK919) hq936 hK937) hq954 hK955) hq972 hK973) h979 hq990
  clear pf986 kz982 hz987
  refine GO.putRF rfl rfl (by decide +kernel) h997 fp_raw_fp_RX12_193 rfl rfl dX12_init_506 (fun V1003 e1002 => ?_)
  have pf1004 := PF.put pf998 e1002 rfl
  have hz1005 : ∀ j, V1003 o323 j = .int 0 := fun j => (uq_ne e1002 (Or.inl (K_ne kz1000 h997 (by decide)))).trans (hz999 j)
  clear pf998 hz999
  refine GO.aload_n dX12_init_509 rfl rfl ?_
  refine GO.bipush dX12_init_510 rfl ?_
  refine GO.newT (atype := .int) 68 100 gw_89 rfl rfl (fun _ _ h => h) rfl rfl rfl (Or.inr rfl) (fun _ => okv_df rfl rfl rfl) rfl rfl dX12_init_512 (fun o1006 K1007 V1013 hq1008 hK1009 hE1010 h1011 hz1014 hV1012 => ?_)
  have h1015 := (by rw [hK1009, updK_ne (K_old h997 hq1008)]; exact h997 : K1007 x = some (0, 23))
  have pf1016 := PF.nw pf1004 hV1012 (K_old h997 hq1008)
  have kz1018 := hE1010.arr kz1000
  have hz1017 : ∀ j, V1013 o323 j = .int 0 := fun j => (congrFun (hV1012 _ (K_old kz1000 hq1008)) j).trans (hz1005 j)
  have h1019 := KE.nw (KE.new (KE.new (KE.new (KE.new (KE.new (KE.new (KE.new (KE.new (KE.new (KE.new (KE.new (KE.new (KE.new (KE.new (KE.new (KE.new (KE.new (KE.new (KE.new (KE.new (KE.new (KE.new (KE.new (KE.new (KE.new (KE.new (KE.new (KE.new (KE.new (KE.new (KE.new (KE.new (KE.new (KE.new (KE.new (KE.new (KE.new (KE.new (KE.new (KE.new (KE.new (KE.new (KE.new (KE.new (KE.new (KE.new (KE.new (KE.new (KE.new (KE.new (KE.new (KE.new (KE.new (KE.new (KE.new (KE.new (KE.new (KE.new (KE.new KE.rf hq10 hK11) hq25 hK26) hq40 hK41) hq55 hK56) hq70 hK71) hq85 hK86) hq100 hK101) hq115 hK116) hq130 hK131) hq145 hK146) hq160 hK161) hq175 hK176) hq190 hK191) hq205 hK206) hq220 hK221) hq235 hK236) hq250 hK251) hq265 hK266) hq280 hK281) hq295 hK296) hq310 hK311) hq325 hK326) hq342 hK343) hq360 hK361) hq378 hK379) hq396 hK397) hq414 hK415) hq432 hK433) hq450 hK451) hq468 hK469) hq486 hK487) hq504 hK505) hq522 hK523) hq540 hK541) hq558 hK559) hq576 hK577) hq594 hK595) hq612 hK613) hq630 hK631) hq648 hK649) hq666 hK667) hq684 hK685) hq702 hK703) hq720 hK721) hq738 hK739) hq756 hK757) hq774 hK775) hq792 hK793) hq810 hK811) hq828 hK829) hq846 hK847) hq864 hK865) hq882 hK883) hq900 hK901) hq918 hK919) hq936 hK937) hq954 hK955) hq972 hK973) hq990 hK991) h997 hq1008
  clear pf1004 kz1000 hz1005
  refine GO.putRF rfl rfl (by decide +kernel) h1015 fp_raw_fp_RX12_196 rfl rfl dX12_init_514 (fun V1021 e1020 => ?_)
  have pf1022 := PF.put pf1016 e1020 rfl
  have hz1023 : ∀ j, V1021 o323 j = .int 0 := fun j => (uq_ne e1020 (Or.inl (K_ne kz1018 h1015 (by decide)))).trans (hz1017 j)
  clear pf1016 hz1017
  refine GO.aload_n dX12_init_517 rfl rfl ?_
  refine GO.bipush dX12_init_518 rfl ?_
  refine GO.newT (atype := .int) 69 100 gw_89 rfl rfl (fun _ _ h => h) rfl rfl rfl (Or.inr rfl) (fun _ => okv_df rfl rfl rfl) rfl rfl dX12_init_520 (fun o1024 K1025 V1031 hq1026 hK1027 hE1028 h1029 hz1032 hV1030 => ?_)
  have h1033 := (by rw [hK1027, updK_ne (K_old h1015 hq1026)]; exact h1015 : K1025 x = some (0, 23))
  have pf1034 := PF.nw pf1022 hV1030 (K_old h1015 hq1026)
  have kz1036 := hE1028.arr kz1018
  have hz1035 : ∀ j, V1031 o323 j = .int 0 := fun j => (congrFun (hV1030 _ (K_old kz1018 hq1026)) j).trans (hz1023 j)
  have h1037 := KE.nw (KE.new (KE.new (KE.new (KE.new (KE.new (KE.new (KE.new (KE.new (KE.new (KE.new (KE.new (KE.new (KE.new (KE.new (KE.new (KE.new (KE.new (KE.new (KE.new (KE.new (KE.new (KE.new (KE.new (KE.new (KE.new (KE.new (KE.new (KE.new (KE.new (KE.new (KE.new (KE.new (KE.new (KE.new (KE.new (KE.new (KE.new (KE.new (KE.new (KE.new (KE.new (KE.new (KE.new (KE.new (KE.new (KE.new (KE.new (KE.new (KE.new (KE.new (KE.new (KE.new (KE.new (KE.new (KE.new (KE.new (KE.new (KE.new (KE.new (KE.new KE.rf hq10 hK11) hq25 hK26) hq40 hK41) hq55 hK56) hq70 hK71) hq85 hK86) hq100 hK101) hq115 hK116) hq130 hK131) hq145 hK146) hq160 hK161) hq175 hK176) hq190 hK191) hq205 hK206) hq220 hK221) hq235 hK236) hq250 hK251) hq265 hK266) hq280 hK281) hq295 hK296) hq310 hK311) hq325 hK326) hq342 hK343) hq360 hK361) hq378 hK379) hq396 hK397) hq414 hK415) hq432 hK433) hq450 hK451) hq468 hK469) hq486 hK487) hq504 hK505) hq522 hK523) hq540 hK541) hq558 hK559) hq576 hK577) hq594 hK595) hq612 hK613) hq630 hK631) hq648 hK649) hq666 hK667) hq684 hK685) hq702 hK703) hq720 hK721) hq738 hK739) hq756 hK757) hq774 hK775) hq792 hK793) hq810 hK811) hq828 hK829) hq846 hK847) hq864 hK865) hq882 hK883) hq900 hK901) hq918 hK919) hq936 hK937) hq954 hK955) hq972 hK973) hq990 hK991) hq1008 hK1009) h1015 hq1026
  clear pf1022 kz1018 hz1023
  refine GO.putRF rfl rfl (by decide +kernel) h1033 fp_raw_fp_RX12_199 rfl rfl dX12_init_522 (fun V1039 e1038 => ?_)
  have pf1040 := PF.put pf1034 e1038 rfl
  have hz1041 : ∀ j, V1039 o323 j = .int 0 := fun j => (uq_ne e1038 (Or.inl (K_ne kz1036 h1033 (by decide)))).trans (hz1035 j)
  clear pf1034 hz1035
  refine GO.aload_n dX12_init_525 rfl rfl ?_
  refine GO.sipush dX12_init_526 rfl ?_
  refine GO.newT (atype := .int) 70 900 gw_89 rfl rfl (fun _ _ h => h) rfl rfl rfl (Or.inr rfl) (fun _ => okv_df rfl rfl rfl) rfl rfl dX12_init_529 (fun o1042 K1043 V1049 hq1044 hK1045 hE1046 h1047 hz1050 hV1048 => ?_)
  have h1051 := (by rw [hK1045, updK_ne (K_old h1033 hq1044)]; exact h1033 : K1043 x = some (0, 23))
  have pf1052 := PF.nw pf1040 hV1048 (K_old h1033 hq1044)
  have kz1054 := hE1046.arr kz1036
  have hz1053 : ∀ j, V1049 o323 j = .int 0 := fun j => (congrFun (hV1048 _ (K_old kz1036 hq1044)) j).trans (hz1041 j)
  have h1055 := KE.nw (KE.new (KE.new (KE.new (KE.new (KE.new (KE.new (KE.new (KE.new (KE.new (KE.new (KE.new (KE.new (KE.new (KE.new (KE.new (KE.new (KE.new (KE.new (KE.new (KE.new (KE.new (KE.new (KE.new (KE.new (KE.new (KE.new (KE.new (KE.new (KE.new (KE.new (KE.new (KE.new (KE.new (KE.new (KE.new (KE.new (KE.new (KE.new (KE.new (KE.new (KE.new (KE.new (KE.new (KE.new (KE.new (KE.new (KE.new (KE.new (KE.new (KE.new (KE.new (KE.new (KE.new (KE.new (KE.new (KE.new (KE.new (KE.new (KE.new (KE.new (KE.new KE.rf hq10 hK11) hq25 hK26) hq40 hK41) hq55 hK56) hq70 hK71) hq85 hK86) hq100 hK101) hq115 hK116) hq130 hK131) hq145 hK146) hq160 hK161) hq175 hK176) hq190 hK191) hq205 hK206) hq220 hK221) hq235 hK236) hq250 hK251) hq265 hK266) hq280 hK281) hq295 hK296) hq310 hK311) hq325 hK326) hq342 hK343) hq360 hK361) hq378 hK379) hq396 hK397) hq414 hK415) hq432 hK433) hq450 hK451) hq468 hK469) hq486 hK487) hq504 hK505) hq522 hK523) hq540 hK541) hq558 hK559) hq576 hK577) hq594 hK595) hq612 hK613) hq630 hK631) hq648 hK649) hq666 hK667) hq684 hK685) hq702 hK703) hq720 hK721) hq738 hK739) hq756 hK757) hq774 hK775) hq792 hK793) hq810 hK811) hq828 hK829) hq846 hK847) hq864 hK865) hq882 hK883) hq900 hK901) hq918 hK919) hq936 hK937) hq954 hK955) hq972 hK973) hq990 hK991) hq1008 hK1009) hq1026 hK1027) h1033 hq1044
  clear pf1040 kz1036 hz1041
  refine GO.putRF rfl rfl (by decide +kernel) h1051 fp_raw_fp_RX12_202 rfl rfl dX12_init_531 (fun V1057 e1056 => ?_)
  have pf1058 := PF.put pf1052 e1056 rfl
  have hz1059 : ∀ j, V1057 o323 j = .int 0 := fun j => (uq_ne e1056 (Or.inl (K_ne kz1054 h1051 (by decide)))).trans (hz1053 j)
  clear pf1052 hz1053
  refine GO.aload_n dX12_init_534 rfl rfl ?_
  refine GO.sipush dX12_init_535 rfl ?_
  refine GO.newT (atype := .int) 71 220 gw_89 rfl rfl (fun _ _ h => h) rfl rfl rfl (Or.inr rfl) (fun _ => okv_df rfl rfl rfl) rfl rfl dX12_init_538 (fun o1060 K1061 V1067 hq1062 hK1063 hE1064 h1065 hz1068 hV1066 => ?_)
  have h1069 := (by rw [hK1063, updK_ne (K_old h1051 hq1062)]; exact h1051 : K1061 x = some (0, 23))
  have pf1070 := PF.nw pf1058 hV1066 (K_old h1051 hq1062)
  have kz1072 := hE1064.arr kz1054
  have hz1071 : ∀ j, V1067 o323 j = .int 0 := fun j => (congrFun (hV1066 _ (K_old kz1054 hq1062)) j).trans (hz1059 j)
  have h1073 := KE.nw (KE.new (KE.new (KE.new (KE.new (KE.new (KE.new (KE.new (KE.new (KE.new (KE.new (KE.new (KE.new (KE.new (KE.new (KE.new (KE.new (KE.new (KE.new (KE.new (KE.new (KE.new (KE.new (KE.new (KE.new (KE.new (KE.new (KE.new (KE.new (KE.new (KE.new (KE.new (KE.new (KE.new (KE.new (KE.new (KE.new (KE.new (KE.new (KE.new (KE.new (KE.new (KE.new (KE.new (KE.new (KE.new (KE.new (KE.new (KE.new (KE.new (KE.new (KE.new (KE.new (KE.new (KE.new (KE.new (KE.new (KE.new (KE.new (KE.new (KE.new (KE.new (KE.new KE.rf hq10 hK11) hq25 hK26) hq40 hK41) hq55 hK56) hq70 hK71) hq85 hK86) hq100 hK101) hq115 hK116) hq130 hK131) hq145 hK146) hq160 hK161) hq175 hK176) hq190 hK191) hq205 hK206) hq220 hK221) hq235 hK236) hq250 hK251) hq265 hK266) hq280 hK281) hq295 hK296) hq310 hK311) hq325 hK326) hq342 hK343) hq360 hK361) hq378 hK379) hq396 hK397) hq414 hK415) hq432 hK433) hq450 hK451) hq468 hK469) hq486 hK487) hq504 hK505) hq522 hK523) hq540 hK541) hq558 hK559) hq576 hK577) hq594 hK595) hq612 hK613) hq630 hK631) hq648 hK649) hq666 hK667) hq684 hK685) hq702 hK703) hq720 hK721) hq738 hK739) hq756 hK757) hq774 hK775) hq792 hK793) hq810 hK811) hq828 hK829) hq846 hK847) hq864 hK865) hq882 hK883) hq900 hK901) hq918 hK919) hq936 hK937) hq954 hK955) hq972 hK973) hq990 hK991) hq1008 hK1009) hq1026 hK1027) hq1044 hK1045) h1051 hq1062
  clear pf1058 kz1054 hz1059
  refine GO.putRF rfl rfl (by decide +kernel) h1069 fp_raw_fp_RX12_205 rfl rfl dX12_init_540 (fun V1075 e1074 => ?_)
  have pf1076 := PF.put pf1070 e1074 rfl
  have hz1077 : ∀ j, V1075 o323 j = .int 0 := fun j => (uq_ne e1074 (Or.inl (K_ne kz1072 h1069 (by decide)))).trans (hz1071 j)
  clear pf1070 hz1071
  refine GO.aload_n dX12_init_543 rfl rfl ?_
  refine GO.bipush dX12_init_544 rfl ?_
  refine GO.newT (atype := .int) 72 10 gw_89 rfl rfl (fun _ _ h => h) rfl rfl rfl (Or.inr rfl) (fun _ => okv_df rfl rfl rfl) rfl rfl dX12_init_546 (fun o1078 K1079 V1085 hq1080 hK1081 hE1082 h1083 hz1086 hV1084 => ?_)
  have h1087 := (by rw [hK1081, updK_ne (K_old h1069 hq1080)]; exact h1069 : K1079 x = some (0, 23))
  have pf1088 := PF.nw pf1076 hV1084 (K_old h1069 hq1080)
  have kz1090 := hE1082.arr kz1072
  have hz1089 : ∀ j, V1085 o323 j = .int 0 := fun j => (congrFun (hV1084 _ (K_old kz1072 hq1080)) j).trans (hz1077 j)
  have h1091 := KE.nw (KE.new (KE.new (KE.new (KE.new (KE.new (KE.new (KE.new (KE.new (KE.new (KE.new (KE.new (KE.new (KE.new (KE.new (KE.new (KE.new (KE.new (KE.new (KE.new (KE.new (KE.new (KE.new (KE.new (KE.new (KE.new (KE.new (KE.new (KE.new (KE.new (KE.new (KE.new (KE.new (KE.new (KE.new (KE.new (KE.new (KE.new (KE.new (KE.new (KE.new (KE.new (KE.new (KE.new (KE.new (KE.new (KE.new (KE.new (KE.new (KE.new (KE.new (KE.new (KE.new (KE.new (KE.new (KE.new (KE.new (KE.new (KE.new (KE.new (KE.new (KE.new (KE.new (KE.new KE.rf hq10 hK11) hq25 hK26) hq40 hK41) hq55 hK56) hq70 hK71) hq85 hK86) hq100 hK101) hq115 hK116) hq130 hK131) hq145 hK146) hq160 hK161) hq175 hK176) hq190 hK191) hq205 hK206) hq220 hK221) hq235 hK236) hq250 hK251) hq265 hK266) hq280 hK281) hq295 hK296) hq310 hK311) hq325 hK326) hq342 hK343) hq360 hK361) hq378 hK379) hq396 hK397) hq414 hK415) hq432 hK433) hq450 hK451) hq468 hK469) hq486 hK487) hq504 hK505) hq522 hK523) hq540 hK541) hq558 hK559) hq576 hK577) hq594 hK595) hq612 hK613) hq630 hK631) hq648 hK649) hq666 hK667) hq684 hK685) hq702 hK703) hq720 hK721) hq738 hK739) hq756 hK757) hq774 hK775) hq792 hK793) hq810 hK811) hq828 hK829) hq846 hK847) hq864 hK865) hq882 hK883) hq900 hK901) hq918 hK919) hq936 hK937) hq954 hK955) hq972 hK973) hq990 hK991) hq1008 hK1009) hq1026 hK1027) hq1044 hK1045) hq1062 hK1063) h1069 hq1080
  clear pf1076 kz1072 hz1077
  refine GO.putRF rfl rfl (by decide +kernel) h1087 fp_raw_fp_RX12_208 rfl rfl dX12_init_548 (fun V1093 e1092 => ?_)
  have pf1094 := PF.put pf1088 e1092 rfl
  have hz1095 : ∀ j, V1093 o323 j = .int 0 := fun j => (uq_ne e1092 (Or.inl (K_ne kz1090 h1087 (by decide)))).trans (hz1089 j)
  clear pf1088 hz1089
  refine GO.aload_n dX12_init_551 rfl rfl ?_
  refine GO.bipush dX12_init_552 rfl ?_
  refine GO.newT (atype := .int) 73 10 gw_89 rfl rfl (fun _ _ h => h) rfl rfl rfl (Or.inr rfl) (fun _ => okv_df rfl rfl rfl) rfl rfl dX12_init_554 (fun o1096 K1097 V1103 hq1098 hK1099 hE1100 h1101 hz1104 hV1102 => ?_)
  have h1105 := (by rw [hK1099, updK_ne (K_old h1087 hq1098)]; exact h1087 : K1097 x = some (0, 23))
  have pf1106 := PF.nw pf1094 hV1102 (K_old h1087 hq1098)
  have kz1108 := hE1100.arr kz1090
  have hz1107 : ∀ j, V1103 o323 j = .int 0 := fun j => (congrFun (hV1102 _ (K_old kz1090 hq1098)) j).trans (hz1095 j)
  have h1109 := KE.nw (KE.new (KE.new (KE.new (KE.new (KE.new (KE.new (KE.new (KE.new (KE.new (KE.new (KE.new (KE.new (KE.new (KE.new (KE.new (KE.new (KE.new (KE.new (KE.new (KE.new (KE.new (KE.new (KE.new (KE.new (KE.new (KE.new (KE.new (KE.new (KE.new (KE.new (KE.new (KE.new (KE.new (KE.new (KE.new (KE.new (KE.new (KE.new (KE.new (KE.new (KE.new (KE.new (KE.new (KE.new (KE.new (KE.new (KE.new (KE.new (KE.new (KE.new (KE.new (KE.new (KE.new (KE.new (KE.new (KE.new (KE.new (KE.new (KE.new (KE.new (KE.new (KE.new (KE.new (KE.new KE.rf hq10 hK11) hq25 hK26) hq40 hK41) hq55 hK56) hq70 hK71) hq85 hK86) hq100 hK101) hq115 hK116) hq130 hK131) hq145 hK146) hq160 hK161) hq175 hK176) hq190 hK191) hq205 hK206) hq220 hK221) hq235 hK236) hq250 hK251) hq265 hK266) hq280 hK281) hq295 hK296) hq310 hK311) hq325 hK326) hq342 hK343) hq360 hK361) hq378 hK379) hq396 hK397) hq414 hK415) hq432 hK433) hq450 hK451) hq468 hK469) hq486 hK487) hq504 hK505) hq522 hK523) hq540 hK541) hq558 hK559) hq576 hK577) hq594 hK595) hq612 hK613) hq630 hK631) hq648 hK649) hq666 hK667) hq684 hK685) hq702 hK703) hq720 hK721) hq738 hK739) hq756 hK757) hq774 hK775) hq792 hK793) hq810 hK811) hq828 hK829) hq846 hK847) hq864 hK865) hq882 hK883) hq900 hK901) hq918 hK919) hq936 hK937) hq954 hK955) hq972 hK973) hq990 hK991) hq1008 hK1009) hq1026 hK1027) hq1044 hK1045) hq1062 hK1063) hq1080 hK1081) h1087 hq1098
  clear pf1094 kz1090 hz1095
  refine GO.putRF rfl rfl (by decide +kernel) h1105 fp_raw_fp_RX12_211 rfl rfl dX12_init_556 (fun V1111 e1110 => ?_)
  have pf1112 := PF.put pf1106 e1110 rfl
  have hz1113 : ∀ j, V1111 o323 j = .int 0 := fun j => (uq_ne e1110 (Or.inl (K_ne kz1108 h1105 (by decide)))).trans (hz1107 j)
  clear pf1106 hz1107
  refine GO.aload_n dX12_init_559 rfl rfl ?_
  refine GO.bipush dX12_init_560 rfl ?_
  refine GO.newT (atype := .int) 74 10 gw_89 rfl rfl (fun _ _ h => h) rfl rfl rfl (Or.inr rfl) (fun _ => okv_df rfl rfl rfl) rfl rfl dX12_init_562 (fun o1114 K1115 V1121 hq1116 hK1117 hE1118 h1119 hz1122 hV1120 => ?_)
  have h1123 := (by rw [hK1117, updK_ne (K_old h1105 hq1116)]; exact h1105 : K1115 x = some (0, 23))
  have pf1124 := PF.nw pf1112 hV1120 (K_old h1105 hq1116)
  have kz1126 := hE1118.arr kz1108
  have hz1125 : ∀ j, V1121 o323 j = .int 0 := fun j => (congrFun (hV1120 _ (K_old kz1108 hq1116)) j).trans (hz1113 j)
  have h1127 := KE.nw (KE.new (KE.new (KE.new (KE.new (KE.new (KE.new (KE.new (KE.new (KE.new (KE.new (KE.new (KE.new (KE.new (KE.new (KE.new (KE.new (KE.new (KE.new (KE.new (KE.new (KE.new (KE.new (KE.new (KE.new (KE.new (KE.new (KE.new (KE.new (KE.new (KE.new (KE.new (KE.new (KE.new (KE.new (KE.new (KE.new (KE.new (KE.new (KE.new (KE.new (KE.new (KE.new (KE.new (KE.new (KE.new (KE.new (KE.new (KE.new (KE.new (KE.new (KE.new (KE.new (KE.new (KE.new (KE.new (KE.new (KE.new (KE.new (KE.new (KE.new (KE.new (KE.new (KE.new (KE.new (KE.new KE.rf hq10 hK11) hq25 hK26) hq40 hK41) hq55 hK56) hq70 hK71) hq85 hK86) hq100 hK101) hq115 hK116) hq130 hK131) hq145 hK146) hq160 hK161) hq175 hK176) hq190 hK191) hq205 hK206) hq220 hK221) hq235 hK236) hq250 hK251) hq265 hK266) hq280 hK281) hq295 hK296) hq310 hK311) hq325 hK326) hq342 hK343) hq360 hK361) hq378 hK379) hq396 hK397) hq414 hK415) hq432 hK433) hq450 hK451) hq468 hK469) hq486 hK487) hq504 hK505) hq522 hK523) hq540 hK541) hq558 hK559) hq576 hK577) hq594 hK595) hq612 hK613) hq630 hK631) hq648 hK649) hq666 hK667) hq684 hK685) hq702 hK703) hq720 hK721) hq738 hK739) hq756 hK757) hq774 hK775) hq792 hK793) hq810 hK811) hq828 hK829) hq846 hK847) hq864 hK865) hq882 hK883) hq900 hK901) hq918 hK919) hq936 hK937) hq954 hK955) hq972 hK973) hq990 hK991) hq1008 hK1009) hq1026 hK1027) hq1044 hK1045) hq1062 hK1063) hq1080 hK1081) hq1098 hK1099) h1105 hq1116
  clear pf1112 kz1108 hz1113
  refine GO.putRF rfl rfl (by decide +kernel) h1123 fp_raw_fp_RX12_214 rfl rfl dX12_init_564 (fun V1129 e1128 => ?_)
  have pf1130 := PF.put pf1124 e1128 rfl
  have hz1131 : ∀ j, V1129 o323 j = .int 0 := fun j => (uq_ne e1128 (Or.inl (K_ne kz1126 h1123 (by decide)))).trans (hz1125 j)
  clear pf1124 hz1125
  refine GO.aload_n dX12_init_567 rfl rfl ?_
  refine GO.bipush dX12_init_568 rfl ?_
  refine GO.newT (atype := .int) 75 10 gw_89 rfl rfl (fun _ _ h => h) rfl rfl rfl (Or.inr rfl) (fun _ => okv_df rfl rfl rfl) rfl rfl dX12_init_570 (fun o1132 K1133 V1139 hq1134 hK1135 hE1136 h1137 hz1140 hV1138 => ?_)
  have h1141 := (by rw [hK1135, updK_ne (K_old h1123 hq1134)]; exact h1123 : K1133 x = some (0, 23))
  have pf1142 := PF.nw pf1130 hV1138 (K_old h1123 hq1134)
  have kz1144 := hE1136.arr kz1126
  have hz1143 : ∀ j, V1139 o323 j = .int 0 := fun j => (congrFun (hV1138 _ (K_old kz1126 hq1134)) j).trans (hz1131 j)
  have h1145 := KE.nw (KE.new (KE.new (KE.new (KE.new (KE.new (KE.new (KE.new (KE.new (KE.new (KE.new (KE.new (KE.new (KE.new (KE.new (KE.new (KE.new (KE.new (KE.new (KE.new (KE.new (KE.new (KE.new (KE.new (KE.new (KE.new (KE.new (KE.new (KE.new (KE.new (KE.new (KE.new (KE.new (KE.new (KE.new (KE.new (KE.new (KE.new (KE.new (KE.new (KE.new (KE.new (KE.new (KE.new (KE.new (KE.new (KE.new (KE.new (KE.new (KE.new (KE.new (KE.new (KE.new (KE.new (KE.new (KE.new (KE.new (KE.new (KE.new (KE.new (KE.new (KE.new (KE.new (KE.new (KE.new (KE.new (KE.new KE.rf hq10 hK11) hq25 hK26) hq40 hK41) hq55 hK56) hq70 hK71) hq85 hK86) hq100 hK101) hq115 hK116) hq130 hK131) hq145 hK146) hq160 hK161) hq175 hK176) hq190 hK191) hq205 hK206) hq220 hK221) hq235 hK236) hq250 hK251) hq265 hK266) hq280 hK281) hq295 hK296) hq310 hK311) hq325 hK326) hq342 hK343) hq360 hK361) hq378 hK379) hq396 hK397) hq414 hK415) hq432 hK433) hq450 hK451) hq468 hK469) hq486 hK487) hq504 hK505) hq522 hK523) hq540 hK541) hq558 hK559) hq576 hK577) hq594 hK595) hq612 hK613) hq630 hK631) hq648 hK649) hq666 hK667) hq684 hK685) hq702 hK703) hq720 hK721) hq738 hK739) hq756 hK757) hq774 hK775) hq792 hK793) hq810 hK811) hq828 hK829) hq846 hK847) hq864 hK865) hq882 hK883) hq900 hK901) hq918 hK919) hq936 hK937) hq954 hK955) hq972 hK973) hq990 hK991) hq1008 hK1009) hq1026 hK1027) hq1044 hK1045) hq1062 hK1063) hq1080 hK1081) hq1098 hK1099) hq1116 hK1117) h1123 hq1134
  clear pf1130 kz1126 hz1131
  refine GO.putRF rfl rfl (by decide +kernel) h1141 fp_raw_fp_RX12_217 rfl rfl dX12_init_572 (fun V1147 e1146 => ?_)
  have pf1148 := PF.put pf1142 e1146 rfl
  have hz1149 : ∀ j, V1147 o323 j = .int 0 := fun j => (uq_ne e1146 (Or.inl (K_ne kz1144 h1141 (by decide)))).trans (hz1143 j)
  clear pf1142 hz1143
  refine GO.aload_n dX12_init_575 rfl rfl ?_
  refine GO.bipush dX12_init_576 rfl ?_
  refine GO.newT (atype := .int) 76 10 gw_89 rfl rfl (fun _ _ h => h) rfl rfl rfl (Or.inr rfl) (fun _ => okv_df rfl rfl rfl) rfl rfl dX12_init_578 (fun o1150 K1151 V1157 hq1152 hK1153 hE1154 h1155 hz1158 hV1156 => ?_)
  have h1159 := (by rw [hK1153, updK_ne (K_old h1141 hq1152)]; exact h1141 : K1151 x = some (0, 23))
  have pf1160 := PF.nw pf1148 hV1156 (K_old h1141 hq1152)
  have kz1162 := hE1154.arr kz1144
  have hz1161 : ∀ j, V1157 o323 j = .int 0 := fun j => (congrFun (hV1156 _ (K_old kz1144 hq1152)) j).trans (hz1149 j)
  have h1163 := KE.nw (KE.new (KE.new (KE.new (KE.new (KE.new (KE.new (KE.new (KE.new (KE.new (KE.new (KE.new (KE.new (KE.new (KE.new (KE.new (KE.new (KE.new (KE.new (KE.new (KE.new (KE.new (KE.new (KE.new (KE.new (KE.new (KE.new (KE.new (KE.new (KE.new (KE.new (KE.new (KE.new (KE.new (KE.new (KE.new (KE.new (KE.new (KE.new (KE.new (KE.new (KE.new (KE.new (KE.new (KE.new (KE.new (KE.new (KE.new (KE.new (KE.new (KE.new (KE.new (KE.new (KE.new (KE.new (KE.new (KE.new (KE.new (KE.new (KE.new (KE.new (KE.new (KE.new (KE.new (KE.new (KE.new (KE.new (KE.new KE.rf hq10 hK11) hq25 hK26) hq40 hK41) hq55 hK56) hq70 hK71) hq85 hK86) hq100 hK101) hq115 hK116) hq130 hK131) hq145 hK146) hq160 hK161) hq175 hK176) hq190 hK191) hq205 hK206) hq220 hK221) hq235 hK236) hq250 hK251) hq265 hK266) hq280 hK281) hq295 hK296) hq310 hK311) hq325 hK326) hq342 hK343) hq360 hK361) hq378 hK379) hq396 hK397) hq414 hK415) hq432 hK433) hq450 hK451) hq468 hK469) hq486 hK487) hq504 hK505) hq522 hK523) hq540 hK541) hq558 hK559) hq576 hK577) hq594 hK595) hq612 hK613) hq630 hK631) hq648 hK649) hq666 hK667) hq684 hK685) hq702 hK703) hq720 hK721) hq738 hK739) hq756 hK757) hq774 hK775) hq792 hK793) hq810 hK811) hq828 hK829) hq846 hK847) hq864 hK865) hq882 hK883) hq900 hK901) hq918 hK919) hq936 hK937) hq954 hK955) hq972 hK973) hq990 hK991) hq1008 hK1009) hq1026 hK1027) hq1044 hK1045) hq1062 hK1063) hq1080 hK1081) hq1098 hK1099) hq1116 hK1117) hq1134 hK1135) h1141 hq1152
  clear pf1148 kz1144 hz1149
  refine GO.putRF rfl rfl (by decide +kernel) h1159 fp_raw_fp_RX12_220 rfl rfl dX12_init_580 (fun V1165 e1164 => ?_)
  have pf1166 := PF.put pf1160 e1164 rfl
  have hz1167 : ∀ j, V1165 o323 j = .int 0 := fun j => (uq_ne e1164 (Or.inl (K_ne kz1162 h1159 (by decide)))).trans (hz1161 j)
  clear pf1160 hz1161
  refine GO.aload_n dX12_init_583 rfl rfl ?_
  refine GO.bipush dX12_init_584 rfl ?_
  refine GO.newT (atype := .int) 77 10 gw_89 rfl rfl (fun _ _ h => h) rfl rfl rfl (Or.inr rfl) (fun _ => okv_df rfl rfl rfl) rfl rfl dX12_init_586 (fun o1168 K1169 V1175 hq1170 hK1171 hE1172 h1173 hz1176 hV1174 => ?_)
  have h1177 := (by rw [hK1171, updK_ne (K_old h1159 hq1170)]; exact h1159 : K1169 x = some (0, 23))
  have pf1178 := PF.nw pf1166 hV1174 (K_old h1159 hq1170)
  have kz1180 := hE1172.arr kz1162
  have hz1179 : ∀ j, V1175 o323 j = .int 0 := fun j => (congrFun (hV1174 _ (K_old kz1162 hq1170)) j).trans (hz1167 j)
  have h1181 := KE.nw (KE.new (KE.new (KE.new (KE.new (KE.new (KE.new (KE.new (KE.new (KE.new (KE.new (KE.new (KE.new (KE.new (KE.new (KE.new (KE.new (KE.new (KE.new (KE.new (KE.new (KE.new (KE.new (KE.new (KE.new (KE.new (KE.new (KE.new (KE.new (KE.new (KE.new (KE.new (KE.new (KE.new (KE.new (KE.new (KE.new (KE.new (KE.new (KE.new (KE.new (KE.new (KE.new (KE.new (KE.new (KE.new (KE.new (KE.new (KE.new (KE.new (KE.new (KE.new (KE.new (KE.new (KE.new (KE.new (KE.new (KE.new (KE.new (KE.new (KE.new (KE.new (KE.new (KE.new (KE.new (KE.new (KE.new (KE.new (KE.new KE.rf hq10 hK11) hq25 hK26) hq40 hK41) hq55 hK56) hq70 hK71) hq85 hK86) hq100 hK101) hq115 hK116) hq130 hK131) hq145 hK146) hq160 hK161) hq175 hK176) hq190 hK191) hq205 hK206) hq220 hK221) hq235 hK236) hq250 hK251) hq265 hK266) hq280 hK281) hq295 hK296) hq310 hK311) hq325 hK326) hq342 hK343) hq360 hK361) hq378 hK379) hq396 hK397) hq414 hK415) hq432 hK433) hq450 hK451) hq468 hK469) hq486 hK487) hq504 hK505) hq522 hK523) hq540 hK541) hq558 hK559) hq576 hK577) hq594 hK595) hq612 hK613) hq630 hK631) hq648 hK649) hq666 hK667) hq684 hK685) hq702 hK703) hq720 hK721) hq738 hK739) hq756 hK757) hq774 hK775) hq792 hK793) hq810 hK811) hq828 hK829) hq846 hK847) hq864 hK865) hq882 hK883) hq900 hK901) hq918 hK919) hq936 hK937) hq954 hK955) hq972 hK973) hq990 hK991) hq1008 hK1009) hq1026 hK1027) hq1044 hK1045) hq1062 hK1063) hq1080 hK1081) hq1098 hK1099) hq1116 hK1117) hq1134 hK1135) hq1152 hK1153) h1159 hq1170
  clear pf1166 kz1162 hz1167
  refine GO.putRF rfl rfl (by decide +kernel) h1177 fp_raw_fp_RX12_223 rfl rfl dX12_init_588 (fun V1183 e1182 => ?_)
  have pf1184 := PF.put pf1178 e1182 rfl
  have hz1185 : ∀ j, V1183 o323 j = .int 0 := fun j => (uq_ne e1182 (Or.inl (K_ne kz1180 h1177 (by decide)))).trans (hz1179 j)
  clear pf1178 hz1179
  refine GO.aload_n dX12_init_591 rfl rfl ?_
  refine GO.bipush dX12_init_592 rfl ?_
  refine GO.newT (atype := .int) 78 10 gw_89 rfl rfl (fun _ _ h => h) rfl rfl rfl (Or.inr rfl) (fun _ => okv_df rfl rfl rfl) rfl rfl dX12_init_594 (fun o1186 K1187 V1193 hq1188 hK1189 hE1190 h1191 hz1194 hV1192 => ?_)
  have h1195 := (by rw [hK1189, updK_ne (K_old h1177 hq1188)]; exact h1177 : K1187 x = some (0, 23))
  have pf1196 := PF.nw pf1184 hV1192 (K_old h1177 hq1188)
  have kz1198 := hE1190.arr kz1180
  have hz1197 : ∀ j, V1193 o323 j = .int 0 := fun j => (congrFun (hV1192 _ (K_old kz1180 hq1188)) j).trans (hz1185 j)
  have h1199 := KE.nw (KE.new (KE.new (KE.new (KE.new (KE.new (KE.new (KE.new (KE.new (KE.new (KE.new (KE.new (KE.new (KE.new (KE.new (KE.new (KE.new (KE.new (KE.new (KE.new (KE.new (KE.new (KE.new (KE.new (KE.new (KE.new (KE.new (KE.new (KE.new (KE.new (KE.new (KE.new (KE.new (KE.new (KE.new (KE.new (KE.new (KE.new (KE.new (KE.new (KE.new (KE.new (KE.new (KE.new (KE.new (KE.new (KE.new (KE.new (KE.new (KE.new (KE.new (KE.new (KE.new (KE.new (KE.new (KE.new (KE.new (KE.new (KE.new (KE.new (KE.new (KE.new (KE.new (KE.new (KE.new (KE.new (KE.new (KE.new (KE.new (KE.new KE.rf hq10 hK11) hq25 hK26) hq40 hK41) hq55 hK56) hq70 hK71) hq85 hK86) hq100 hK101) hq115 hK116) hq130 hK131) hq145 hK146) hq160 hK161) hq175 hK176) hq190 hK191) hq205 hK206) hq220 hK221) hq235 hK236) hq250 hK251) hq265 hK266) hq280 hK281) hq295 hK296) hq310 hK311) hq325 hK326) hq342 hK343) hq360 hK361) hq378 hK379) hq396 hK397) hq414 hK415) hq432 hK433) hq450 hK451) hq468 hK469) hq486 hK487) hq504 hK505) hq522 hK523) hq540 hK541) hq558 hK559) hq576 hK577) hq594 hK595) hq612 hK613) hq630 hK631) hq648 hK649) hq666 hK667) hq684 hK685) hq702 hK703) hq720 hK721) hq738 hK739) hq756 hK757) hq774 hK775) hq792 hK793) hq810 hK811) hq828 hK829) hq846 hK847) hq864 hK865) hq882 hK883) hq900 hK901) hq918 hK919) hq936 hK937) hq954 hK955) hq972 hK973) hq990 hK991) hq1008 hK1009) hq1026 hK1027) hq1044 hK1045) hq1062 hK1063) hq1080 hK1081) hq1098 hK1099) hq1116 hK1117) hq1134 hK1135) hq1152 hK1153) hq1170 hK1171) h1177 hq1188
  clear pf1184 kz1180 hz1185
  refine GO.putRF rfl rfl (by decide +kernel) h1195 fp_raw_fp_RX12_226 rfl rfl dX12_init_596 (fun V1201 e1200 => ?_)
  have pf1202 := PF.put pf1196 e1200 rfl
  have hz1203 : ∀ j, V1201 o323 j = .int 0 := fun j => (uq_ne e1200 (Or.inl (K_ne kz1198 h1195 (by decide)))).trans (hz1197 j)
  clear pf1196 hz1197
  refine GO.aload_n dX12_init_599 rfl rfl ?_
  refine GO.bipush dX12_init_600 rfl ?_
  refine GO.newT (atype := .int) 79 10 gw_89 rfl rfl (fun _ _ h => h) rfl rfl rfl (Or.inr rfl) (fun _ => okv_df rfl rfl rfl) rfl rfl dX12_init_602 (fun o1204 K1205 V1211 hq1206 hK1207 hE1208 h1209 hz1212 hV1210 => ?_)
  have h1213 := (by rw [hK1207, updK_ne (K_old h1195 hq1206)]; exact h1195 : K1205 x = some (0, 23))
  have pf1214 := PF.nw pf1202 hV1210 (K_old h1195 hq1206)
  have kz1216 := hE1208.arr kz1198
  have hz1215 : ∀ j, V1211 o323 j = .int 0 := fun j => (congrFun (hV1210 _ (K_old kz1198 hq1206)) j).trans (hz1203 j)
  have h1217 := KE.nw (KE.new (KE.new (KE.new (KE.new (KE.new (KE.new (KE.new (KE.new (KE.new (KE.new (KE.new (KE.new (KE.new (KE.new (KE.new (KE.new (KE.new (KE.new (KE.new (KE.new (KE.new (KE.new (KE.new (KE.new (KE.new (KE.new (KE.new (KE.new (KE.new (KE.new (KE.new (KE.new (KE.new (KE.new (KE.new (KE.new (KE.new (KE.new (KE.new (KE.new (KE.new (KE.new (KE.new (KE.new (KE.new (KE.new (KE.new (KE.new (KE.new (KE.new (KE.new (KE.new (KE.new (KE.new (KE.new (KE.new (KE.new (KE.new (KE.new (KE.new (KE.new (KE.new (KE.new (KE.new (KE.new (KE.new (KE.new (KE.new (KE.new (KE.new KE.rf hq10 hK11) hq25 hK26) hq40 hK41) hq55 hK56) hq70 hK71) hq85 hK86) hq100 hK101) hq115 hK116) hq130 hK131) hq145 hK146) hq160 hK161) hq175 hK176) hq190 hK191) hq205 hK206) hq220 hK221) hq235 hK236) hq250 hK251) hq265 hK266) hq280 hK281) hq295 hK296) hq310 hK311) hq325 hK326) hq342 hK343) hq360 hK361) hq378 hK379) hq396 hK397) hq414 hK415) hq432 hK433) hq450 hK451) hq468 hK469) hq486 hK487) hq504 hK505) hq522 hK523) hq540 hK541) hq558 hK559) hq576 hK577) hq594 hK595) hq612 hK613) hq630 hK631) hq648 hK649) hq666 hK667) hq684 hK685) hq702 hK703) hq720 hK721) hq738 hK739) hq756 hK757) hq774 hK775) hq792 hK793) hq810 hK811) hq828 hK829) hq846 hK847) hq864 hK865) hq882 hK883) hq900 hK901) hq918 hK919) hq936 hK937) hq954 hK955) hq972 hK973) hq990 hK991) hq1008 hK1009) hq1026 hK1027) hq1044 hK1045) hq1062 hK1063) hq1080 hK1081) hq1098 hK1099) hq1116 hK1117) hq1134 hK1135) hq1152 hK1153) hq1170 hK1171) hq1188 hK1189) h1195 hq1206
  clear pf1202 kz1198 hz1203
  refine GO.putRF rfl rfl (by decide +kernel) h1213 fp_raw_fp_RX12_229 rfl rfl dX12_init_604 (fun V1219 e1218 => ?_)
  have pf1220 := PF.put pf1214 e1218 rfl
  have hz1221 : ∀ j, V1219 o323 j = .int 0 := fun j => (uq_ne e1218 (Or.inl (K_ne kz1216 h1213 (by decide)))).trans (hz1215 j)
  clear pf1214 hz1215
  refine GO.aload_n dX12_init_607 rfl rfl ?_
  refine GO.bipush dX12_init_608 rfl ?_
  refine GO.newT (atype := .int) 80 10 gw_89 rfl rfl (fun _ _ h => h) rfl rfl rfl (Or.inr rfl) (fun _ => okv_df rfl rfl rfl) rfl rfl dX12_init_610 (fun o1222 K1223 V1229 hq1224 hK1225 hE1226 h1227 hz1230 hV1228 => ?_)
  have h1231 := (by rw [hK1225, updK_ne (K_old h1213 hq1224)]; exact h1213 : K1223 x = some (0, 23))
  have pf1232 := PF.nw pf1220 hV1228 (K_old h1213 hq1224)
  have kz1234 := hE1226.arr kz1216
  have hz1233 : ∀ j, V1229 o323 j = .int 0 := fun j => (congrFun (hV1228 _ (K_old kz1216 hq1224)) j).trans (hz1221 j)
  have h1235 := KE.nw (KE.new (KE.new (KE.new (KE.new (KE.new (KE.new (KE.new (KE.new (KE.new (KE.new (KE.new (KE.new (KE.new (KE.new (KE.new (KE.new (KE.new (KE.new (KE.new (KE.new (KE.new (KE.new (KE.new (KE.new (KE.new (KE.new (KE.new (KE.new (KE.new (KE.new (KE.new (KE.new (KE.new (KE.new (KE.new (KE.new (KE.new (KE.new (KE.new (KE.new (KE.new (KE.new (KE.new (KE.new (KE.new (KE.new (KE.new (KE.new (KE.new (KE.new (KE.new (KE.new (KE.new (KE.new (KE.new (KE.new (KE.new (KE.new (KE.new (KE.new (KE.new (KE.new (KE.new (KE.new (KE.new (KE.new (KE.new (KE.new (KE.new (KE.new (KE.new KE.rf hq10 hK11) hq25 hK26) hq40 hK41) hq55 hK56) hq70 hK71) hq85 hK86) hq100 hK101) hq115 hK116) hq130 hK131) hq145 hK146) hq160 hK161) hq175 hK176) hq190 hK191) hq205 hK206) hq220 hK221) hq235 hK236) hq250 hK251) hq265 hK266) hq280 hK281) hq295 hK296) hq310 hK311) hq325 hK326) hq342 hK343) hq360 hK361) hq378 hK379) hq396 hK397) hq414 hK415) hq432 hK433) hq450 hK451) hq468 hK469) hq486 hK487) hq504 hK505) hq522 hK523) hq540 hK541) hq558 hK559) hq576 hK577) hq594 hK595) hq612 hK613) hq630 hK631) hq648 hK649) hq666 hK667) hq684 hK685) hq702 hK703) hq720 hK721) hq738 hK739) hq756 hK757) hq774 hK775) hq792 hK793) hq810 hK811) hq828 hK829) hq846 hK847) hq864 hK865) hq882 hK883) hq900 hK901) hq918 hK919) hq936 hK937) hq954 hK955) hq972 hK973) hq990 hK991) hq1008 hK1009) hq1026 hK1027) hq1044 hK1045) hq1062 hK1063) hq1080 hK1081) hq1098 hK1099) hq1116 hK1117) hq1134 hK1135) hq1152 hK1153) hq1170 hK1171) hq1188 hK1189) hq1206 hK1207) h1213 hq1224
  clear pf1220 kz1216 hz1221
  refine GO.putRF rfl rfl (by decide +kernel) h1231 fp_raw_fp_RX12_232 rfl rfl dX12_init_612 (fun V1237 e1236 => ?_)
  have pf1238 := PF.put pf1232 e1236 rfl
  have hz1239 : ∀ j, V1237 o323 j = .int 0 := fun j => (uq_ne e1236 (Or.inl (K_ne kz1234 h1231 (by decide)))).trans (hz1233 j)
  clear pf1232 hz1233
  refine GO.aload_n dX12_init_615 rfl rfl ?_
  refine GO.bipush dX12_init_616 rfl ?_
  refine GO.newT (atype := .int) 81 10 gw_89 rfl rfl (fun _ _ h => h) rfl rfl rfl (Or.inr rfl) (fun _ => okv_df rfl rfl rfl) rfl rfl dX12_init_618 (fun o1240 K1241 V1247 hq1242 hK1243 hE1244 h1245 hz1248 hV1246 => ?_)
  have h1249 := (by rw [hK1243, updK_ne (K_old h1231 hq1242)]; exact h1231 : K1241 x = some (0, 23))
  have pf1250 := PF.nw pf1238 hV1246 (K_old h1231 hq1242)
  have kz1252 := hE1244.arr kz1234
  have hz1251 : ∀ j, V1247 o323 j = .int 0 := fun j => (congrFun (hV1246 _ (K_old kz1234 hq1242)) j).trans (hz1239 j)
  have h1253 := KE.nw (KE.new (KE.new (KE.new (KE.new (KE.new (KE.new (KE.new (KE.new (KE.new (KE.new (KE.new (KE.new (KE.new (KE.new (KE.new (KE.new (KE.new (KE.new (KE.new (KE.new (KE.new (KE.new (KE.new (KE.new (KE.new (KE.new (KE.new (KE.new (KE.new (KE.new (KE.new (KE.new (KE.new (KE.new (KE.new (KE.new (KE.new (KE.new (KE.new (KE.new (KE.new (KE.new (KE.new (KE.new (KE.new (KE.new (KE.new (KE.new (KE.new (KE.new (KE.new (KE.new (KE.new (KE.new (KE.new (KE.new (KE.new (KE.new (KE.new (KE.new (KE.new (KE.new (KE.new (KE.new (KE.new (KE.new (KE.new (KE.new (KE.new (KE.new (KE.new (KE.new KE.rf hq10 hK11) hq25 hK26) hq40 hK41) hq55 hK56) hq70 hK71) hq85 hK86) hq100 hK101) hq115 hK116) hq130 hK131) hq145 hK146) hq160 hK161) hq175 hK176) hq190 hK191) hq205 hK206) hq220 hK221) hq235 hK236) hq250 hK251) hq265 hK266) hq280 hK281) hq295 hK296) hq310 hK311) hq325 hK326) hq342 hK343) hq360 hK361) hq378 hK379) hq396 hK397) hq414 hK415) hq432 hK433) hq450 hK451) hq468 hK469) hq486 hK487) hq504 hK505) hq522 hK523) hq540 hK541) hq558 hK559) hq576 hK577) hq594 hK595) hq612 hK613) hq630 hK631) hq648 hK649) hq666 hK667) hq684 hK685) hq702 hK703) hq720 hK721) hq738 hK739) hq756 hK757) hq774 hK775) hq792 hK793) hq810 hK811) hq828 hK829) hq846 hK847) hq864 hK865) hq882 hK883) hq900 hK901) hq918 hK919) hq936 hK937) hq954 hK955) hq972 hK973) hq990 hK991) hq1008 hK1009) hq1026 hK1027) hq1044 hK1045) hq1062 hK1063) hq1080 hK1081) hq1098 hK1099) hq1116 hK1117) hq1134 hK1135) hq1152 hK1153) hq1170 hK1171) hq1188 hK1189) hq1206 hK1207) hq1224 hK1225) h1231 hq1242
  clear pf1238 kz1234 hz1239
  refine GO.putRF rfl rfl (by decide +kernel) h1249 fp_raw_fp_RX12_235 rfl rfl dX12_init_620 (fun V1255 e1254 => ?_)
  have pf1256 := PF.put pf1250 e1254 rfl
  have hz1257 : ∀ j, V1255 o323 j = .int 0 := fun j => (uq_ne e1254 (Or.inl (K_ne kz1252 h1249 (by decide)))).trans (hz1251 j)
  clear pf1250 hz1251
  refine GO.aload_n dX12_init_623 rfl rfl ?_
  refine GO.bipush dX12_init_624 rfl ?_
  refine GO.newT (atype := .int) 82 10 gw_89 rfl rfl (fun _ _ h => h) rfl rfl rfl (Or.inr rfl) (fun _ => okv_df rfl rfl rfl) rfl rfl dX12_init_626 (fun o1258 K1259 V1265 hq1260 hK1261 hE1262 h1263 hz1266 hV1264 => ?_)
  have h1267 := (by rw [hK1261, updK_ne (K_old h1249 hq1260)]; exact h1249 : K1259 x = some (0, 23))
  have pf1268 := PF.nw pf1256 hV1264 (K_old h1249 hq1260)
  have kz1270 := hE1262.arr kz1252
  have hz1269 : ∀ j, V1265 o323 j = .int 0 := fun j => (congrFun (hV1264 _ (K_old kz1252 hq1260)) j).trans (hz1257 j)
  have h1271 := KE.nw (KE.new (KE.new (KE.new (KE.new (KE.new (KE.new (KE.new (KE.new (KE.new (KE.new (KE.new (KE.new (KE.new (KE.new (KE.new (KE.new (KE.new (KE.new (KE.new (KE.new (KE.new (KE.new (KE.new (KE.new (KE.new (KE.new (KE.new (KE.new (KE.new (KE.new (KE.new (KE.new (KE.new (KE.new (KE.new (KE.new (KE.new (KE.new (KE.new (KE.new (KE.new (KE.new (KE.new (KE.new (KE.new (KE.new (KE.new (KE.new (KE.new (KE.new (KE.new (KE.new (KE.new (KE.new (KE.new (KE.new (KE.new (KE.new (KE.new (KE.new (KE.new (KE.new (KE.new (KE.new (KE.new (KE.new (KE.new (KE.new (KE.new (KE.new (KE.new (KE.new (KE.new KE.rf hq10 hK11) hq25 hK26) hq40 hK41) hq55 hK56) hq70 hK71) hq85 hK86) hq100 hK101) hq115 hK116) hq130 hK131) hq145 hK146) hq160 hK161) hq175 hK176) hq190 hK191) hq205 hK206) hq220 hK221) hq235 hK236) hq250 hK251) hq265 hK266) hq280 hK281) hq295 hK296) hq310 hK311) hq325 hK326) hq342 hK343) hq360 hK361) hq378 hK379) hq396 hK397) hq414 hK415) hq432 hK433) hq450 hK451) hq468 hK469) hq486 hK487) hq504 hK505) hq522 hK523) hq540 hK541) hq558 hK559) hq576 hK577) hq594 hK595) hq612 hK613) hq630 hK631) hq648 hK649) hq666 hK667) hq684 hK685) hq702 hK703) hq720 hK721) hq738 hK739) hq756 hK757) hq774 hK775) hq792 hK793) hq810 hK811) hq828 hK829) hq846 hK847) hq864 hK865) hq882 hK883) hq900 hK901) hq918 hK919) hq936 hK937) hq954 hK955) hq972 hK973) hq990 hK991) hq1008 hK1009) hq1026 hK1027) hq1044 hK1045) hq1062 hK1063) hq1080 hK1081) hq1098 hK1099) hq1116 hK1117) hq1134 hK1135) hq1152 hK1153) hq1170 hK1171) hq1188 hK1189) hq1206 hK1207) hq1224 hK1225) hq1242 hK1243) h1249 hq1260
  clear pf1256 kz1252 hz1257
  refine GO.putRF rfl rfl (by decide +kernel) h1267 fp_raw_fp_RX12_238 rfl rfl dX12_init_628 (fun V1273 e1272 => ?_)
  have pf1274 := PF.put pf1268 e1272 rfl
  have hz1275 : ∀ j, V1273 o323 j = .int 0 := fun j => (uq_ne e1272 (Or.inl (K_ne kz1270 h1267 (by decide)))).trans (hz1269 j)
  clear pf1268 hz1269
  refine GO.aload_n dX12_init_631 rfl rfl ?_
  refine GO.bipush dX12_init_632 rfl ?_
  refine GO.newT (atype := .int) 83 48 gw_89 rfl rfl (fun _ _ h => h) rfl rfl rfl (Or.inr rfl) (fun _ => okv_df rfl rfl rfl) rfl rfl dX12_init_634 (fun o1276 K1277 V1283 hq1278 hK1279 hE1280 h1281 hz1284 hV1282 => ?_)
  have h1285 := (by rw [hK1279, updK_ne (K_old h1267 hq1278)]; exact h1267 : K1277 x = some (0, 23))
  have pf1286 := PF.nw pf1274 hV1282 (K_old h1267 hq1278)
  have kz1288 := hE1280.arr kz1270
  have hz1287 : ∀ j, V1283 o323 j = .int 0 := fun j => (congrFun (hV1282 _ (K_old kz1270 hq1278)) j).trans (hz1275 j)
  have h1289 := KE.nw (KE.new (KE.new (KE.new (KE.new (KE.new (KE.new (KE.new (KE.new (KE.new (KE.new (KE.new (KE.new (KE.new (KE.new (KE.new (KE.new (KE.new (KE.new (KE.new (KE.new (KE.new (KE.new (KE.new (KE.new (KE.new (KE.new (KE.new (KE.new (KE.new (KE.new (KE.new (KE.new (KE.new (KE.new (KE.new (KE.new (KE.new (KE.new (KE.new (KE.new (KE.new (KE.new (KE.new (KE.new (KE.new (KE.new (KE.new (KE.new (KE.new (KE.new (KE.new (KE.new (KE.new (KE.new (KE.new (KE.new (KE.new (KE.new (KE.new (KE.new (KE.new (KE.new (KE.new (KE.new (KE.new (KE.new (KE.new (KE.new (KE.new (KE.new (KE.new (KE.new (KE.new (KE.new KE.rf hq10 hK11) hq25 hK26) hq40 hK41) hq55 hK56) hq70 hK71) hq85 hK86) hq100 hK101) hq115 hK116) hq130 hK131) hq145 hK146) hq160 hK161) hq175 hK176) hq190 hK191) hq205 hK206) hq220 hK221) hq235 hK236) hq250 hK251) hq265 hK266) hq280 hK281) hq295 hK296) hq310 hK311) hq325 hK326) hq342 hK343) hq360 hK361) hq378 hK379) hq396 hK397) hq414 hK415) hq432 hK433) hq450 hK451) hq468 hK469) hq486 hK487) hq504 hK505) hq522 hK523) hq540 hK541) hq558 hK559) hq576 hK577) hq594 hK595) hq612 hK613) hq630 hK631) hq648 hK649) hq666 hK667) hq684 hK685) hq702 hK703) hq720 hK721) hq738 hK739) hq756 hK757) hq774 hK775) hq792 hK793) hq810 hK811) hq828 hK829) hq846 hK847) hq864 hK865) hq882 hK883) hq900 hK901) hq918 hK919) hq936 hK937) hq954 hK955) hq972 hK973) hq990 hK991) hq1008 hK1009) hq1026 hK1027) hq1044 hK1045) hq1062 hK1063) hq1080 hK1081) hq1098 hK1099) hq1116 hK1117) hq1134 hK1135) hq1152 hK1153) hq1170 hK1171) hq1188 hK1189) hq1206 hK1207) hq1224 hK1225) hq1242 hK1243) hq1260 hK1261) h1267 hq1278
  clear pf1274 kz1270 hz1275
  refine GO.putRF rfl rfl (by decide +kernel) h1285 fp_raw_fp_RX12_241 rfl rfl dX12_init_636 (fun V1291 e1290 => ?_)
  have pf1292 := PF.put pf1286 e1290 rfl
  have hz1293 : ∀ j, V1291 o323 j = .int 0 := fun j => (uq_ne e1290 (Or.inl (K_ne kz1288 h1285 (by decide)))).trans (hz1287 j)
  clear pf1286 hz1287
  refine GO.aload_n dX12_init_639 rfl rfl ?_
  refine GO.iconst dX12_init_640 ?_
  refine GO.newT (atype := .int) 84 4 gw_89 rfl rfl (fun _ _ h => h) rfl rfl rfl (Or.inr rfl) (fun _ => okv_df rfl rfl rfl) rfl rfl dX12_init_641 (fun o1294 K1295 V1301 hq1296 hK1297 hE1298 h1299 hz1302 hV1300 => ?_)
  have h1303 := (by rw [hK1297, updK_ne (K_old h1285 hq1296)]; exact h1285 : K1295 x = some (0, 23))
  have pf1304 := PF.nw pf1292 hV1300 (K_old h1285 hq1296)
  have kz1306 := hE1298.arr kz1288
  have hz1305 : ∀ j, V1301 o323 j = .int 0 := fun j => (congrFun (hV1300 _ (K_old kz1288 hq1296)) j).trans (hz1293 j)
  have h1307 := KE.nw (KE.new (KE.new (KE.new (KE.new (KE.new (KE.new (KE.new (KE.new (KE.new (KE.new (KE.new (KE.new (KE.new (KE.new (KE.new (KE.new (KE.new (KE.new (KE.new (KE.new (KE.new (KE.new (KE.new (KE.new (KE.new (KE.new (KE.new (KE.new (KE.new (KE.new (KE.new (KE.new (KE.new (KE.new (KE.new (KE.new (KE.new (KE.new (KE.new (KE.new (KE.new (KE.new (KE.new (KE.new (KE.new (KE.new (KE.new (KE.new (KE.new (KE.new (KE.new (KE.new (KE.new (KE.new (KE.new (KE.new (KE.new (KE.new (KE.new (KE.new (KE.new (KE.new (KE.new (KE.new (KE.new (KE.new (KE.new (KE.new (KE.new (KE.new (KE.new (KE.new (KE.new (KE.new (KE.new KE.rf hq10 hK11) hq25 hK26) hq40 hK41) hq55 hK56) hq70 hK71) hq85 hK86) hq100 hK101) hq115 hK116) hq130 hK131) hq145 hK146) hq160 hK161) hq175 hK176) hq190 hK191) hq205 hK206) hq220 hK221) hq235 hK236) hq250 hK251) hq265 hK266) hq280 hK281) hq295 hK296) hq310 hK311) hq325 hK326) hq342 hK343) hq360 hK361) hq378 hK379) hq396 hK397) hq414 hK415) hq432 hK433) hq450 hK451) hq468 hK469) hq486 hK487) hq504 hK505) hq522 hK523) hq540 hK541) hq558 hK559) hq576 hK577) hq594 hK595) hq612 hK613) hq630 hK631) hq648 hK649) hq666 hK667) hq684 hK685) hq702 hK703) hq720 hK721) hq738 hK739) hq756 hK757) hq774 hK775) hq792 hK793) hq810 hK811) hq828 hK829) hq846 hK847) hq864 hK865) hq882 hK883) hq900 hK901) hq918 hK919) hq936 hK937) hq954 hK955) hq972 hK973) hq990 hK991) hq1008 hK1009) hq1026 hK1027) hq1044 hK1045) hq1062 hK1063) hq1080 hK1081) hq1098 hK1099) hq1116 hK1117) hq1134 hK1135) hq1152 hK1153) hq1170 hK1171) hq1188 hK1189) hq1206 hK1207) hq1224 hK1225) hq1242 hK1243) hq1260 hK1261) hq1278 hK1279) h1285 hq1296
  clear pf1292 kz1288 hz1293
  refine GO.putRF rfl rfl (by decide +kernel) h1303 fp_raw_fp_RX12_244 rfl rfl dX12_init_643 (fun V1309 e1308 => ?_)
  have pf1310 := PF.put pf1304 e1308 rfl
  have hz1311 : ∀ j, V1309 o323 j = .int 0 := fun j => (uq_ne e1308 (Or.inl (K_ne kz1306 h1303 (by decide)))).trans (hz1305 j)
  clear pf1304 hz1305
  refine GO.aload_n dX12_init_646 rfl rfl ?_
  refine GO.bipush dX12_init_647 rfl ?_
  refine GO.newT (atype := .int) 85 40 gw_89 rfl rfl (fun _ _ h => h) rfl rfl rfl (Or.inr rfl) (fun _ => okv_df rfl rfl rfl) rfl rfl dX12_init_649 (fun o1312 K1313 V1319 hq1314 hK1315 hE1316 h1317 hz1320 hV1318 => ?_)
  have h1321 := (by rw [hK1315, updK_ne (K_old h1303 hq1314)]; exact h1303 : K1313 x = some (0, 23))
  have pf1322 := PF.nw pf1310 hV1318 (K_old h1303 hq1314)
  have kz1324 := hE1316.arr kz1306
  have hz1323 : ∀ j, V1319 o323 j = .int 0 := fun j => (congrFun (hV1318 _ (K_old kz1306 hq1314)) j).trans (hz1311 j)
  have h1325 := KE.nw (KE.new (KE.new (KE.new (KE.new (KE.new (KE.new (KE.new (KE.new (KE.new (KE.new (KE.new (KE.new (KE.new (KE.new (KE.new (KE.new (KE.new (KE.new (KE.new (KE.new (KE.new (KE.new (KE.new (KE.new (KE.new (KE.new (KE.new (KE.new (KE.new (KE.new (KE.new (KE.new (KE.new (KE.new (KE.new (KE.new (KE.new (KE.new (KE.new (KE.new (KE.new (KE.new (KE.new (KE.new (KE.new (KE.new (KE.new (KE.new (KE.new (KE.new (KE.new (KE.new (KE.new (KE.new (KE.new (KE.new (KE.new (KE.new (KE.new (KE.new (KE.new (KE.new (KE.new (KE.new (KE.new (KE.new (KE.new (KE.new (KE.new (KE.new (KE.new (KE.new (KE.new (KE.new (KE.new (KE.new KE.rf hq10 hK11) hq25 hK26) hq40 hK41) hq55 hK56) hq70 hK71) hq85 hK86) hq100 hK101) hq115 hK116) hq130 hK131) hq145 hK146) hq160 hK161) hq175 hK176) hq190 hK191) hq205 hK206) hq220 hK221) hq235 hK236) hq250 hK251) hq265 hK266) hq280 hK281) hq295 hK296) hq310 hK311) hq325 hK326) hq342 hK343) hq360 hK361) hq378 hK379) hq396 hK397) hq414 hK415) hq432 hK433) hq450 hK451) hq468 hK469) hq486 hK487) hq504 hK505) hq522 hK523) hq540 hK541) hq558 hK559) hq576 hK577) hq594 hK595) hq612 hK613) hq630 hK631) hq648 hK649) hq666 hK667) hq684 hK685) hq702 hK703) hq720 hK721) hq738 hK739) hq756 hK757) hq774 hK775) hq792 hK793) hq810 hK811) hq828 hK829) hq846 hK847) hq864 hK865) hq882 hK883) hq900 hK901) hq918 hK919) hq936 hK937) hq954 hK955) hq972 hK973) hq990 hK991) hq1008 hK1009) hq1026 hK1027) hq1044 hK1045) hq1062 hK1063) hq1080 hK1081) hq1098 hK1099) hq1116 hK1117) hq1134 hK1135) hq1152 hK1153) hq1170 hK1171) hq1188 hK1189) hq1206 hK1207) hq1224 hK1225) hq1242 hK1243) hq1260 hK1261) hq1278 hK1279) hq1296 hK1297) h1303 hq1314
  clear pf1310 kz1306 hz1311
  refine GO.putRF rfl rfl (by decide +kernel) h1321 fp_raw_fp_RX12_247 rfl rfl dX12_init_651 (fun V1327 e1326 => ?_)
  have pf1328 := PF.put pf1322 e1326 rfl
  have hz1329 : ∀ j, V1327 o323 j = .int 0 := fun j => (uq_ne e1326 (Or.inl (K_ne kz1324 h1321 (by decide)))).trans (hz1323 j)
  clear pf1322 hz1323
  refine GO.aload_n dX12_init_654 rfl rfl ?_
  refine GO.bipush dX12_init_655 rfl ?_
  refine GO.newT (atype := .int) 86 40 gw_89 rfl rfl (fun _ _ h => h) rfl rfl rfl (Or.inr rfl) (fun _ => okv_df rfl rfl rfl) rfl rfl dX12_init_657 (fun o1330 K1331 V1337 hq1332 hK1333 hE1334 h1335 hz1338 hV1336 => ?_)
  have h1339 := (by rw [hK1333, updK_ne (K_old h1321 hq1332)]; exact h1321 : K1331 x = some (0, 23))
  have pf1340 := PF.nw pf1328 hV1336 (K_old h1321 hq1332)
  have kz1342 := hE1334.arr kz1324
  have hz1341 : ∀ j, V1337 o323 j = .int 0 := fun j => (congrFun (hV1336 _ (K_old kz1324 hq1332)) j).trans (hz1329 j)
  have h1343 := KE.nw (KE.new (KE.new (KE.new (KE.new (KE.new (KE.new (KE.new (KE.new (KE.new (KE.new (KE.new (KE.new (KE.new (KE.new (KE.new (KE.new (KE.new (KE.new (KE.new (KE.new (KE.new (KE.new (KE.new (KE.new (KE.new (KE.new (KE.new (KE.new (KE.new (KE.new (KE.new (KE.new (KE.new (KE.new (KE.new (KE.new (KE.new (KE.new (KE.new (KE.new (KE.new (KE.new (KE.new (KE.new (KE.new (KE.new (KE.new (KE.new (KE.new (KE.new (KE.new (KE.new (KE.new (KE.new (KE.new (KE.new (KE.new (KE.new (KE.new (KE.new (KE.new (KE.new (KE.new (KE.new (KE.new (KE.new (KE.new (KE.new (KE.new (KE.new (KE.new (KE.new (KE.new (KE.new (KE.new (KE.new (KE.new KE.rf hq10 hK11) hq25 hK26) hq40 hK41) hq55 hK56) hq70 hK71) hq85 hK86) hq100 hK101) hq115 hK116) hq130 hK131) hq145 hK146) hq160 hK161) hq175 hK176) hq190 hK191) hq205 hK206) hq220 hK221) hq235 hK236) hq250 hK251) hq265 hK266) hq280 hK281) hq295 hK296) hq310 hK311) hq325 hK326) hq342 hK343) hq360 hK361) hq378 hK379) hq396 hK397) hq414 hK415) hq432 hK433) hq450 hK451) hq468 hK469) hq486 hK487) hq504 hK505) hq522 hK523) hq540 hK541) hq558 hK559) hq576 hK577) hq594 hK595) hq612 hK613) hq630 hK631) hq648 hK649) hq666 hK667) hq684 hK685) hq702 hK703) hq720 hK721) hq738 hK739) hq756 hK757) hq774 hK775) hq792 hK793) hq810 hK811) hq828 hK829) hq846 hK847) hq864 hK865) hq882 hK883) hq900 hK901) hq918 hK919) hq936 hK937) hq954 hK955) hq972 hK973) hq990 hK991) hq1008 hK1009) hq1026 hK1027) hq1044 hK1045) hq1062 hK1063) hq1080 hK1081) hq1098 hK1099) hq1116 hK1117) hq1134 hK1135) hq1152 hK1153) hq1170 hK1171) hq1188 hK1189) hq1206 hK1207) hq1224 hK1225) hq1242 hK1243) hq1260 hK1261) hq1278 hK1279) hq1296 hK1297) hq1314 hK1315) h1321 hq1332
  clear pf1328 kz1324 hz1329
  refine GO.putRF rfl rfl (by decide +kernel) h1339 fp_raw_fp_RX12_250 rfl rfl dX12_init_659 (fun V1345 e1344 => ?_)
  have pf1346 := PF.put pf1340 e1344 rfl
  have hz1347 : ∀ j, V1345 o323 j = .int 0 := fun j => (uq_ne e1344 (Or.inl (K_ne kz1342 h1339 (by decide)))).trans (hz1341 j)
  clear pf1340 hz1341
  refine GO.aload_n dX12_init_662 rfl rfl ?_
  refine GO.bipush dX12_init_663 rfl ?_
  refine GO.newT (atype := .int) 87 40 gw_89 rfl rfl (fun _ _ h => h) rfl rfl rfl (Or.inr rfl) (fun _ => okv_df rfl rfl rfl) rfl rfl dX12_init_665 (fun o1348 K1349 V1355 hq1350 hK1351 hE1352 h1353 hz1356 hV1354 => ?_)
  have h1357 := (by rw [hK1351, updK_ne (K_old h1339 hq1350)]; exact h1339 : K1349 x = some (0, 23))
  have pf1358 := PF.nw pf1346 hV1354 (K_old h1339 hq1350)
  have kz1360 := hE1352.arr kz1342
  have hz1359 : ∀ j, V1355 o323 j = .int 0 := fun j => (congrFun (hV1354 _ (K_old kz1342 hq1350)) j).trans (hz1347 j)
  have h1361 := KE.nw (KE.new (KE.new (KE.new (KE.new (KE.new (KE.new (KE.new (KE.new (KE.new (KE.new (KE.new (KE.new (KE.new (KE.new (KE.new (KE.new (KE.new (KE.new (KE.new (KE.new (KE.new (KE.new (KE.new (KE.new (KE.new (KE.new (KE.new (KE.new (KE.new (KE.new (KE.new (KE.new (KE.new (KE.new (KE.new (KE.new (KE.new (KE.new (KE.new (KE.new (KE.new (KE.new (KE.new (KE.new (KE.new (KE.new (KE.new (KE.new (KE.new (KE.new (KE.new (KE.new (KE.new (KE.new (KE.new (KE.new (KE.new (KE.new (KE.new (KE.new (KE.new (KE.new (KE.new (KE.new (KE.new (KE.new (KE.new (KE.new (KE.new (KE.new (KE.new (KE.new (KE.new (KE.new (KE.new (KE.new (KE.new (KE.new KE.rf hq10 hK11) hq25 hK26) hq40 hK41) hq55 hK56) hq70 hK71) hq85 hK86) hq100 hK101) hq115 hK116) hq130 hK131) hq145 hK146) hq160 hK161) hq175 hK176) hq190 hK191) hq205 hK206) hq220 hK221) hq235 hK236) hq250 hK251) hq265 hK266) hq280 hK281) hq295 hK296) hq310 hK311) hq325 hK326) hq342 hK343) hq360 hK361) hq378 hK379) hq396 hK397) hq414 hK415) hq432 hK433) hq450 hK451) hq468 hK469) hq486 hK487) hq504 hK505) hq522 hK523) hq540 hK541) hq558 hK559) hq576 hK577) hq594 hK595) hq612 hK613) hq630 hK631) hq648 hK649) hq666 hK667) hq684 hK685) hq702 hK703) hq720 hK721) hq738 hK739) hq756 hK757) hq774 hK775) hq792 hK793) hq810 hK811) hq828 hK829) hq846 hK847) hq864 hK865) hq882 hK883) hq900 hK901) hq918 hK919) hq936 hK937) hq954 hK955) hq972 hK973) hq990 hK991) hq1008 hK1009) hq1026 hK1027) hq1044 hK1045) hq1062 hK1063) hq1080 hK1081) hq1098 hK1099) hq1116 hK1117) hq1134 hK1135) hq1152 hK1153) hq1170 hK1171) hq1188 hK1189) hq1206 hK1207) hq1224 hK1225) hq1242 hK1243) hq1260 hK1261) hq1278 hK1279) hq1296 hK1297) hq1314 hK1315) hq1332 hK1333) h1339 hq1350
  clear pf1346 kz1342 hz1347
  refine GO.putRF rfl rfl (by decide +kernel) h1357 fp_raw_fp_RX12_253 rfl rfl dX12_init_667 (fun V1363 e1362 => ?_)
  have pf1364 := PF.put pf1358 e1362 rfl
  have hz1365 : ∀ j, V1363 o323 j = .int 0 := fun j => (uq_ne e1362 (Or.inl (K_ne kz1360 h1357 (by decide)))).trans (hz1359 j)
  clear pf1358 hz1359
  refine GO.aload_n dX12_init_670 rfl rfl ?_
  refine GO.bipush dX12_init_671 rfl ?_
  refine GO.newT (atype := .int) 88 40 gw_89 rfl rfl (fun _ _ h => h) rfl rfl rfl (Or.inr rfl) (fun _ => okv_df rfl rfl rfl) rfl rfl dX12_init_673 (fun o1366 K1367 V1373 hq1368 hK1369 hE1370 h1371 hz1374 hV1372 => ?_)
  have h1375 := (by rw [hK1369, updK_ne (K_old h1357 hq1368)]; exact h1357 : K1367 x = some (0, 23))
  have pf1376 := PF.nw pf1364 hV1372 (K_old h1357 hq1368)
  have kz1378 := hE1370.arr kz1360
  have hz1377 : ∀ j, V1373 o323 j = .int 0 := fun j => (congrFun (hV1372 _ (K_old kz1360 hq1368)) j).trans (hz1365 j)
  have h1379 := KE.nw (KE.new (KE.new (KE.new (KE.new (KE.new (KE.new (KE.new (KE.new (KE.new (KE.new (KE.new (KE.new (KE.new (KE.new (KE.new (KE.new (KE.new (KE.new (KE.new (KE.new (KE.new (KE.new (KE.new (KE.new (KE.new (KE.new (KE.new (KE.new (KE.new (KE.new (KE.new (KE.new (KE.new (KE.new (KE.new (KE.new (KE.new (KE.new (KE.new (KE.new (KE.new (KE.new (KE.new (KE.new (KE.new (KE.new (KE.new (KE.new (KE.new (KE.new (KE.new (KE.new (KE.new (KE.new (KE.new (KE.new (KE.new (KE.new (KE.new (KE.new (KE.new (KE.new (KE.new (KE.new (KE.new (KE.new (KE.new (KE.new (KE.new (KE.new (KE.new (KE.new (KE.new (KE.new (KE.new (KE.new (KE.new (KE.new (KE.new KE.rf hq10 hK11) hq25 hK26) hq40 hK41) hq55 hK56) hq70 hK71) hq85 hK86) hq100 hK101) hq115 hK116) hq130 hK131) hq145 hK146) hq160 hK161) hq175 hK176) hq190 hK191) hq205 hK206) hq220 hK221) hq235 hK236) hq250 hK251) hq265 hK266) hq280 hK281) hq295 hK296) hq310 hK311) hq325 hK326) hq342 hK343) hq360 hK361) hq378 hK379) hq396 hK397) hq414 hK415) hq432 hK433) hq450 hK451) hq468 hK469) hq486 hK487) hq504 hK505) hq522 hK523) hq540 hK541) hq558 hK559) hq576 hK577) hq594 hK595) hq612 hK613) hq630 hK631) hq648 hK649) hq666 hK667) hq684 hK685) hq702 hK703) hq720 hK721) hq738 hK739) hq756 hK757) hq774 hK775) hq792 hK793) hq810 hK811) hq828 hK829) hq846 hK847) hq864 hK865) hq882 hK883) hq900 hK901) hq918 hK919) hq936 hK937) hq954 hK955) hq972 hK973) hq990 hK991) hq1008 hK1009) hq1026 hK1027) hq1044 hK1045) hq1062 hK1063) hq1080 hK1081) hq1098 hK1099) hq1116 hK1117) hq1134 hK1135) hq1152 hK1153) hq1170 hK1171) hq1188 hK1189) hq1206 hK1207) hq1224 hK1225) hq1242 hK1243) hq1260 hK1261) hq1278 hK1279) hq1296 hK1297) hq1314 hK1315) hq1332 hK1333) hq1350 hK1351) h1357 hq1368
  clear pf1364 kz1360 hz1365
  refine GO.putRF rfl rfl (by decide +kernel) h1375 fp_raw_fp_RX12_256 rfl rfl dX12_init_675 (fun V1381 e1380 => ?_)
  have pf1382 := PF.put pf1376 e1380 rfl
  have hz1383 : ∀ j, V1381 o323 j = .int 0 := fun j => (uq_ne e1380 (Or.inl (K_ne kz1378 h1375 (by decide)))).trans (hz1377 j)
  clear pf1376 hz1377
  refine GO.aload_n dX12_init_678 rfl rfl ?_
  refine GO.bipush dX12_init_679 rfl ?_
  refine GO.newT (atype := .boolean) 89 40 gw_1936 rfl rfl (fun _ _ h => h) rfl rfl rfl (Or.inr rfl) (fun _ => okv_df rfl rfl rfl) rfl rfl dX12_init_681 (fun o1384 K1385 V1391 hq1386 hK1387 hE1388 h1389 hz1392 hV1390 => ?_)
  have h1393 := (by rw [hK1387, updK_ne (K_old h1375 hq1386)]; exact h1375 : K1385 x = some (0, 23))
  have pf1394 := PF.nw pf1382 hV1390 (K_old h1375 hq1386)
  have kz1396 := hE1388.arr kz1378
  have hz1395 : ∀ j, V1391 o323 j = .int 0 := fun j => (congrFun (hV1390 _ (K_old kz1378 hq1386)) j).trans (hz1383 j)
  have h1397 := KE.nw (KE.new (KE.new (KE.new (KE.new (KE.new (KE.new (KE.new (KE.new (KE.new (KE.new (KE.new (KE.new (KE.new (KE.new (KE.new (KE.new (KE.new (KE.new (KE.new (KE.new (KE.new (KE.new (KE.new (KE.new (KE.new (KE.new (KE.new (KE.new (KE.new (KE.new (KE.new (KE.new (KE.new (KE.new (KE.new (KE.new (KE.new (KE.new (KE.new (KE.new (KE.new (KE.new (KE.new (KE.new (KE.new (KE.new (KE.new (KE.new (KE.new (KE.new (KE.new (KE.new (KE.new (KE.new (KE.new (KE.new (KE.new (KE.new (KE.new (KE.new (KE.new (KE.new (KE.new (KE.new (KE.new (KE.new (KE.new (KE.new (KE.new (KE.new (KE.new (KE.new (KE.new (KE.new (KE.new (KE.new (KE.new (KE.new (KE.new (KE.new KE.rf hq10 hK11) hq25 hK26) hq40 hK41) hq55 hK56) hq70 hK71) hq85 hK86) hq100 hK101) hq115 hK116) hq130 hK131) hq145 hK146) hq160 hK161) hq175 hK176) hq190 hK191) hq205 hK206) hq220 hK221) hq235 hK236) hq250 hK251) hq265 hK266) hq280 hK281) hq295 hK296) hq310 hK311) hq325 hK326) hq342 hK343) hq360 hK361) hq378 hK379) hq396 hK397) hq414 hK415) hq432 hK433) hq450 hK451) hq468 hK469) hq486 hK487) hq504 hK505) hq522 hK523) hq540 hK541) hq558 hK559) hq576 hK577) hq594 hK595) hq612 hK613) hq630 hK631) hq648 hK649) hq666 hK667) hq684 hK685) hq702 hK703) hq720 hK721) hq738 hK739) hq756 hK757) hq774 hK775) hq792 hK793) hq810 hK811) hq828 hK829) hq846 hK847) hq864 hK865) hq882 hK883) hq900 hK901) hq918 hK919) hq936 hK937) hq954 hK955) hq972 hK973) hq990 hK991) hq1008 hK1009) hq1026 hK1027) hq1044 hK1045) hq1062 hK1063) hq1080 hK1081) hq1098 hK1099) hq1116 hK1117) hq1134 hK1135) hq1152 hK1153) hq1170 hK1171) hq1188 hK1189) hq1206 hK1207) hq1224 hK1225) hq1242 hK1243) hq1260 hK1261) hq1278 hK1279) hq1296 hK1297) hq1314 hK1315) hq1332 hK1333) hq1350 hK1351) hq1368 hK1369) h1375 hq1386
  clear pf1382 kz1378 hz1383
  refine GO.putRF rfl rfl (by decide +kernel) h1393 fp_raw_fp_RX12_259 rfl rfl dX12_init_683 (fun V1399 e1398 => ?_)
  have pf1400 := PF.put pf1394 e1398 rfl
  have hz1401 : ∀ j, V1399 o323 j = .int 0 := fun j => (uq_ne e1398 (Or.inl (K_ne kz1396 h1393 (by decide)))).trans (hz1395 j)
  clear pf1394 hz1395
  refine GO.aload_n dX12_init_686 rfl rfl ?_
  refine GO.bipush dX12_init_687 rfl ?_
  refine GO.newT (atype := .int) 90 60 gw_89 rfl rfl (fun _ _ h => h) rfl rfl rfl (Or.inr rfl) (fun _ => okv_df rfl rfl rfl) rfl rfl dX12_init_689 (fun o1402 K1403 V1409 hq1404 hK1405 hE1406 h1407 hz1410 hV1408 => ?_)
  have h1411 := (by rw [hK1405, updK_ne (K_old h1393 hq1404)]; exact h1393 : K1403 x = some (0, 23))
  have pf1412 := PF.nw pf1400 hV1408 (K_old h1393 hq1404)
  have kz1414 := hE1406.arr kz1396
  have hz1413 : ∀ j, V1409 o323 j = .int 0 := fun j => (congrFun (hV1408 _ (K_old kz1396 hq1404)) j).trans (hz1401 j)
  have h1415 := KE.nw (KE.new (KE.new (KE.new (KE.new (KE.new (KE.new (KE.new (KE.new (KE.new (KE.new (KE.new (KE.new (KE.new (KE.new (KE.new (KE.new (KE.new (KE.new (KE.new (KE.new (KE.new (KE.new (KE.new (KE.new (KE.new (KE.new (KE.new (KE.new (KE.new (KE.new (KE.new (KE.new (KE.new (KE.new (KE.new (KE.new (KE.new (KE.new (KE.new (KE.new (KE.new (KE.new (KE.new (KE.new (KE.new (KE.new (KE.new (KE.new (KE.new (KE.new (KE.new (KE.new (KE.new (KE.new (KE.new (KE.new (KE.new (KE.new (KE.new (KE.new (KE.new (KE.new (KE.new (KE.new (KE.new (KE.new (KE.new (KE.new (KE.new (KE.new (KE.new (KE.new (KE.new (KE.new (KE.new (KE.new (KE.new (KE.new (KE.new (KE.new (KE.new KE.rf hq10 hK11) hq25 hK26) hq40 hK41) hq55 hK56) hq70 hK71) hq85 hK86) hq100 hK101) hq115 hK116) hq130 hK131) hq145 hK146) hq160 hK161) hq175 hK176) hq190 hK191) hq205 hK206) hq220 hK221) hq235 hK236) hq250 hK251) hq265 hK266) hq280 hK281) hq295 hK296) hq310 hK311) hq325 hK326) hq342 hK343) hq360 hK361) hq378 hK379) hq396 hK397) hq414 hK415) hq432 hK433) hq450 hK451) hq468 hK469) hq486 hK487) hq504 hK505) hq522 hK523) hq540 hK541) hq558 hK559) hq576 hK577) hq594 hK595) hq612 hK613) hq630 hK631) hq648 hK649) hq666 hK667) hq684 hK685) hq702 hK703) hq720 hK721) hq738 hK739) hq756 hK757) hq774 hK775) hq792 hK793) hq810 hK811) hq828 hK829) hq846 hK847) hq864 hK865) hq882 hK883) hq900 hK901) hq918 hK919) hq936 hK937) hq954 hK955) hq972 hK973) hq990 hK991) hq1008 hK1009) hq1026 hK1027) hq1044 hK1045) hq1062 hK1063) hq1080 hK1081) hq1098 hK1099) hq1116 hK1117) hq1134 hK1135) hq1152 hK1153) hq1170 hK1171) hq1188 hK1189) hq1206 hK1207) hq1224 hK1225) hq1242 hK1243) hq1260 hK1261) hq1278 hK1279) hq1296 hK1297) hq1314 hK1315) hq1332 hK1333) hq1350 hK1351) hq1368 hK1369) hq1386 hK1387) h1393 hq1404
  clear pf1400 kz1396 hz1401
  refine GO.putRF rfl rfl (by decide +kernel) h1411 fp_raw_fp_RX12_262 rfl rfl dX12_init_691 (fun V1417 e1416 => ?_)
  have pf1418 := PF.put pf1412 e1416 rfl
  have hz1419 : ∀ j, V1417 o323 j = .int 0 := fun j => (uq_ne e1416 (Or.inl (K_ne kz1414 h1411 (by decide)))).trans (hz1413 j)
  clear pf1412 hz1413
  refine GO.aload_n dX12_init_694 rfl rfl ?_
  refine GO.bipush dX12_init_695 rfl ?_
  refine GO.newT (atype := .int) 91 60 gw_89 rfl rfl (fun _ _ h => h) rfl rfl rfl (Or.inr rfl) (fun _ => okv_df rfl rfl rfl) rfl rfl dX12_init_697 (fun o1420 K1421 V1427 hq1422 hK1423 hE1424 h1425 hz1428 hV1426 => ?_)
  have h1429 := (by rw [hK1423, updK_ne (K_old h1411 hq1422)]; exact h1411 : K1421 x = some (0, 23))
  have pf1430 := PF.nw pf1418 hV1426 (K_old h1411 hq1422)
  have kz1432 := hE1424.arr kz1414
  have hz1431 : ∀ j, V1427 o323 j = .int 0 := fun j => (congrFun (hV1426 _ (K_old kz1414 hq1422)) j).trans (hz1419 j)
  have h1433 := KE.nw (KE.new (KE.new (KE.new (KE.new (KE.new (KE.new (KE.new (KE.new (KE.new (KE.new (KE.new (KE.new (KE.new (KE.new (KE.new (KE.new (KE.new (KE.new (KE.new (KE.new (KE.new (KE.new (KE.new (KE.new (KE.new (KE.new (KE.new (KE.new (KE.new (KE.new (KE.new (KE.new (KE.new (KE.new (KE.new (KE.new (KE.new (KE.new (KE.new (KE.new (KE.new (KE.new (KE.new (KE.new (KE.new (KE.new (KE.new (KE.new (KE.new (KE.new (KE.new (KE.new (KE.new (KE.new (KE.new (KE.new (KE.new (KE.new (KE.new (KE.new (KE.new (KE.new (KE.new (KE.new (KE.new (KE.new (KE.new (KE.new (KE.new (KE.new (KE.new (KE.new (KE.new (KE.new (KE.new (KE.new (KE.new (KE.new (KE.new (KE.new (KE.new (KE.new KE.rf hq10 hK11) hq25 hK26) hq40 hK41) hq55 hK56) hq70 hK71) hq85 hK86) hq100 hK101) hq115 hK116) hq130 hK131) hq145 hK146) hq160 hK161) hq175 hK176) hq190 hK191) hq205 hK206) hq220 hK221) hq235 hK236) hq250 hK251) hq265 hK266) hq280 hK281) hq295 hK296) hq310 hK311) hq325 hK326) hq342 hK343) hq360 hK361) hq378 hK379) hq396 hK397) hq414 hK415) hq432 hK433) hq450 hK451) hq468 hK469) hq486 hK487) hq504 hK505) hq522 hK523) hq540 hK541) hq558 hK559) hq576 hK577) hq594 hK595) hq612 hK613) hq630 hK631) hq648 hK649) hq666 hK667) hq684 hK685) hq702 hK703) hq720 hK721) hq738 hK739) hq756 hK757) hq774 hK775) hq792 hK793) hq810 hK811) hq828 hK829) hq846 hK847) hq864 hK865) hq882 hK883) hq900 hK901) hq918 hK919) hq936 hK937) hq954 hK955) hq972 hK973) hq990 hK991) hq1008 hK1009) hq1026 hK1027) hq1044 hK1045) hq1062 hK1063) hq1080 hK1081) hq1098 hK1099) hq1116 hK1117) hq1134 hK1135) hq1152 hK1153) hq1170 hK1171) hq1188 hK1189) hq1206 hK1207) hq1224 hK1225) hq1242 hK1243) hq1260 hK1261) hq1278 hK1279) hq1296 hK1297) hq1314 hK1315) hq1332 hK1333) hq1350 hK1351) hq1368 hK1369) hq1386 hK1387) hq1404 hK1405) h1411 hq1422
  clear pf1418 kz1414 hz1419
  refine GO.putRF rfl rfl (by decide +kernel) h1429 fp_raw_fp_RX12_265 rfl rfl dX12_init_699 (fun V1435 e1434 => ?_)
  have pf1436 := PF.put pf1430 e1434 rfl
  have hz1437 : ∀ j, V1435 o323 j = .int 0 := fun j => (uq_ne e1434 (Or.inl (K_ne kz1432 h1429 (by decide)))).trans (hz1431 j)
  clear pf1430 hz1431
  refine GO.aload_n dX12_init_702 rfl rfl ?_
  refine GO.bipush dX12_init_703 rfl ?_
  refine GO.newT (atype := .int) 92 60 gw_89 rfl rfl (fun _ _ h => h) rfl rfl rfl (Or.inr rfl) (fun _ => okv_df rfl rfl rfl) rfl rfl dX12_init_705 (fun o1438 K1439 V1445 hq1440 hK1441 hE1442 h1443 hz1446 hV1444 => ?_)
  have h1447 := (by rw [hK1441, updK_ne (K_old h1429 hq1440)]; exact h1429 : K1439 x = some (0, 23))
  have pf1448 := PF.nw pf1436 hV1444 (K_old h1429 hq1440)
  have kz1450 := hE1442.arr kz1432
  have hz1449 : ∀ j, V1445 o323 j = .int 0 := fun j => (congrFun (hV1444 _ (K_old kz1432 hq1440)) j).trans (hz1437 j)
  have h1451 := KE.nw (KE.new (KE.new (KE.new (KE.new (KE.new (KE.new (KE.new (KE.new (KE.new (KE.new (KE.new (KE.new (KE.new (KE.new (KE.new (KE.new (KE.new (KE.new (KE.new (KE.new (KE.new (KE.new (KE.new (KE.new (KE.new (KE.new (KE.new (KE.new (KE.new (KE.new (KE.new (KE.new (KE.new (KE.new (KE.new (KE.new (KE.new (KE.new (KE.new (KE.new (KE.new (KE.new (KE.new (KE.new (KE.new (KE.new (KE.new (KE.new (KE.new (KE.new (KE.new (KE.new (KE.new (KE.new (KE.new (KE.new (KE.new (KE.new (KE.new (KE.new (KE.new (KE.new (KE.new (KE.new (KE.new (KE.new (KE.new (KE.new (KE.new (KE.new (KE.new (KE.new (KE.new (KE.new (KE.new (KE.new (KE.new (KE.new (KE.new (KE.new (KE.new (KE.new (KE.new KE.rf hq10 hK11) hq25 hK26) hq40 hK41) hq55 hK56) hq70 hK71) hq85 hK86) hq100 hK101) hq115 hK116) hq130 hK131) hq145 hK146) hq160 hK161) hq175 hK176) hq190 hK191) hq205 hK206) hq220 hK221) hq235 hK236) hq250 hK251) hq265 hK266) hq280 hK281) hq295 hK296) hq310 hK311) hq325 hK326) hq342 hK343) hq360 hK361) hq378 hK379) hq396 hK397) hq414 hK415) hq432 hK433) hq450 hK451) hq468 hK469) hq486 hK487) hq504 hK505) hq522 hK523) hq540 hK541) hq558 hK559) hq576 hK577) hq594 hK595) hq612 hK613) hq630 hK631) hq648 hK649) hq666 hK667) hq684 hK685) hq702 hK703) hq720 hK721) hq738 hK739) hq756 hK757) hq774 hK775) hq792 hK793) hq810 hK811) hq828 hK829) hq846 hK847) hq864 hK865) hq882 hK883) hq900 hK901) hq918 hK919) hq936 hK937) hq954 hK955) hq972 hK973) hq990 hK991) hq1008 hK1009) hq1026 hK1027) hq1044 hK1045) hq1062 hK1063) hq1080 hK1081) hq1098 hK1099) hq1116 hK1117) hq1134 hK1135) hq1152 hK1153) hq1170 hK1171) hq1188 hK1189) hq1206 hK1207) hq1224 hK1225) hq1242 hK1243) hq1260 hK1261) hq1278 hK1279) hq1296 hK1297) hq1314 hK1315) hq1332 hK1333) hq1350 hK1351) hq1368 hK1369) hq1386 hK1387) hq1404 hK1405) hq1422 hK1423) h1429 hq1440
  clear pf1436 kz1432 hz1437
  refine GO.putRF rfl rfl (by decide +kernel) h1447 fp_raw_fp_RX12_268 rfl rfl dX12_init_707 (fun V1453 e1452 => ?_)
  have pf1454 := PF.put pf1448 e1452 rfl
  have hz1455 : ∀ j, V1453 o323 j = .int 0 := fun j => (uq_ne e1452 (Or.inl (K_ne kz1450 h1447 (by decide)))).trans (hz1449 j)
  clear pf1448 hz1449
  refine GO.aload_n dX12_init_710 rfl rfl ?_
  refine GO.bipush dX12_init_711 rfl ?_
  refine GO.newT (atype := .int) 93 60 gw_89 rfl rfl (fun _ _ h => h) rfl rfl rfl (Or.inr rfl) (fun _ => okv_df rfl rfl rfl) rfl rfl dX12_init_713 (fun o1456 K1457 V1463 hq1458 hK1459 hE1460 h1461 hz1464 hV1462 => ?_)
  have h1465 := (by rw [hK1459, updK_ne (K_old h1447 hq1458)]; exact h1447 : K1457 x = some (0, 23))
  have pf1466 := PF.nw pf1454 hV1462 (K_old h1447 hq1458)
  have kz1468 := hE1460.arr kz1450
  have hz1467 : ∀ j, V1463 o323 j = .int 0 := fun j => (congrFun (hV1462 _ (K_old kz1450 hq1458)) j).trans (hz1455 j)
  have h1469 := KE.nw (KE.new (KE.new (KE.new (KE.new (KE.new (KE.new (KE.new (KE.new (KE.new (KE.new (KE.new (KE.new (KE.new (KE.new (KE.new (KE.new (KE.new (KE.new (KE.new (KE.new (KE.new (KE.new (KE.new (KE.new (KE.new (KE.new (KE.new (KE.new (KE.new (KE.new (KE.new (KE.new (KE.new (KE.new (KE.new (KE.new (KE.new (KE.new (KE.new (KE.new (KE.new (KE.new (KE.new (KE.new (KE.new (KE.new (KE.new (KE.new (KE.new (KE.new (KE.new (KE.new (KE.new (KE.new (KE.new (KE.new (KE.new (KE.new (KE.new (KE.new (KE.new (KE.new (KE.new (KE.new (KE.new (KE.new (KE.new (KE.new (KE.new (KE.new (KE.new (KE.new (KE.new (KE.new (KE.new (KE.new (KE.new (KE.new (KE.new (KE.new (KE.new (KE.new (KE.new (KE.new KE.rf hq10 hK11) hq25 hK26) hq40 hK41) hq55 hK56) hq70 hK71) hq85 hK86) hq100 hK101) hq115 hK116) hq130 hK131) hq145 hK146) hq160 hK161) hq175 hK176) hq190 hK191) hq205 hK206) hq220 hK221) hq235 hK236) hq250 hK251) hq265 hK266) hq280 hK281) hq295 hK296) hq310 hK311) hq325 hK326) hq342 hK343) hq360 hK361) hq378 hK379) hq396 hK397) hq414 hK415) hq432 hK433) hq450 hK451) hq468 hK469) hq486 hK487) hq504 hK505) hq522 hK523) hq540 hK541) hq558 hK559) hq576 hK577) hq594 hK595) hq612 hK613) hq630 hK631) hq648 hK649) hq666 hK667) hq684 hK685) hq702 hK703) hq720 hK721) hq738 hK739) hq756 hK757) hq774 hK775) hq792 hK793) hq810 hK811) hq828 hK829) hq846 hK847) hq864 hK865) hq882 hK883) hq900 hK901) hq918 hK919) hq936 hK937) hq954 hK955) hq972 hK973) hq990 hK991) hq1008 hK1009) hq1026 hK1027) hq1044 hK1045) hq1062 hK1063) hq1080 hK1081) hq1098 hK1099) hq1116 hK1117) hq1134 hK1135) hq1152 hK1153) hq1170 hK1171) hq1188 hK1189) hq1206 hK1207) hq1224 hK1225) hq1242 hK1243) hq1260 hK1261) hq1278 hK1279) hq1296 hK1297) hq1314 hK1315) hq1332 hK1333) hq1350 hK1351) hq1368 hK1369) hq1386 hK1387) hq1404 hK1405) hq1422 hK1423) hq1440 hK1441) h1447 hq1458
  clear pf1454 kz1450 hz1455
  refine GO.putRF rfl rfl (by decide +kernel) h1465 fp_raw_fp_RX12_271 rfl rfl dX12_init_715 (fun V1471 e1470 => ?_)
  have pf1472 := PF.put pf1466 e1470 rfl
  have hz1473 : ∀ j, V1471 o323 j = .int 0 := fun j => (uq_ne e1470 (Or.inl (K_ne kz1468 h1465 (by decide)))).trans (hz1467 j)
  clear pf1466 hz1467
  refine GO.aload_n dX12_init_718 rfl rfl ?_
  refine GO.bipush dX12_init_719 rfl ?_
  refine GO.newT (atype := .int) 94 60 gw_89 rfl rfl (fun _ _ h => h) rfl rfl rfl (Or.inr rfl) (fun _ => okv_df rfl rfl rfl) rfl rfl dX12_init_721 (fun o1474 K1475 V1481 hq1476 hK1477 hE1478 h1479 hz1482 hV1480 => ?_)
  have h1483 := (by rw [hK1477, updK_ne (K_old h1465 hq1476)]; exact h1465 : K1475 x = some (0, 23))
  have pf1484 := PF.nw pf1472 hV1480 (K_old h1465 hq1476)
  have kz1486 := hE1478.arr kz1468
  have hz1485 : ∀ j, V1481 o323 j = .int 0 := fun j => (congrFun (hV1480 _ (K_old kz1468 hq1476)) j).trans (hz1473 j)
  have h1487 := KE.nw (KE.new (KE.new (KE.new (KE.new (KE.new (KE.new (KE.new (KE.new (KE.new (KE.new (KE.new (KE.new (KE.new (KE.new (KE.new (KE.new (KE.new (KE.new (KE.new (KE.new (KE.new (KE.new (KE.new (KE.new (KE.new (KE.new (KE.new (KE.new (KE.new (KE.new (KE.new (KE.new (KE.new (KE.new (KE.new (KE.new (KE.new (KE.new (KE.new (KE.new (KE.new (KE.new (KE.new (KE.new (KE.new (KE.new (KE.new (KE.new (KE.new (KE.new (KE.new (KE.new (KE.new (KE.new (KE.new (KE.new (KE.new (KE.new (KE.new (KE.new (KE.new (KE.new (KE.new (KE.new (KE.new (KE.new (KE.new (KE.new (KE.new (KE.new (KE.new (KE.new (KE.new (KE.new (KE.new (KE.new (KE.new (KE.new (KE.new (KE.new (KE.new (KE.new (KE.new (KE.new (KE.new KE.rf hq10 hK11) hq25 hK26) hq40 hK41) hq55 hK56) hq70 hK71) hq85 hK86) hq100 hK101) hq115 hK116) hq130 hK131) hq145 hK146) hq160 hK161) hq175 hK176) hq190 hK191) hq205 hK206) hq220 hK221) hq235 hK236) hq250 hK251) hq265 hK266) hq280 hK281) hq295 hK296) hq310 hK311) hq325 hK326) hq342 hK343) hq360 hK361) hq378 hK379) hq396 hK397) hq414 hK415) hq432 hK433) hq450 hK451) hq468 hK469) hq486 hK487) hq504 hK505) hq522 hK523) hq540 hK541) hq558 hK559) hq576 hK577) hq594 hK595) hq612 hK613) hq630 hK631) hq648 hK649) hq666 hK667) hq684 hK685) hq702 hK703) hq720 hK721) hq738 hK739) hq756 hK757) hq774 hK775) hq792 hK793) hq810 hK811) hq828 hK829) hq846 hK847) hq864 hK865) hq882 hK883) hq900 hK901) hq918 hK919) hq936 hK937) hq954 hK955) hq972 hK973) hq990 hK991) hq1008 hK1009) hq1026 hK1027) hq1044 hK1045) hq1062 hK1063) hq1080 hK1081) hq1098 hK1099) hq1116 hK1117) hq1134 hK1135) hq1152 hK1153) hq1170 hK1171) hq1188 hK1189) hq1206 hK1207) hq1224 hK1225) hq1242 hK1243) hq1260 hK1261) hq1278 hK1279) hq1296 hK1297) hq1314 hK1315) hq1332 hK1333) hq1350 hK1351) hq1368 hK1369) hq1386 hK1387) hq1404 hK1405) hq1422 hK1423) hq1440 hK1441) hq1458 hK1459) h1465 hq1476
  clear pf1472 kz1468 hz1473
  refine GO.putRF rfl rfl (by decide +kernel) h1483 fp_raw_fp_RX12_274 rfl rfl dX12_init_723 (fun V1489 e1488 => ?_)
  have pf1490 := PF.put pf1484 e1488 rfl
  have hz1491 : ∀ j, V1489 o323 j = .int 0 := fun j => (uq_ne e1488 (Or.inl (K_ne kz1486 h1483 (by decide)))).trans (hz1485 j)
  clear pf1484 hz1485
  refine GO.aload_n dX12_init_726 rfl rfl ?_
  refine GO.sipush dX12_init_727 rfl ?_
  refine GO.newT (atype := .int) 95 144 gw_89 rfl rfl (fun _ _ h => h) rfl rfl rfl (Or.inr rfl) (fun _ => okv_df rfl rfl rfl) rfl rfl dX12_init_730 (fun o1492 K1493 V1499 hq1494 hK1495 hE1496 h1497 hz1500 hV1498 => ?_)
  have h1501 := (by rw [hK1495, updK_ne (K_old h1483 hq1494)]; exact h1483 : K1493 x = some (0, 23))
  have pf1502 := PF.nw pf1490 hV1498 (K_old h1483 hq1494)
  have kz1504 := hE1496.arr kz1486
  have hz1503 : ∀ j, V1499 o323 j = .int 0 := fun j => (congrFun (hV1498 _ (K_old kz1486 hq1494)) j).trans (hz1491 j)
  have h1505 := KE.nw (KE.new (KE.new (KE.new (KE.new (KE.new (KE.new (KE.new (KE.new (KE.new (KE.new (KE.new (KE.new (KE.new (KE.new (KE.new (KE.new (KE.new (KE.new (KE.new (KE.new (KE.new (KE.new (KE.new (KE.new (KE.new (KE.new (KE.new (KE.new (KE.new (KE.new (KE.new (KE.new (KE.new (KE.new (KE.new (KE.new (KE.new (KE.new (KE.new (KE.new (KE.new (KE.new (KE.new (KE.new (KE.new (KE.new (KE.new (KE.new (KE.new (KE.new (KE.new (KE.new (KE.new (KE.new (KE.new (KE.new (KE.new (KE.new (KE.new (KE.new (KE.new (KE.new (KE.new (KE.new (KE.new (KE.new (KE.new (KE.new (KE.new (KE.new (KE.new (KE.new (KE.new (KE.new (KE.new (KE.new (KE.new (KE.new (KE.new (KE.new (KE.new (KE.new (KE.new (KE.new (KE.new (KE.new KE.rf hq10 hK11) hq25 hK26) hq40 hK41) hq55 hK56) hq70 hK71) hq85 hK86) hq100 hK101) hq115 hK116) hq130 hK131) hq145 hK146) hq160 hK161) hq175 hK176) hq190 hK191) hq205 hK206) hq220 hK221) hq235 hK236) hq250 hK251) hq265 hK266) hq280 hK281) hq295 hK296) hq310 hK311) hq325 hK326) hq342 hK343) hq360 hK361) hq378 hK379) hq396 hK397) hq414 hK415) hq432 hK433) hq450 hK451) hq468 hK469) hq486 hK487) hq504 hK505) hq522 hK523) hq540 hK541) hq558 hK559) hq576 hK577) hq594 hK595) hq612 hK613) hq630 hK631) hq648 hK649) hq666 hK667) hq684 hK685) hq702 hK703) hq720 hK721) hq738 hK739) hq756 hK757) hq774 hK775) hq792 hK793) hq810 hK811) hq828 hK829) hq846 hK847) hq864 hK865) hq882 hK883) hq900 hK901) hq918 hK919) hq936 hK937) hq954 hK955) hq972 hK973) hq990 hK991) hq1008 hK1009) hq1026 hK1027) hq1044 hK1045) hq1062 hK1063) hq1080 hK1081) hq1098 hK1099) hq1116 hK1117) hq1134 hK1135) hq1152 hK1153) hq1170 hK1171) hq1188 hK1189) hq1206 hK1207) hq1224 hK1225) hq1242 hK1243) hq1260 hK1261) hq1278 hK1279) hq1296 hK1297) hq1314 hK1315) hq1332 hK1333) hq1350 hK1351) hq1368 hK1369) hq1386 hK1387) hq1404 hK1405) hq1422 hK1423) hq1440 hK1441) hq1458 hK1459) hq1476 hK1477) h1483 hq1494
  clear pf1490 kz1486 hz1491
  refine GO.putRF rfl rfl (by decide +kernel) h1501 fp_raw_fp_RX12_277 rfl rfl dX12_init_732 (fun V1507 e1506 => ?_)
  have pf1508 := PF.put pf1502 e1506 rfl
  have hz1509 : ∀ j, V1507 o323 j = .int 0 := fun j => (uq_ne e1506 (Or.inl (K_ne kz1504 h1501 (by decide)))).trans (hz1503 j)
  clear pf1502 hz1503
  refine GO.aload_n dX12_init_735 rfl rfl ?_
  refine GO.bipush dX12_init_736 rfl ?_
  refine GO.putRW rfl (by decide +kernel) h1501 fp_raw_fp_RX12_280 rfl rfl dX12_init_738 (fun V1511 e1510 => ?_)
  have pf1512 := PF.put pf1508 e1510 rfl
  have hz1513 : ∀ j, V1511 o323 j = .int 0 := fun j => (uq_ne e1510 (Or.inl (K_ne kz1504 h1501 (by decide)))).trans (hz1509 j)
  clear pf1508 hz1509
  refine GO.aload_n dX12_init_741 rfl rfl ?_
  refine GO.bipush dX12_init_742 rfl ?_
  refine GO.newT (atype := .int) 96 60 gw_89 rfl rfl (fun _ _ h => h) rfl rfl rfl (Or.inr rfl) (fun _ => okv_df rfl rfl rfl) rfl rfl dX12_init_744 (fun o1514 K1515 V1521 hq1516 hK1517 hE1518 h1519 hz1522 hV1520 => ?_)
  have h1523 := (by rw [hK1517, updK_ne (K_old h1501 hq1516)]; exact h1501 : K1515 x = some (0, 23))
  have pf1524 := PF.nw pf1512 hV1520 (K_old h1501 hq1516)
  have kz1526 := hE1518.arr kz1504
  have hz1525 : ∀ j, V1521 o323 j = .int 0 := fun j => (congrFun (hV1520 _ (K_old kz1504 hq1516)) j).trans (hz1513 j)
  have h1527 := KE.nw (KE.new (KE.new (KE.new (KE.new (KE.new (KE.new (KE.new (KE.new (KE.new (KE.new (KE.new (KE.new (KE.new (KE.new (KE.new (KE.new (KE.new (KE.new (KE.new (KE.new (KE.new (KE.new (KE.new (KE.new (KE.new (KE.new (KE.new (KE.new (KE.new (KE.new (KE.new (KE.new (KE.new (KE.new (KE.new (KE.new (KE.new (KE.new (KE.new (KE.new (KE.new (KE.new (KE.new (KE.new (KE.new (KE.new (KE.new (KE.new (KE.new (KE.new (KE.new (KE.new (KE.new (KE.new (KE.new (KE.new (KE.new (KE.new (KE.new (KE.new (KE.new (KE.new (KE.new (KE.new (KE.new (KE.new (KE.new (KE.new (KE.new (KE.new (KE.new (KE.new (KE.new (KE.new (KE.new (KE.new (KE.new (KE.new (KE.new (KE.new (KE.new (KE.new (KE.new (KE.new (KE.new (KE.new (KE.new KE.rf hq10 hK11) hq25 hK26) hq40 hK41) hq55 hK56) hq70 hK71) hq85 hK86) hq100 hK101) hq115 hK116) hq130 hK131) hq145 hK146) hq160 hK161) hq175 hK176) hq190 hK191) hq205 hK206) hq220 hK221) hq235 hK236) hq250 hK251) hq265 hK266) hq280 hK281) hq295 hK296) hq310 hK311) hq325 hK326) hq342 hK343) hq360 hK361) hq378 hK379) hq396 hK397) hq414 hK415) hq432 hK433) hq450 hK451) hq468 hK469) hq486 hK487) hq504 hK505) hq522 hK523) hq540 hK541) hq558 hK559) hq576 hK577) hq594 hK595) hq612 hK613) hq630 hK631) hq648 hK649) hq666 hK667) hq684 hK685) hq702 hK703) hq720 hK721) hq738 hK739) hq756 hK757) hq774 hK775) hq792 hK793) hq810 hK811) hq828 hK829) hq846 hK847) hq864 hK865) hq882 hK883) hq900 hK901) hq918 hK919) hq936 hK937) hq954 hK955) hq972 hK973) hq990 hK991) hq1008 hK1009) hq1026 hK1027) hq1044 hK1045) hq1062 hK1063) hq1080 hK1081) hq1098 hK1099) hq1116 hK1117) hq1134 hK1135) hq1152 hK1153) hq1170 hK1171) hq1188 hK1189) hq1206 hK1207) hq1224 hK1225) hq1242 hK1243) hq1260 hK1261) hq1278 hK1279) hq1296 hK1297) hq1314 hK1315) hq1332 hK1333) hq1350 hK1351) hq1368 hK1369) hq1386 hK1387) hq1404 hK1405) hq1422 hK1423) hq1440 hK1441) hq1458 hK1459) hq1476 hK1477) hq1494 hK1495) h1501 hq1516
  clear pf1512 kz1504 hz1513
  refine GO.putRF rfl rfl (by decide +kernel) h1523 fp_raw_fp_RX12_283 rfl rfl dX12_init_746 (fun V1529 e1528 => ?_)
  have pf1530 := PF.put pf1524 e1528 rfl
  have hz1531 : ∀ j, V1529 o323 j = .int 0 := fun j => (uq_ne e1528 (Or.inl (K_ne kz1526 h1523 (by decide)))).trans (hz1525 j)
  clear pf1524 hz1525
  refine GO.aload_n dX12_init_749 rfl rfl ?_
  refine GO.sipush dX12_init_750 rfl ?_
  refine GO.newT (atype := .int) 97 480 gw_89 rfl rfl (fun _ _ h => h) rfl rfl rfl (Or.inr rfl) (fun _ => okv_df rfl rfl rfl) rfl rfl dX12_init_753 (fun o1532 K1533 V1539 hq1534 hK1535 hE1536 h1537 hz1540 hV1538 => ?_)
  have h1541 := (by rw [hK1535, updK_ne (K_old h1523 hq1534)]; exact h1523 : K1533 x = some (0, 23))
  have pf1542 := PF.nw pf1530 hV1538 (K_old h1523 hq1534)
  have kz1544 := hE1536.arr kz1526
  have hz1543 : ∀ j, V1539 o323 j = .int 0 := fun j => (congrFun (hV1538 _ (K_old kz1526 hq1534)) j).trans (hz1531 j)
  have h1545 := KE.nw (KE.new (KE.new (KE.new (KE.new (KE.new (KE.new (KE.new (KE.new (KE.new (KE.new (KE.new (KE.new (KE.new (KE.new (KE.new (KE.new (KE.new (KE.new (KE.new (KE.new (KE.new (KE.new (KE.new (KE.new (KE.new (KE.new (KE.new (KE.new (KE.new (KE.new (KE.new (KE.new (KE.new (KE.new (KE.new (KE.new (KE.new (KE.new (KE.new (KE.new (KE.new (KE.new (KE.new (KE.new (KE.new (KE.new (KE.new (KE.new (KE.new (KE.new (KE.new (KE.new (KE.new (KE.new (KE.new (KE.new (KE.new (KE.new (KE.new (KE.new (KE.new (KE.new (KE.new (KE.new (KE.new (KE.new (KE.new (KE.new (KE.new (KE.new (KE.new (KE.new (KE.new (KE.new (KE.new (KE.new (KE.new (KE.new (KE.new (KE.new (KE.new (KE.new (KE.new (KE.new (KE.new (KE.new (KE.new (KE.new KE.rf hq10 hK11) hq25 hK26) hq40 hK41) hq55 hK56) hq70 hK71) hq85 hK86) hq100 hK101) hq115 hK116) hq130 hK131) hq145 hK146) hq160 hK161) hq175 hK176) hq190 hK191) hq205 hK206) hq220 hK221) hq235 hK236) hq250 hK251) hq265 hK266) hq280 hK281) hq295 hK296) hq310 hK311) hq325 hK326) hq342 hK343) hq360 hK361) hq378 hK379) hq396 hK397) hq414 hK415) hq432 hK433) hq450 hK451) hq468 hK469) hq486 hK487) hq504 hK505) hq522 hK523) hq540 hK541) hq558 hK559) hq576 hK577) hq594 hK595) hq612 hK613) hq630 hK631) hq648 hK649) hq666 hK667) hq684 hK685) hq702 hK703) hq720 hK721) hq738 hK739) hq756 hK757) hq774 hK775) hq792 hK793) hq810 hK811) hq828 hK829) hq846 hK847) hq864 hK865) hq882 hK883) hq900 hK901) hq918 hK919) hq936 hK937) hq954 hK955) hq972 hK973) hq990 hK991) hq1008 hK1009) hq1026 hK1027) hq1044 hK1045) hq1062 hK1063) hq1080 hK1081) hq1098 hK1099) hq1116 hK1117) hq1134 hK1135) hq1152 hK1153) hq1170 hK1171) hq1188 hK1189) hq1206 hK1207) hq1224 hK1225) hq1242 hK1243) hq1260 hK1261) hq1278 hK1279) hq1296 hK1297) hq1314 hK1315) hq1332 hK1333) hq1350 hK1351) hq1368 hK1369) hq1386 hK1387) hq1404 hK1405) hq1422 hK1423) hq1440 hK1441) hq1458 hK1459) hq1476 hK1477) hq1494 hK1495) hq1516 hK1517) h1523 hq1534
  clear pf1530 kz1526 hz1531
  refine GO.putRF rfl rfl (by decide +kernel) h1541 fp_raw_fp_RX12_286 rfl rfl dX12_init_755 (fun V1547 e1546 => ?_)
  have pf1548 := PF.put pf1542 e1546 rfl
  have hz1549 : ∀ j, V1547 o323 j = .int 0 := fun j => (uq_ne e1546 (Or.inl (K_ne kz1544 h1541 (by decide)))).trans (hz1543 j)
  clear pf1542 hz1543
  refine GO.aload_n dX12_init_758 rfl rfl ?_
  refine GO.sipush dX12_init_759 rfl ?_
  refine GO.newT (atype := .int) 98 480 gw_89 rfl rfl (fun _ _ h => h) rfl rfl rfl (Or.inr rfl) (fun _ => okv_df rfl rfl rfl) rfl rfl dX12_init_762 (fun o1550 K1551 V1557 hq1552 hK1553 hE1554 h1555 hz1558 hV1556 => ?_)
  have h1559 := (by rw [hK1553, updK_ne (K_old h1541 hq1552)]; exact h1541 : K1551 x = some (0, 23))
  have pf1560 := PF.nw pf1548 hV1556 (K_old h1541 hq1552)
  have kz1562 := hE1554.arr kz1544
  have hz1561 : ∀ j, V1557 o323 j = .int 0 := fun j => (congrFun (hV1556 _ (K_old kz1544 hq1552)) j).trans (hz1549 j)
  have h1563 := KE.nw (KE.new (KE.new (KE.new (KE.new (KE.new (KE.new (KE.new (KE.new (KE.new (KE.new (KE.new (KE.new (KE.new (KE.new (KE.new (KE.new (KE.new (KE.new (KE.new (KE.new (KE.new (KE.new (KE.new (KE.new (KE.new (KE.new (KE.new (KE.new (KE.new (KE.new (KE.new (KE.new (KE.new (KE.new (KE.new (KE.new (KE.new (KE.new (KE.new (KE.new (KE.new (KE.new (KE.new (KE.new (KE.new (KE.new (KE.new (KE.new (KE.new (KE.new (KE.new (KE.new (KE.new (KE.new (KE.new (KE.new (KE.new (KE.new (KE.new (KE.new (KE.new (KE.new (KE.new (KE.new (KE.new (KE.new (KE.new (KE.new (KE.new (KE.new (KE.new (KE.new (KE.new (KE.new (KE.new (KE.new (KE.new (KE.new (KE.new (KE.new (KE.new (KE.new (KE.new (KE.new (KE.new (KE.new (KE.new (KE.new (KE.new KE.rf hq10 hK11) hq25 hK26) hq40 hK41) hq55 hK56) hq70 hK71) hq85 hK86) hq100 hK101) hq115 hK116) hq130 hK131) hq145 hK146) hq160 hK161) hq175 hK176) hq190 hK191) hq205 hK206) hq220 hK221) hq235 hK236) hq250 hK251) hq265 hK266) hq280 hK281) hq295 hK296) hq310 hK311) hq325 hK326) hq342 hK343) hq360 hK361) hq378 hK379) hq396 hK397) hq414 hK415) hq432 hK433) hq450 hK451) hq468 hK469) hq486 hK487) hq504 hK505) hq522 hK523) hq540 hK541) hq558 hK559) hq576 hK577) hq594 hK595) hq612 hK613) hq630 hK631) hq648 hK649) hq666 hK667) hq684 hK685) hq702 hK703) hq720 hK721) hq738 hK739) hq756 hK757) hq774 hK775) hq792 hK793) hq810 hK811) hq828 hK829) hq846 hK847) hq864 hK865) hq882 hK883) hq900 hK901) hq918 hK919) hq936 hK937) hq954 hK955) hq972 hK973) hq990 hK991) hq1008 hK1009) hq1026 hK1027) hq1044 hK1045) hq1062 hK1063) hq1080 hK1081) hq1098 hK1099) hq1116 hK1117) hq1134 hK1135) hq1152 hK1153) hq1170 hK1171) hq1188 hK1189) hq1206 hK1207) hq1224 hK1225) hq1242 hK1243) hq1260 hK1261) hq1278 hK1279) hq1296 hK1297) hq1314 hK1315) hq1332 hK1333) hq1350 hK1351) hq1368 hK1369) hq1386 hK1387) hq1404 hK1405) hq1422 hK1423) hq1440 hK1441) hq1458 hK1459) hq1476 hK1477) hq1494 hK1495) hq1516 hK1517) hq1534 hK1535) h1541 hq1552
  clear pf1548 kz1544 hz1549
  refine GO.putRF rfl rfl (by decide +kernel) h1559 fp_raw_fp_RX12_289 rfl rfl dX12_init_764 (fun V1565 e1564 => ?_)
  have pf1566 := PF.put pf1560 e1564 rfl
  have hz1567 : ∀ j, V1565 o323 j = .int 0 := fun j => (uq_ne e1564 (Or.inl (K_ne kz1562 h1559 (by decide)))).trans (hz1561 j)
  clear pf1560 hz1561
  refine GO.aload_n dX12_init_767 rfl rfl ?_
  refine GO.bipush dX12_init_768 rfl ?_
  refine GO.newT (atype := .int) 99 10 gw_89 rfl rfl (fun _ _ h => h) rfl rfl rfl (Or.inr rfl) (fun _ => okv_df rfl rfl rfl) rfl rfl dX12_init_770 (fun o1568 K1569 V1575 hq1570 hK1571 hE1572 h1573 hz1576 hV1574 => ?_)
  have h1577 := (by rw [hK1571, updK_ne (K_old h1559 hq1570)]; exact h1559 : K1569 x = some (0, 23))
  have pf1578 := PF.nw pf1566 hV1574 (K_old h1559 hq1570)
  have kz1580 := hE1572.arr kz1562
  have hz1579 : ∀ j, V1575 o323 j = .int 0 := fun j => (congrFun (hV1574 _ (K_old kz1562 hq1570)) j).trans (hz1567 j)
  have h1581 := KE.nw (KE.new (KE.new (KE.new (KE.new (KE.new (KE.new (KE.new (KE.new (KE.new (KE.new (KE.new (KE.new (KE.new (KE.new (KE.new (KE.new (KE.new (KE.new (KE.new (KE.new (KE.new (KE.new (KE.new (KE.new (KE.new (KE.new (KE.new (KE.new (KE.new (KE.new (KE.new (KE.new (KE.new (KE.new (KE.new (KE.new (KE.new (KE.new (KE.new (KE.new (KE.new (KE.new (KE.new (KE.new (KE.new (KE.new (KE.new (KE.new (KE.new (KE.new (KE.new (KE.new (KE.new (KE.new (KE.new (KE.new (KE.new (KE.new (KE.new (KE.new (KE.new (KE.new (KE.new (KE.new (KE.new (KE.new (KE.new (KE.new (KE.new (KE.new (KE.new (KE.new (KE.new (KE.new (KE.new (KE.new (KE.new (KE.new (KE.new (KE.new (KE.new (KE.new (KE.new (KE.new (KE.new (KE.new (KE.new (KE.new (KE.new (KE.new KE.rf hq10 hK11) hq25 hK26) hq40 hK41) hq55 hK56) hq70 hK71) hq85 hK86) hq100 hK101) hq115 hK116) hq130 hK131) hq145 hK146) hq160 hK161) hq175 hK176) hq190 hK191) hq205 hK206) hq220 hK221) hq235 hK236) hq250 hK251) hq265 hK266) hq280 hK281) hq295 hK296) hq310 hK311) hq325 hK326) hq342 hK343) hq360 hK361) hq378 hK379) hq396 hK397) hq414 hK415) hq432 hK433) hq450 hK451) hq468 hK469) hq486 hK487) hq504 hK505) hq522 hK523) hq540 hK541) hq558 hK559) hq576 hK577) hq594 hK595) hq612 hK613) hq630 hK631) hq648 hK649) hq666 hK667) hq684 hK685) hq702 hK703) hq720 hK721) hq738 hK739) hq756 hK757) hq774 hK775) hq792 hK793) hq810 hK811) hq828 hK829) hq846 hK847) hq864 hK865) hq882 hK883) hq900 hK901) hq918 hK919) hq936 hK937) hq954 hK955) hq972 hK973) hq990 hK991) hq1008 hK1009) hq1026 hK1027) hq1044 hK1045) hq1062 hK1063) hq1080 hK1081) hq1098 hK1099) hq1116 hK1117) hq1134 hK1135) hq1152 hK1153) hq1170 hK1171) hq1188 hK1189) hq1206 hK1207) hq1224 hK1225) hq1242 hK1243) hq1260 hK1261) hq1278 hK1279) hq1296 hK1297) hq1314 hK1315) hq1332 hK1333) hq1350 hK1351) hq1368 hK1369) hq1386 hK1387) hq1404 hK1405) hq1422 hK1423) hq1440 hK1441) hq1458 hK1459) hq1476 hK1477) hq1494 hK1495) hq1516 hK1517) hq1534 hK1535) hq1552 hK1553) h1559 hq1570
  clear pf1566 kz1562 hz1567
  refine GO.putRF rfl rfl (by decide +kernel) h1577 fp_raw_fp_RX12_292 rfl rfl dX12_init_772 (fun V1583 e1582 => ?_)
  have pf1584 := PF.put pf1578 e1582 rfl
  have hz1585 : ∀ j, V1583 o323 j = .int 0 := fun j => (uq_ne e1582 (Or.inl (K_ne kz1580 h1577 (by decide)))).trans (hz1579 j)
  clear pf1578 hz1579
  refine GO.aload_n dX12_init_775 rfl rfl ?_
  refine GO.bipush dX12_init_776 rfl ?_
  refine GO.newT (atype := .int) 100 10 gw_89 rfl rfl (fun _ _ h => h) rfl rfl rfl (Or.inr rfl) (fun _ => okv_df rfl rfl rfl) rfl rfl dX12_init_778 (fun o1586 K1587 V1593 hq1588 hK1589 hE1590 h1591 hz1594 hV1592 => ?_)
  have h1595 := (by rw [hK1589, updK_ne (K_old h1577 hq1588)]; exact h1577 : K1587 x = some (0, 23))
  have pf1596 := PF.nw pf1584 hV1592 (K_old h1577 hq1588)
  have kz1598 := hE1590.arr kz1580
  have hz1597 : ∀ j, V1593 o323 j = .int 0 := fun j => (congrFun (hV1592 _ (K_old kz1580 hq1588)) j).trans (hz1585 j)
  have h1599 := KE.nw (KE.new (KE.new (KE.new (KE.new (KE.new (KE.new (KE.new (KE.new (KE.new (KE.new (KE.new (KE.new (KE.new (KE.new (KE.new (KE.new (KE.new (KE.new (KE.new (KE.new (KE.new (KE.new (KE.new (KE.new (KE.new (KE.new (KE.new (KE.new (KE.new (KE.new (KE.new (KE.new (KE.new (KE.new (KE.new (KE.new (KE.new (KE.new (KE.new (KE.new (KE.new (KE.new (KE.new (KE.new (KE.new (KE.new (KE.new (KE.new (KE.new (KE.new (KE.new (KE.new (KE.new (KE.new (KE.new (KE.new (KE.new (KE.new (KE.new (KE.new (KE.new (KE.new (KE.new (KE.new (KE.new (KE.new (KE.new (KE.new (KE.new (KE.new (KE.new (KE.new (KE.new (KE.new (KE.new (KE.new (KE.new (KE.new (KE.new (KE.new (KE.new (KE.new (KE.new (KE.new (KE.new (KE.new (KE.new (KE.new (KE.new (KE.new (KE.new KE.rf hq10 hK11) hq25 hK26) hq40 hK41) hq55 hK56) hq70 hK71) hq85 hK86) hq100 hK101) hq115 hK116) hq130 hK131) hq145 hK146) hq160 hK161) hq175 hK176) hq190 hK191) hq205 hK206) hq220 hK221) hq235 hK236) hq250 hK251) hq265 hK266) hq280 hK281) hq295 hK296) hq310 hK311) hq325 hK326) hq342 hK343) hq360 hK361) hq378 hK379) hq396 hK397) hq414 hK415) hq432 hK433) hq450 hK451) hq468 hK469) hq486 hK487) hq504 hK505) hq522 hK523) hq540 hK541) hq558 hK559) hq576 hK577) hq594 hK595) hq612 hK613) hq630 hK631) hq648 hK649) hq666 hK667) hq684 hK685) hq702 hK703) hq720 hK721) hq738 hK739) hq756 hK757) hq774 hK775) hq792 hK793) hq810 hK811) hq828 hK829) hq846 hK847) hq864 hK865) hq882 hK883) hq900 hK901) hq918 hK919) hq936 hK937) hq954 hK955) hq972 hK973) hq990 hK991) hq1008 hK1009) hq1026 hK1027) hq1044 hK1045) hq1062 hK1063) hq1080 hK1081) hq1098 hK1099) hq1116 hK1117) hq1134 hK1135) hq1152 hK1153) hq1170 hK1171) hq1188 hK1189) hq1206 hK1207) hq1224 hK1225) hq1242 hK1243) hq1260 hK1261) hq1278 hK1279) hq1296 hK1297) hq1314 hK1315) hq1332 hK1333) hq1350 hK1351) hq1368 hK1369) hq1386 hK1387) hq1404 hK1405) hq1422 hK1423) hq1440 hK1441) hq1458 hK1459) hq1476 hK1477) hq1494 hK1495) hq1516 hK1517) hq1534 hK1535) hq1552 hK1553) hq1570 hK1571) h1577 hq1588
  clear pf1584 kz1580 hz1585
  refine GO.putRF rfl rfl (by decide +kernel) h1595 fp_raw_fp_RX12_295 rfl rfl dX12_init_780 (fun V1601 e1600 => ?_)
  have pf1602 := PF.put pf1596 e1600 rfl
  have hz1603 : ∀ j, V1601 o323 j = .int 0 := fun j => (uq_ne e1600 (Or.inl (K_ne kz1598 h1595 (by decide)))).trans (hz1597 j)
  clear pf1596 hz1597
  refine GO.aload_n dX12_init_783 rfl rfl ?_
  refine GO.bipush dX12_init_784 rfl ?_
  refine GO.newT (atype := .int) 101 10 gw_89 rfl rfl (fun _ _ h => h) rfl rfl rfl (Or.inr rfl) (fun _ => okv_df rfl rfl rfl) rfl rfl dX12_init_786 (fun o1604 K1605 V1611 hq1606 hK1607 hE1608 h1609 hz1612 hV1610 => ?_)
  have h1613 := (by rw [hK1607, updK_ne (K_old h1595 hq1606)]; exact h1595 : K1605 x = some (0, 23))
  have pf1614 := PF.nw pf1602 hV1610 (K_old h1595 hq1606)
  have kz1616 := hE1608.arr kz1598
  have hz1615 : ∀ j, V1611 o323 j = .int 0 := fun j => (congrFun (hV1610 _ (K_old kz1598 hq1606)) j).trans (hz1603 j)
  have h1617 := KE.nw (KE.new (KE.new (KE.new (KE.new (KE.new (KE.new (KE.new (KE.new (KE.new (KE.new (KE.new (KE.new (KE.new (KE.new (KE.new (KE.new (KE.new (KE.new (KE.new (KE.new (KE.new (KE.new (KE.new (KE.new (KE.new (KE.new (KE.new (KE.new (KE.new (KE.new (KE.new (KE.new (KE.new (KE.new (KE.new (KE.new (KE.new (KE.new (KE.new (KE.new (KE.new (KE.new (KE.new (KE.new (KE.new (KE.new (KE.new (KE.new (KE.new (KE.new (KE.new (KE.new (KE.new (KE.new (KE.new (KE.new (KE.new (KE.new (KE.new (KE.new (KE.new (KE.new (KE.new (KE.new (KE.new (KE.new (KE.new (KE.new (KE.new (KE.new (KE.new (KE.new (KE.new (KE.new (KE.new (KE.new (KE.new (KE.new (KE.new (KE.new (KE.new (KE.new (KE.new (KE.new (KE.new (KE.new (KE.new (KE.new (KE.new (KE.new (KE.new (KE.new KE.rf hq10 hK11) hq25 hK26) hq40 hK41) hq55 hK56) hq70 hK71) hq85 hK86) hq100 hK101) hq115 hK116) hq130 hK131) hq145 hK146) hq160 hK161) hq175 hK176) hq190 hK191) hq205 hK206) hq220 hK221) hq235 hK236) hq250 hK251) hq265 hK266) hq280 hK281) hq295 hK296) hq310 hK311) hq325 hK326) hq342 hK343) hq360 hK361) hq378 hK379) hq396 hK397) hq414 hK415) hq432 hK433) hq450 hK451) hq468 hK469) hq486 hK487) hq504 hK505) hq522 hK523) hq540 hK541) hq558 hK559) hq576 hK577) hq594 hK595) hq612 hK613) hq630 hK631) hq648 hK649) hq666 hK667) hq684 hK685) hq702 hK703) hq720 hK721) hq738 hK739) hq756 hK757) hq774 hK775) hq792 hK793) hq810 hK811) hq828 hK829) hq846 hK847) hq864 hK865) hq882 hK883) hq900 hK901) hq918 hK919) hq936 hK937) hq954 hK955) hq972 hK973) hq990 hK991) hq1008 hK1009) hq1026 hK1027) hq1044 hK1045) hq1062 hK1063) hq1080 hK1081) hq1098 hK1099) hq1116 hK1117) hq1134 hK1135) hq1152 hK1153) hq1170 hK1171) hq1188 hK1189) hq1206 hK1207) hq1224 hK1225) hq1242 hK1243) hq1260 hK1261) hq1278 hK1279) hq1296 hK1297) hq1314 hK1315) hq1332 hK1333) hq1350 hK1351) hq1368 hK1369) hq1386 hK1387) hq1404 hK1405) hq1422 hK1423) hq1440 hK1441) hq1458 hK1459) hq1476 hK1477) hq1494 hK1495) hq1516 hK1517) hq1534 hK1535) hq1552 hK1553) hq1570 hK1571) hq1588 hK1589) h1595 hq1606
  clear pf1602 kz1598 hz1603
  refine GO.putRF rfl rfl (by decide +kernel) h1613 fp_raw_fp_RX12_298 rfl rfl dX12_init_788 (fun V1619 e1618 => ?_)
  have pf1620 := PF.put pf1614 e1618 rfl
  have hz1621 : ∀ j, V1619 o323 j = .int 0 := fun j => (uq_ne e1618 (Or.inl (K_ne kz1616 h1613 (by decide)))).trans (hz1615 j)
  clear pf1614 hz1615
  refine GO.aload_n dX12_init_791 rfl rfl ?_
  refine GO.bipush dX12_init_792 rfl ?_
  refine GO.newT (atype := .int) 102 10 gw_89 rfl rfl (fun _ _ h => h) rfl rfl rfl (Or.inr rfl) (fun _ => okv_df rfl rfl rfl) rfl rfl dX12_init_794 (fun o1622 K1623 V1629 hq1624 hK1625 hE1626 h1627 hz1630 hV1628 => ?_)
  have h1631 := (by rw [hK1625, updK_ne (K_old h1613 hq1624)]; exact h1613 : K1623 x = some (0, 23))
  have pf1632 := PF.nw pf1620 hV1628 (K_old h1613 hq1624)
  have kz1634 := hE1626.arr kz1616
  have hz1633 : ∀ j, V1629 o323 j = .int 0 := fun j => (congrFun (hV1628 _ (K_old kz1616 hq1624)) j).trans (hz1621 j)
  have h1635 := KE.nw (KE.new (KE.new (KE.new (KE.new (KE.new (KE.new (KE.new (KE.new (KE.new (KE.new (KE.new (KE.new (KE.new (KE.new (KE.new (KE.new (KE.new (KE.new (KE.new (KE.new (KE.new (KE.new (KE.new (KE.new (KE.new (KE.new (KE.new (KE.new (KE.new (KE.new (KE.new (KE.new (KE.new (KE.new (KE.new (KE.new (KE.new (KE.new (KE.new (KE.new (KE.new (KE.new (KE.new (KE.new (KE.new (KE.new (KE.new (KE.new (KE.new (KE.new (KE.new (KE.new (KE.new (KE.new (KE.new (KE.new (KE.new (KE.new (KE.new (KE.new (KE.new (KE.new (KE.new (KE.new (KE.new (KE.new (KE.new (KE.new (KE.new (KE.new (KE.new (KE.new (KE.new (KE.new (KE.new (KE.new (KE.new (KE.new (KE.new (KE.new (KE.new (KE.new (KE.new (KE.new (KE.new (KE.new (KE.new (KE.new (KE.new (KE.new (KE.new (KE.new (KE.new KE.rf hq10 hK11) hq25 hK26) hq40 hK41) hq55 hK56) hq70 hK71) hq85 hK86) hq100 hK101) hq115 hK116) hq130 hK131) hq145 hK146) hq160 hK161) hq175 hK176) hq190 hK191) hq205 hK206) hq220 hK221) hq235 hK236) hq250 hK251) hq265 hK266) hq280 hK281) hq295 hK296) hq310 hK311) hq325 hK326) hq342 hK343) hq360 hK361) hq378 hK379) hq396 hK397) hq414 hK415) hq432 hK433) hq450 hK451) hq468 hK469) hq486 hK487) hq504 hK505) hq522 hK523) hq540 hK541) hq558 hK559) hq576 hK577) hq594 hK595) hq612 hK613) hq630 hK631) hq648 hK649) hq666 hK667) hq684 hK685) hq702 hK703) hq720 hK721) hq738 hK739) hq756 hK757) hq774 hK775) hq792 hK793) hq810 hK811) hq828 hK829) hq846 hK847) hq864 hK865) hq882 hK883) hq900 hK901) hq918 hK919) hq936 hK937) hq954 hK955) hq972 hK973) hq990 hK991) hq1008 hK1009) hq1026 hK1027) hq1044 hK1045) hq1062 hK1063) hq1080 hK1081) hq1098 hK1099) hq1116 hK1117) hq1134 hK1135) hq1152 hK1153) hq1170 hK1171) hq1188 hK1189) hq1206 hK1207) hq1224 hK1225) hq1242 hK1243) hq1260 hK1261) hq1278 hK1279) hq1296 hK1297) hq1314 hK1315) hq1332 hK1333) hq1350 hK1351) hq1368 hK1369) hq1386 hK1387) hq1404 hK1405) hq1422 hK1423) hq1440 hK1441) hq1458 hK1459) hq1476 hK1477) hq1494 hK1495) hq1516 hK1517) hq1534 hK1535) hq1552 hK1553) hq1570 hK1571) hq1588 hK1589) hq1606 hK1607) h1613 hq1624
  clear pf1620 kz1616 hz1621
  refine GO.putRF rfl rfl (by decide +kernel) h1631 fp_raw_fp_RX12_301 rfl rfl dX12_init_796 (fun V1637 e1636 => ?_)
  have pf1638 := PF.put pf1632 e1636 rfl
  have hz1639 : ∀ j, V1637 o323 j = .int 0 := fun j => (uq_ne e1636 (Or.inl (K_ne kz1634 h1631 (by decide)))).trans (hz1633 j)
  clear pf1632 hz1633
  refine GO.aload_n dX12_init_799 rfl rfl ?_
  refine GO.sipush dX12_init_800 rfl ?_
  refine GO.newT (atype := .int) 103 200 gw_89 rfl rfl (fun _ _ h => h) rfl rfl rfl (Or.inr rfl) (fun _ => okv_df rfl rfl rfl) rfl rfl dX12_init_803 (fun o1640 K1641 V1647 hq1642 hK1643 hE1644 h1645 hz1648 hV1646 => ?_)
  have h1649 := (by rw [hK1643, updK_ne (K_old h1631 hq1642)]; exact h1631 : K1641 x = some (0, 23))
  have pf1650 := PF.nw pf1638 hV1646 (K_old h1631 hq1642)
  have kz1652 := hE1644.arr kz1634
  have hz1651 : ∀ j, V1647 o323 j = .int 0 := fun j => (congrFun (hV1646 _ (K_old kz1634 hq1642)) j).trans (hz1639 j)
  have h1653 := KE.nw (KE.new (KE.new (KE.new (KE.new (KE.new (KE.new (KE.new (KE.new (KE.new (KE.new (KE.new (KE.new (KE.new (KE.new (KE.new (KE.new (KE.new (KE.new (KE.new (KE.new (KE.new (KE.new (KE.new (KE.new (KE.new (KE.new (KE.new (KE.new (KE.new (KE.new (KE.new (KE.new (KE.new (KE.new (KE.new (KE.new (KE.new (KE.new (KE.new (KE.new (KE.new (KE.new (KE.new (KE.new (KE.new (KE.new (KE.new (KE.new (KE.new (KE.new (KE.new (KE.new (KE.new (KE.new (KE.new (KE.new (KE.new (KE.new (KE.new (KE.new (KE.new (KE.new (KE.new (KE.new (KE.new (KE.new (KE.new (KE.new (KE.new (KE.new (KE.new (KE.new (KE.new (KE.new (KE.new (KE.new (KE.new (KE.new (KE.new (KE.new (KE.new (KE.new (KE.new (KE.new (KE.new (KE.new (KE.new (KE.new (KE.new (KE.new (KE.new (KE.new (KE.new (KE.new KE.rf hq10 hK11) hq25 hK26) hq40 hK41) hq55 hK56) hq70 hK71) hq85 hK86) hq100 hK101) hq115 hK116) hq130 hK131) hq145 hK146) hq160 hK161) hq175 hK176) hq190 hK191) hq205 hK206) hq220 hK221) hq235 hK236) hq250 hK251) hq265 hK266) hq280 hK281) hq295 hK296) hq310 hK311) hq325 hK326) hq342 hK343) hq360 hK361) hq378 hK379) hq396 hK397) hq414 hK415) hq432 hK433) hq450 hK451) hq468 hK469) hq486 hK487) hq504 hK505) hq522 hK523) hq540 hK541) hq558 hK559) hq576 hK577) hq594 hK595) hq612 hK613) hq630 hK631) hq648 hK649) hq666 hK667) hq684 hK685) hq702 hK703) hq720 hK721) hq738 hK739) hq756 hK757) hq774 hK775) hq792 hK793) hq810 hK811) hq828 hK829) hq846 hK847) hq864 hK865) hq882 hK883) hq900 hK901) hq918 hK919) hq936 hK937) hq954 hK955) hq972 hK973) hq990 hK991) hq1008 hK1009) hq1026 hK1027) hq1044 hK1045) hq1062 hK1063) hq1080 hK1081) hq1098 hK1099) hq1116 hK1117) hq1134 hK1135) hq1152 hK1153) hq1170 hK1171) hq1188 hK1189) hq1206 hK1207) hq1224 hK1225) hq1242 hK1243) hq1260 hK1261) hq1278 hK1279) hq1296 hK1297) hq1314 hK1315) hq1332 hK1333) hq1350 hK1351) hq1368 hK1369) hq1386 hK1387) hq1404 hK1405) hq1422 hK1423) hq1440 hK1441) hq1458 hK1459) hq1476 hK1477) hq1494 hK1495) hq1516 hK1517) hq1534 hK1535) hq1552 hK1553) hq1570 hK1571) hq1588 hK1589) hq1606 hK1607) hq1624 hK1625) h1631 hq1642
  clear pf1638 kz1634 hz1639
  refine GO.putRF rfl rfl (by decide +kernel) h1649 fp_raw_fp_RX12_304 rfl rfl dX12_init_805 (fun V1655 e1654 => ?_)
  have pf1656 := PF.put pf1650 e1654 rfl
  have hz1657 : ∀ j, V1655 o323 j = .int 0 := fun j => (uq_ne e1654 (Or.inl (K_ne kz1652 h1649 (by decide)))).trans (hz1651 j)
  clear pf1650 hz1651
  refine GO.aload_n dX12_init_808 rfl rfl ?_
  refine GO.sipush dX12_init_809 rfl ?_
  refine GO.newT (atype := .int) 104 200 gw_89 rfl rfl (fun _ _ h => h) rfl rfl rfl (Or.inr rfl) (fun _ => okv_df rfl rfl rfl) rfl rfl dX12_init_812 (fun o1658 K1659 V1665 hq1660 hK1661 hE1662 h1663 hz1666 hV1664 => ?_)
  have h1667 := (by rw [hK1661, updK_ne (K_old h1649 hq1660)]; exact h1649 : K1659 x = some (0, 23))
  have pf1668 := PF.nw pf1656 hV1664 (K_old h1649 hq1660)
  have kz1670 := hE1662.arr kz1652
  have hz1669 : ∀ j, V1665 o323 j = .int 0 := fun j => (congrFun (hV1664 _ (K_old kz1652 hq1660)) j).trans (hz1657 j)
  have h1671 := KE.nw (KE.new (KE.new (KE.new (KE.new (KE.new (KE.new (KE.new (KE.new (KE.new (KE.new (KE.new (KE.new (KE.new (KE.new (KE.new (KE.new (KE.new (KE.new (KE.new (KE.new (KE.new (KE.new (KE.new (KE.new (KE.new (KE.new (KE.new (KE.new (KE.new (KE.new (KE.new (KE.new (KE.new (KE.new (KE.new (KE.new (KE.new (KE.new (KE.new (KE.new (KE.new (KE.new (KE.new (KE.new (KE.new (KE.new (KE.new (KE.new (KE.new (KE.new (KE.new (KE.new (KE.new (KE.new (KE.new (KE.new (KE.new (KE.new (KE.new (KE.new (KE.new (KE.new (KE.new (KE.new (KE.new (KE.new (KE.new (KE.new (KE.new (KE.new (KE.new (KE.new (KE.new (KE.new (KE.new (KE.new (KE.new (KE.new (KE.new (KE.new (KE.new (KE.new (KE.new (KE.new (KE.new (KE.new (KE.new (KE.new (KE.new (KE.new (KE.new (KE.new (KE.new (KE.new (KE.new KE.rf hq10 hK11) hq25 hK26) hq40 hK41) hq55 hK56) hq70 hK71) hq85 hK86) hq100 hK101) hq115 hK116) hq130 hK131) hq145 hK146) hq160 hK161) hq175 hK176) hq190 hK191) hq205 hK206) hq220 hK221) hq235 hK236) hq250 hK251) hq265 hK266) hq280 hK281) hq295 hK296) hq310 hK311) hq325 hK326) hq342 hK343) hq360 hK361) hq378 hK379) hq396 hK397) hq414 hK415) hq432 hK433) hq450 hK451) hq468 hK469) hq486 hK487) hq504 hK505) hq522 hK523) hq540 hK541) hq558 hK559) hq576 hK577) hq594 hK595) hq612 hK613) hq630 hK631) hq648 hK649) hq666 hK667) hq684 hK685) hq702 hK703) hq720 hK721) hq738 hK739) hq756 hK757) hq774 hK775) hq792 hK793) hq810 hK811) hq828 hK829) hq846 hK847) hq864 hK865) hq882 hK883) hq900 hK901) hq918 hK919) hq936 hK937) hq954 hK955) hq972 hK973) hq990 hK991) hq1008 hK1009) hq1026 hK1027) hq1044 hK1045) hq1062 hK1063) hq1080 hK1081) hq1098 hK1099) hq1116 hK1117) hq1134 hK1135) hq1152 hK1153) hq1170 hK1171) hq1188 hK1189) hq1206 hK1207) hq1224 hK1225) hq1242 hK1243) hq1260 hK1261) hq1278 hK1279) hq1296 hK1297) hq1314 hK1315) hq1332 hK1333) hq1350 hK1351) hq1368 hK1369) hq1386 hK1387) hq1404 hK1405) hq1422 hK1423) hq1440 hK1441) hq1458 hK1459) hq1476 hK1477) hq1494 hK1495) hq1516 hK1517) hq1534 hK1535) hq1552 hK1553) hq1570 hK1571) hq1588 hK1589) hq1606 hK1607) hq1624 hK1625) hq1642 hK1643) h1649 hq1660
  clear pf1656 kz1652 hz1657
  refine GO.putRF rfl rfl (by decide +kernel) h1667 fp_raw_fp_RX12_307 rfl rfl dX12_init_814 (fun V1673 e1672 => ?_)
  have pf1674 := PF.put pf1668 e1672 rfl
  have hz1675 : ∀ j, V1673 o323 j = .int 0 := fun j => (uq_ne e1672 (Or.inl (K_ne kz1670 h1667 (by decide)))).trans (hz1669 j)
  clear pf1668 hz1669
  refine GO.aload_n dX12_init_817 rfl rfl ?_
  refine GO.sipush dX12_init_818 rfl ?_
  refine GO.newT (atype := .int) 105 200 gw_89 rfl rfl (fun _ _ h => h) rfl rfl rfl (Or.inr rfl) (fun _ => okv_df rfl rfl rfl) rfl rfl dX12_init_821 (fun o1676 K1677 V1683 hq1678 hK1679 hE1680 h1681 hz1684 hV1682 => ?_)
  have h1685 := (by rw [hK1679, updK_ne (K_old h1667 hq1678)]; exact h1667 : K1677 x = some (0, 23))
  have pf1686 := PF.nw pf1674 hV1682 (K_old h1667 hq1678)
  have kz1688 := hE1680.arr kz1670
  have hz1687 : ∀ j, V1683 o323 j = .int 0 := fun j => (congrFun (hV1682 _ (K_old kz1670 hq1678)) j).trans (hz1675 j)
  have h1689 := KE.nw (KE.new (KE.new (KE.new (KE.new (KE.new (KE.new (KE.new (KE.new (KE.new (KE.new (KE.new (KE.new (KE.new (KE.new (KE.new (KE.new (KE.new (KE.new (KE.new (KE.new (KE.new (KE.new (KE.new (KE.new (KE.new (KE.new (KE.new (KE.new (KE.new (KE.new (KE.new (KE.new (KE.new (KE.new (KE.new (KE.new (KE.new (KE.new (KE.new (KE.new (KE.new (KE.new (KE.new (KE.new (KE.new (KE.new (KE.new (KE.new (KE.new (KE.new (KE.new (KE.new (KE.new (KE.new (KE.new (KE.new (KE.new (KE.new (KE.new (KE.new (KE.new (KE.new (KE.new (KE.new (KE.new (KE.new (KE.new (KE.new (KE.new (KE.new (KE.new (KE.new (KE.new (KE.new (KE.new (KE.new (KE.new (KE.new (KE.new (KE.new (KE.new (KE.new (KE.new (KE.new (KE.new (KE.new (KE.new (KE.new (KE.new (KE.new (KE.new (KE.new (KE.new (KE.new (KE.new (KE.new KE.rf hq10 hK11) hq25 hK26) hq40 hK41) hq55 hK56) hq70 hK71) hq85 hK86) hq100 hK101) hq115 hK116) hq130 hK131) hq145 hK146) hq160 hK161) hq175 hK176) hq190 hK191) hq205 hK206) hq220 hK221) hq235 hK236) hq250 hK251) hq265 hK266) hq280 hK281) hq295 hK296) hq310 hK311) hq325 hK326) hq342 hK343) hq360 hK361) hq378 hK379) hq396 hK397) hq414 hK415) hq432 hK433) hq450 hK451) hq468 hK469) hq486 hK487) hq504 hK505) hq522 hK523) hq540 hK541) hq558 hK559) hq576 hK577) hq594 hK595) hq612 hK613) hq630 hK631) hq648 hK649) hq666 hK667) hq684 hK685) hq702 hK703) hq720 hK721) hq738 hK739) hq756 hK757) hq774 hK775) hq792 hK793) hq810 hK811) hq828 hK829) hq846 hK847) hq864 hK865) hq882 hK883) hq900 hK901) hq918 hK919) hq936 hK937) hq954 hK955) hq972 hK973) hq990 hK991) hq1008 hK1009) hq1026 hK1027) hq1044 hK1045) hq1062 hK1063) hq1080 hK1081) hq1098 hK1099) hq1116 hK1117) hq1134 hK1135) hq1152 hK1153) hq1170 hK1171) hq1188 hK1189) hq1206 hK1207) hq1224 hK1225) hq1242 hK1243) hq1260 hK1261) hq1278 hK1279) hq1296 hK1297) hq1314 hK1315) hq1332 hK1333) hq1350 hK1351) hq1368 hK1369) hq1386 hK1387) hq1404 hK1405) hq1422 hK1423) hq1440 hK1441) hq1458 hK1459) hq1476 hK1477) hq1494 hK1495) hq1516 hK1517) hq1534 hK1535) hq1552 hK1553) hq1570 hK1571) hq1588 hK1589) hq1606 hK1607) hq1624 hK1625) hq1642 hK1643) hq1660 hK1661) h1667 hq1678
  clear pf1674 kz1670 hz1675
  refine GO.putRF rfl rfl (by decide +kernel) h1685 fp_raw_fp_RX12_310 rfl rfl dX12_init_823 (fun V1691 e1690 => ?_)
  have pf1692 := PF.put pf1686 e1690 rfl
  have hz1693 : ∀ j, V1691 o323 j = .int 0 := fun j => (uq_ne e1690 (Or.inl (K_ne kz1688 h1685 (by decide)))).trans (hz1687 j)
  clear pf1686 hz1687
  refine GO.aload_n dX12_init_826 rfl rfl ?_
  refine GO.sipush dX12_init_827 rfl ?_
  refine GO.newT (atype := .int) 106 200 gw_89 rfl rfl (fun _ _ h => h) rfl rfl rfl (Or.inr rfl) (fun _ => okv_df rfl rfl rfl) rfl rfl dX12_init_830 (fun o1694 K1695 V1701 hq1696 hK1697 hE1698 h1699 hz1702 hV1700 => ?_)
  have h1703 := (by rw [hK1697, updK_ne (K_old h1685 hq1696)]; exact h1685 : K1695 x = some (0, 23))
  have pf1704 := PF.nw pf1692 hV1700 (K_old h1685 hq1696)
  have kz1706 := hE1698.arr kz1688
  have hz1705 : ∀ j, V1701 o323 j = .int 0 := fun j => (congrFun (hV1700 _ (K_old kz1688 hq1696)) j).trans (hz1693 j)
  have h1707 := KE.nw (KE.new (KE.new (KE.new (KE.new (KE.new (KE.new (KE.new (KE.new (KE.new (KE.new (KE.new (KE.new (KE.new (KE.new (KE.new (KE.new (KE.new (KE.new (KE.new (KE.new (KE.new (KE.new (KE.new (KE.new (KE.new (KE.new (KE.new (KE.new (KE.new (KE.new (KE.new (KE.new (KE.new (KE.new (KE.new (KE.new (KE.new (KE.new (KE.new (KE.new (KE.new (KE.new (KE.new (KE.new (KE.new (KE.new (KE.new (KE.new (KE.new (KE.new (KE.new (KE.new (KE.new (KE.new (KE.new (KE.new (KE.new (KE.new (KE.new (KE.new (KE.new (KE.new (KE.new (KE.new (KE.new (KE.new (KE.new (KE.new (KE.new (KE.new (KE.new (KE.new (KE.new (KE.new (KE.new (KE.new (KE.new (KE.new (KE.new (KE.new (KE.new (KE.new (KE.new (KE.new (KE.new (KE.new (KE.new (KE.new (KE.new (KE.new (KE.new (KE.new (KE.new (KE.new (KE.new (KE.new (KE.new KE.rf hq10 hK11) hq25 hK26) hq40 hK41) hq55 hK56) hq70 hK71) hq85 hK86) hq100 hK101) hq115 hK116) hq130 hK131) hq145 hK146) hq160 hK161) hq175 hK176) hq190 hK191) hq205 hK206) hq220 hK221) hq235 hK236) hq250 hK251) hq265 hK266) hq280 hK281) hq295 hK296) hq310 hK311) hq325 hK326) hq342 hK343) hq360 hK361) hq378 hK379) hq396 hK397) hq414 hK415) hq432 hK433) hq450 hK451) hq468 hK469) hq486 hK487) hq504 hK505) hq522 hK523) hq540 hK541) hq558 hK559) hq576 hK577) hq594 hK595) hq612 hK613) hq630 hK631) hq648 hK649) hq666 hK667) hq684 hK685) hq702 hK703) hq720 hK721) hq738 hK739) hq756 hK757) hq774 hK775) hq792 hK793) hq810 hK811) hq828 hK829) hq846 hK847) hq864 hK865) hq882 hK883) hq900 hK901) hq918 hK919) hq936 hK937) hq954 hK955) hq972 hK973) hq990 hK991) hq1008 hK1009) hq1026 hK1027) hq1044 hK1045) hq1062 hK1063) hq1080 hK1081) hq1098 hK1099) hq1116 hK1117) hq1134 hK1135) hq1152 hK1153) hq1170 hK1171) hq1188 hK1189) hq1206 hK1207) hq1224 hK1225) hq1242 hK1243) hq1260 hK1261) hq1278 hK1279) hq1296 hK1297) hq1314 hK1315) hq1332 hK1333) hq1350 hK1351) hq1368 hK1369) hq1386 hK1387) hq1404 hK1405) hq1422 hK1423) hq1440 hK1441) hq1458 hK1459) hq1476 hK1477) hq1494 hK1495) hq1516 hK1517) hq1534 hK1535) hq1552 hK1553) hq1570 hK1571) hq1588 hK1589) hq1606 hK1607) hq1624 hK1625) hq1642 hK1643) hq1660 hK1661) hq1678 hK1679) h1685 hq1696
  clear pf1692 kz1688 hz1693
  refine GO.putRF rfl rfl (by decide +kernel) h1703 fp_raw_fp_RX12_313 rfl rfl dX12_init_832 (fun V1709 e1708 => ?_)
  have pf1710 := PF.put pf1704 e1708 rfl
  have hz1711 : ∀ j, V1709 o323 j = .int 0 := fun j => (uq_ne e1708 (Or.inl (K_ne kz1706 h1703 (by decide)))).trans (hz1705 j)
  clear pf1704 hz1705
  refine GO.aload_n dX12_init_835 rfl rfl ?_
  refine GO.sipush dX12_init_836 rfl ?_
  refine GO.newT (atype := .int) 107 200 gw_89 rfl rfl (fun _ _ h => h) rfl rfl rfl (Or.inr rfl) (fun _ => okv_df rfl rfl rfl) rfl rfl dX12_init_839 (fun o1712 K1713 V1719 hq1714 hK1715 hE1716 h1717 hz1720 hV1718 => ?_)
  have h1721 := (by rw [hK1715, updK_ne (K_old h1703 hq1714)]; exact h1703 : K1713 x = some (0, 23))
  have pf1722 := PF.nw pf1710 hV1718 (K_old h1703 hq1714)
  have kz1724 := hE1716.arr kz1706
  have hz1723 : ∀ j, V1719 o323 j = .int 0 := fun j => (congrFun (hV1718 _ (K_old kz1706 hq1714)) j).trans (hz1711 j)
  have h1725 := KE.nw (KE.new (KE.new (KE.new (KE.new (KE.new (KE.new (KE.new (KE.new (KE.new (KE.new (KE.new (KE.new (KE.new (KE.new (KE.new (KE.new (KE.new (KE.new (KE.new (KE.new (KE.new (KE.new (KE.new (KE.new (KE.new (KE.new (KE.new (KE.new (KE.new (KE.new (KE.new (KE.new (KE.new (KE.new (KE.new (KE.new (KE.new (KE.new (KE.new (KE.new (KE.new (KE.new (KE.new (KE.new (KE.new (KE.new (KE.new (KE.new (KE.new (KE.new (KE.new (KE.new (KE.new (KE.new (KE.new (KE.new (KE.new (KE.new (KE.new (KE.new (KE.new (KE.new (KE.new (KE.new (KE.new (KE.new (KE.new (KE.new (KE.new (KE.new (KE.new (KE.new (KE.new (KE.new (KE.new (KE.new (KE.new (KE.new (KE.new (KE.new (KE.new (KE.new (KE.new (KE.new (KE.new (KE.new (KE.new (KE.new (KE.new (KE.new (KE.new (KE.new (KE.new (KE.new (KE.new (KE.new (KE.new (KE.new KE.rf hq10 hK11) hq25 hK26) hq40 hK41) hq55 hK56) hq70 hK71) hq85 hK86) hq100 hK101) hq115 hK116) hq130 hK131) hq145 hK146) hq160 hK161) hq175 hK176) hq190 hK191) hq205 hK206) hq220 hK221) hq235 hK236) hq250 hK251) hq265 hK266) hq280 hK281) hq295 hK296) hq310 hK311) hq325 hK326) hq342 hK343) hq360 hK361) hq378 hK379) hq396 hK397) hq414 hK415) hq432 hK433) hq450 hK451) hq468 hK469) hq486 hK487) hq504 hK505) hq522 hK523) hq540 hK541) hq558 hK559) hq576 hK577) hq594 hK595) hq612 hK613) hq630 hK631) hq648 hK649) hq666 hK667) hq684 hK685) hq702 hK703) hq720 hK721) hq738 hK739) hq756 hK757) hq774 hK775) hq792 hK793) hq810 hK811) hq828 hK829) hq846 hK847) hq864 hK865) hq882 hK883) hq900 hK901) hq918 hK919) hq936 hK937) hq954 hK955) hq972 hK973) hq990 hK991) hq1008 hK1009) hq1026 hK1027) hq1044 hK1045) hq1062 hK1063) hq1080 hK1081) hq1098 hK1099) hq1116 hK1117) hq1134 hK1135) hq1152 hK1153) hq1170 hK1171) hq1188 hK1189) hq1206 hK1207) hq1224 hK1225) hq1242 hK1243) hq1260 hK1261) hq1278 hK1279) hq1296 hK1297) hq1314 hK1315) hq1332 hK1333) hq1350 hK1351) hq1368 hK1369) hq1386 hK1387) hq1404 hK1405) hq1422 hK1423) hq1440 hK1441) hq1458 hK1459) hq1476 hK1477) hq1494 hK1495) hq1516 hK1517) hq1534 hK1535) hq1552 hK1553) hq1570 hK1571) hq1588 hK1589) hq1606 hK1607) hq1624 hK1625) hq1642 hK1643) hq1660 hK1661) hq1678 hK1679) hq1696 hK1697) h1703 hq1714
  clear pf1710 kz1706 hz1711
  refine GO.putRF rfl rfl (by decide +kernel) h1721 fp_raw_fp_RX12_316 rfl rfl dX12_init_841 (fun V1727 e1726 => ?_)
  have pf1728 := PF.put pf1722 e1726 rfl
  have hz1729 : ∀ j, V1727 o323 j = .int 0 := fun j => (uq_ne e1726 (Or.inl (K_ne kz1724 h1721 (by decide)))).trans (hz1723 j)
  clear pf1722 hz1723
  refine GO.aload_n dX12_init_844 rfl rfl ?_
  refine GO.bipush dX12_init_845 rfl ?_
  refine GO.newT (atype := .int) 108 7 gw_89 rfl rfl (fun _ _ h => h) rfl rfl rfl (Or.inr rfl) (fun _ => okv_df rfl rfl rfl) rfl rfl dX12_init_847 (fun o1730 K1731 V1737 hq1732 hK1733 hE1734 h1735 hz1738 hV1736 => ?_)
  have h1739 := (by rw [hK1733, updK_ne (K_old h1721 hq1732)]; exact h1721 : K1731 x = some (0, 23))
  have pf1740 := PF.nw pf1728 hV1736 (K_old h1721 hq1732)
  have kz1742 := hE1734.arr kz1724
  have hz1741 : ∀ j, V1737 o323 j = .int 0 := fun j => (congrFun (hV1736 _ (K_old kz1724 hq1732)) j).trans (hz1729 j)
  have h1743 := KE.nw (KE.new (KE.new (KE.new (KE.new (KE.new (KE.new (KE.new (KE.new (KE.new (KE.new (KE.new (KE.new (KE.new (KE.new (KE.new (KE.new (KE.new (KE.new (KE.new (KE.new (KE.new (KE.new (KE.new (KE.new (KE.new (KE.new (KE.new (KE.new (KE.new (KE.new (KE.new (KE.new (KE.new (KE.new (KE.new (KE.new (KE.new (KE.new (KE.new (KE.new (KE.new (KE.new (KE.new (KE.new (KE.new (KE.new (KE.new (KE.new (KE.new (KE.new (KE.new (KE.new (KE.new (KE.new (KE.new (KE.new (KE.new (KE.new (KE.new (KE.new (KE.new (KE.new (KE.new (KE.new (KE.new (KE.new (KE.new (KE.new (KE.new (KE.new (KE.new (KE.new (KE.new (KE.new (KE.new (KE.new (KE.new (KE.new (KE.new (KE.new (KE.new (KE.new (KE.new (KE.new (KE.new (KE.new (KE.new (KE.new (KE.new (KE.new (KE.new (KE.new (KE.new (KE.new (KE.new (KE.new (KE.new (KE.new (KE.new KE.rf hq10 hK11) hq25 hK26) hq40 hK41) hq55 hK56) hq70 hK71) hq85 hK86) hq100 hK101) hq115 hK116) hq130 hK131) hq145 hK146) hq160 hK161) hq175 hK176) hq190 hK191) hq205 hK206) hq220 hK221) hq235 hK236) hq250 hK251) hq265 hK266) hq280 hK281) hq295 hK296) hq310 hK311) hq325 hK326) hq342 hK343) hq360 hK361) hq378 hK379) hq396 hK397) hq414 hK415) hq432 hK433) hq450 hK451) hq468 hK469) hq486 hK487) hq504 hK505) hq522 hK523) hq540 hK541) hq558 hK559) hq576 hK577) hq594 hK595) hq612 hK613) hq630 hK631) hq648 hK649) hq666 hK667) hq684 hK685) hq702 hK703) hq720 hK721) hq738 hK739) hq756 hK757) hq774 hK775) hq792 hK793) hq810 hK811) hq828 hK829) hq846 hK847) hq864 hK865) hq882 hK883) hq900 hK901) hq918 hK919) hq936 hK937) hq954 hK955) hq972 hK973) hq990 hK991) hq1008 hK1009) hq1026 hK1027) hq1044 hK1045) hq1062 hK1063) hq1080 hK1081) hq1098 hK1099) hq1116 hK1117) hq1134 hK1135) hq1152 hK1153) hq1170 hK1171) hq1188 hK1189) hq1206 hK1207) hq1224 hK1225) hq1242 hK1243) hq1260 hK1261) hq1278 hK1279) hq1296 hK1297) hq1314 hK1315) hq1332 hK1333) hq1350 hK1351) hq1368 hK1369) hq1386 hK1387) hq1404 hK1405) hq1422 hK1423) hq1440 hK1441) hq1458 hK1459) hq1476 hK1477) hq1494 hK1495) hq1516 hK1517) hq1534 hK1535) hq1552 hK1553) hq1570 hK1571) hq1588 hK1589) hq1606 hK1607) hq1624 hK1625) hq1642 hK1643) hq1660 hK1661) hq1678 hK1679) hq1696 hK1697) hq1714 hK1715) h1721 hq1732
  clear pf1728 kz1724 hz1729
  refine GO.putRF rfl rfl (by decide +kernel) h1739 fp_raw_fp_RX12_319 rfl rfl dX12_init_849 (fun V1745 e1744 => ?_)
  have pf1746 := PF.put pf1740 e1744 rfl
  have hz1747 : ∀ j, V1745 o323 j = .int 0 := fun j => (uq_ne e1744 (Or.inl (K_ne kz1742 h1739 (by decide)))).trans (hz1741 j)
  clear pf1740 hz1741
  refine GO.aload_n dX12_init_852 rfl rfl ?_
  refine GO.bipush dX12_init_853 rfl ?_
  refine GO.newT (atype := .boolean) 109 63 gw_1936 rfl rfl (fun _ _ h => h) rfl rfl rfl (Or.inr rfl) (fun _ => okv_df rfl rfl rfl) rfl rfl dX12_init_855 (fun o1748 K1749 V1755 hq1750 hK1751 hE1752 h1753 hz1756 hV1754 => ?_)
  have h1757 := (by rw [hK1751, updK_ne (K_old h1739 hq1750)]; exact h1739 : K1749 x = some (0, 23))
  have pf1758 := PF.nw pf1746 hV1754 (K_old h1739 hq1750)
  have kz1760 := hE1752.arr kz1742
  have hz1759 : ∀ j, V1755 o323 j = .int 0 := fun j => (congrFun (hV1754 _ (K_old kz1742 hq1750)) j).trans (hz1747 j)
  have hz1761 : ∀ j, V1755 o1748 j = .int 0 := hz1756
  have h1762 := KE.nw (KE.new (KE.new (KE.new (KE.new (KE.new (KE.new (KE.new (KE.new (KE.new (KE.new (KE.new (KE.new (KE.new (KE.new (KE.new (KE.new (KE.new (KE.new (KE.new (KE.new (KE.new (KE.new (KE.new (KE.new (KE.new (KE.new (KE.new (KE.new (KE.new (KE.new (KE.new (KE.new (KE.new (KE.new (KE.new (KE.new (KE.new (KE.new (KE.new (KE.new (KE.new (KE.new (KE.new (KE.new (KE.new (KE.new (KE.new (KE.new (KE.new (KE.new (KE.new (KE.new (KE.new (KE.new (KE.new (KE.new (KE.new (KE.new (KE.new (KE.new (KE.new (KE.new (KE.new (KE.new (KE.new (KE.new (KE.new (KE.new (KE.new (KE.new (KE.new (KE.new (KE.new (KE.new (KE.new (KE.new (KE.new (KE.new (KE.new (KE.new (KE.new (KE.new (KE.new (KE.new (KE.new (KE.new (KE.new (KE.new (KE.new (KE.new (KE.new (KE.new (KE.new (KE.new (KE.new (KE.new (KE.new (KE.new (KE.new (KE.new KE.rf hq10 hK11) hq25 hK26) hq40 hK41) hq55 hK56) hq70 hK71) hq85 hK86) hq100 hK101) hq115 hK116) hq130 hK131) hq145 hK146) hq160 hK161) hq175 hK176) hq190 hK191) hq205 hK206) hq220 hK221) hq235 hK236) hq250 hK251) hq265 hK266) hq280 hK281) hq295 hK296) hq310 hK311) hq325 hK326) hq342 hK343) hq360 hK361) hq378 hK379) hq396 hK397) hq414 hK415) hq432 hK433) hq450 hK451) hq468 hK469) hq486 hK487) hq504 hK505) hq522 hK523) hq540 hK541) hq558 hK559) hq576 hK577) hq594 hK595) hq612 hK613) hq630 hK631) hq648 hK649) hq666 hK667) hq684 hK685) hq702 hK703) hq720 hK721) hq738 hK739) hq756 hK757) hq774 hK775) hq792 hK793) hq810 hK811) hq828 hK829) hq846 hK847) hq864 hK865) hq882 hK883) hq900 hK901) hq918 hK919) hq936 hK937) hq954 hK955) hq972 hK973) hq990 hK991) hq1008 hK1009) hq1026 hK1027) hq1044 hK1045) hq1062 hK1063) hq1080 hK1081) hq1098 hK1099) hq1116 hK1117) hq1134 hK1135) hq1152 hK1153) hq1170 hK1171) hq1188 hK1189) hq1206 hK1207) hq1224 hK1225) hq1242 hK1243) hq1260 hK1261) hq1278 hK1279) hq1296 hK1297) hq1314 hK1315) hq1332 hK1333) hq1350 hK1351) hq1368 hK1369) hq1386 hK1387) hq1404 hK1405) hq1422 hK1423) hq1440 hK1441) hq1458 hK1459) hq1476 hK1477) hq1494 hK1495) hq1516 hK1517) hq1534 hK1535) hq1552 hK1553) hq1570 hK1571) hq1588 hK1589) hq1606 hK1607) hq1624 hK1625) hq1642 hK1643) hq1660 hK1661) hq1678 hK1679) hq1696 hK1697) hq1714 hK1715) hq1732 hK1733) h1739 hq1750
  clear pf1746 kz1742 hz1747
  refine GO.putRF rfl rfl (by decide +kernel) h1757 fp_raw_fp_RX12_322 rfl rfl dX12_init_857 (fun V1764 e1763 => ?_)
  have pf1765 := PF.put pf1758 e1763 rfl
  have hz1766 : ∀ j, V1764 o323 j = .int 0 := fun j => (uq_ne e1763 (Or.inl (K_ne kz1760 h1757 (by decide)))).trans (hz1759 j)
  have hz1767 : ∀ j, V1764 o1748 j = .int 0 := fun j => (uq_ne e1763 (Or.inl (K_ne h1753 h1757 (by decide)))).trans (hz1761 j)
  clear pf1758 hz1759 hz1761
  refine GO.aload_n dX12_init_860 rfl rfl ?_
  refine GO.sipush dX12_init_861 rfl ?_
  refine GO.newT (atype := .boolean) 110 441 gw_1936 rfl rfl (fun _ _ h => h) rfl rfl rfl (Or.inr rfl) (fun _ => okv_df rfl rfl rfl) rfl rfl dX12_init_864 (fun o1768 K1769 V1775 hq1770 hK1771 hE1772 h1773 hz1776 hV1774 => ?_)
  have h1777 := (by rw [hK1771, updK_ne (K_old h1757 hq1770)]; exact h1757 : K1769 x = some (0, 23))
  have pf1778 := PF.nw pf1765 hV1774 (K_old h1757 hq1770)
  have kz1780 := hE1772.arr kz1760
  have hz1779 : ∀ j, V1775 o323 j = .int 0 := fun j => (congrFun (hV1774 _ (K_old kz1760 hq1770)) j).trans (hz1766 j)
  have kz1782 := hE1772.arr h1753
  have hz1781 : ∀ j, V1775 o1748 j = .int 0 := fun j => (congrFun (hV1774 _ (K_old h1753 hq1770)) j).trans (hz1767 j)
  have hz1783 : ∀ j, V1775 o1768 j = .int 0 := hz1776
  have h1784 := KE.nw (KE.new (KE.new (KE.new (KE.new (KE.new (KE.new (KE.new (KE.new (KE.new (KE.new (KE.new (KE.new (KE.new (KE.new (KE.new (KE.new (KE.new (KE.new (KE.new (KE.new (KE.new (KE.new (KE.new (KE.new (KE.new (KE.new (KE.new (KE.new (KE.new (KE.new (KE.new (KE.new (KE.new (KE.new (KE.new (KE.new (KE.new (KE.new (KE.new (KE.new (KE.new (KE.new (KE.new (KE.new (KE.new (KE.new (KE.new (KE.new (KE.new (KE.new (KE.new (KE.new (KE.new (KE.new (KE.new (KE.new (KE.new (KE.new (KE.new (KE.new (KE.new (KE.new (KE.new (KE.new (KE.new (KE.new (KE.new (KE.new (KE.new (KE.new (KE.new (KE.new (KE.new (KE.new (KE.new (KE.new (KE.new (KE.new (KE.new (KE.new (KE.new (KE.new (KE.new (KE.new (KE.new (KE.new (KE.new (KE.new (KE.new (KE.new (KE.new (KE.new (KE.new (KE.new (KE.new (KE.new (KE.new (KE.new (KE.new (KE.new (KE.new KE.rf hq10 hK11) hq25 hK26) hq40 hK41) hq55 hK56) hq70 hK71) hq85 hK86) hq100 hK101) hq115 hK116) hq130 hK131) hq145 hK146) hq160 hK161) hq175 hK176) hq190 hK191) hq205 hK206) hq220 hK221) hq235 hK236) hq250 hK251) hq265 hK266) hq280 hK281) hq295 hK296) hq310 hK311) hq325 hK326) hq342 hK343) hq360 hK361) hq378 hK379) hq396 hK397) hq414 hK415) hq432 hK433) hq450 hK451) hq468 hK469) hq486 hK487) hq504 hK505) hq522 hK523) hq540 hK541) hq558 hK559) hq576 hK577) hq594 hK595) hq612 hK613) hq630 hK631) hq648 hK649) hq666 hK667) hq684 hK685) hq702 hK703) hq720 hK721) hq738 hK739) hq756 hK757) hq774 hK775) hq792 hK793) hq810 hK811) hq828 hK829) hq846 hK847) hq864 hK865) hq882 hK883) hq900 hK901) hq918 hK919) hq936 hK937) hq954 hK955) hq972 hK973) hq990 hK991) hq1008 hK1009) hq1026 hK1027) hq1044 hK1045) hq1062 hK1063) hq1080 hK1081) hq1098 hK1099) hq1116 hK1117) hq1134 hK1135) hq1152 hK1153) hq1170 hK1171) hq1188 hK1189) hq1206 hK1207) hq1224 hK1225) hq1242 hK1243) hq1260 hK1261) hq1278 hK1279) hq1296 hK1297) hq1314 hK1315) hq1332 hK1333) hq1350 hK1351) hq1368 hK1369) hq1386 hK1387) hq1404 hK1405) hq1422 hK1423) hq1440 hK1441) hq1458 hK1459) hq1476 hK1477) hq1494 hK1495) hq1516 hK1517) hq1534 hK1535) hq1552 hK1553) hq1570 hK1571) hq1588 hK1589) hq1606 hK1607) hq1624 hK1625) hq1642 hK1643) hq1660 hK1661) hq1678 hK1679) hq1696 hK1697) hq1714 hK1715) hq1732 hK1733) hq1750 hK1751) h1757 hq1770
  clear pf1765 kz1760 hz1766 hz1767
  refine GO.putRF rfl rfl (by decide +kernel) h1777 fp_raw_fp_RX12_325 rfl rfl dX12_init_866 (fun V1786 e1785 => ?_)
  have pf1787 := PF.put pf1778 e1785 rfl
  have hz1788 : ∀ j, V1786 o323 j = .int 0 := fun j => (uq_ne e1785 (Or.inl (K_ne kz1780 h1777 (by decide)))).trans (hz1779 j)
  have hz1789 : ∀ j, V1786 o1748 j = .int 0 := fun j => (uq_ne e1785 (Or.inl (K_ne kz1782 h1777 (by decide)))).trans (hz1781 j)
  have hz1790 : ∀ j, V1786 o1768 j = .int 0 := fun j => (uq_ne e1785 (Or.inl (K_ne h1773 h1777 (by decide)))).trans (hz1783 j)
  clear pf1778 hz1779 hz1781 hz1783
  refine GO.aload_n dX12_init_869 rfl rfl ?_
  refine GO.bipush dX12_init_870 rfl ?_
  refine GO.newT (atype := .int) 111 8 gw_89 rfl rfl (fun _ _ h => h) rfl rfl rfl (Or.inr rfl) (fun _ => okv_df rfl rfl rfl) rfl rfl dX12_init_872 (fun o1791 K1792 V1798 hq1793 hK1794 hE1795 h1796 hz1799 hV1797 => ?_)
  have h1800 := (by rw [hK1794, updK_ne (K_old h1777 hq1793)]; exact h1777 : K1792 x = some (0, 23))
  have pf1801 := PF.nw pf1787 hV1797 (K_old h1777 hq1793)
  have kz1803 := hE1795.arr kz1780
  have hz1802 : ∀ j, V1798 o323 j = .int 0 := fun j => (congrFun (hV1797 _ (K_old kz1780 hq1793)) j).trans (hz1788 j)
  have kz1805 := hE1795.arr kz1782
  have hz1804 : ∀ j, V1798 o1748 j = .int 0 := fun j => (congrFun (hV1797 _ (K_old kz1782 hq1793)) j).trans (hz1789 j)
  have kz1807 := hE1795.arr h1773
  have hz1806 : ∀ j, V1798 o1768 j = .int 0 := fun j => (congrFun (hV1797 _ (K_old h1773 hq1793)) j).trans (hz1790 j)
  have h1808 := KE.nw (KE.new (KE.new (KE.new (KE.new (KE.new (KE.new (KE.new (KE.new (KE.new (KE.new (KE.new (KE.new (KE.new (KE.new (KE.new (KE.new (KE.new (KE.new (KE.new (KE.new (KE.new (KE.new (KE.new (KE.new (KE.new (KE.new (KE.new (KE.new (KE.new (KE.new (KE.new (KE.new (KE.new (KE.new (KE.new (KE.new (KE.new (KE.new (KE.new (KE.new (KE.new (KE.new (KE.new (KE.new (KE.new (KE.new (KE.new (KE.new (KE.new (KE.new (KE.new (KE.new (KE.new (KE.new (KE.new (KE.new (KE.new (KE.new (KE.new (KE.new (KE.new (KE.new (KE.new (KE.new (KE.new (KE.new (KE.new (KE.new (KE.new (KE.new (KE.new (KE.new (KE.new (KE.new (KE.new (KE.new (KE.new (KE.new (KE.new (KE.new (KE.new (KE.new (KE.new (KE.new (KE.new (KE.new (KE.new (KE.new (KE.new (KE.new (KE.new (KE.new (KE.new (KE.new (KE.new (KE.new (KE.new (KE.new (KE.new (KE.new (KE.new (KE.new KE.rf hq10 hK11) hq25 hK26) hq40 hK41) hq55 hK56) hq70 hK71) hq85 hK86) hq100 hK101) hq115 hK116) hq130 hK131) hq145 hK146) hq160 hK161) hq175 hK176) hq190 hK191) hq205 hK206) hq220 hK221) hq235 hK236) hq250 hK251) hq265 hK266) hq280 hK281) hq295 hK296) hq310 hK311) hq325 hK326) hq342 hK343) hq360 hK361) hq378 hK379) hq396 hK397) hq414 hK415) hq432 hK433) hq450 hK451) hq468 hK469) hq486 hK487) hq504 hK505) hq522 hK523) hq540 hK541) hq558 hK559) hq576 hK577) hq594 hK595) hq612 hK613) hq630 hK631) hq648 hK649) hq666 hK667) hq684 hK685) hq702 hK703) hq720 hK721) hq738 hK739) hq756 hK757) hq774 hK775) hq792 hK793) hq810 hK811) hq828 hK829) hq846 hK847) hq864 hK865) hq882 hK883) hq900 hK901) hq918 hK919) hq936 hK937) hq954 hK955) hq972 hK973) hq990 hK991) hq1008 hK1009) hq1026 hK1027) hq1044 hK1045) hq1062 hK1063) hq1080 hK1081) hq1098 hK1099) hq1116 hK1117) hq1134 hK1135) hq1152 hK1153) hq1170 hK1171) hq1188 hK1189) hq1206 hK1207) hq1224 hK1225) hq1242 hK1243) hq1260 hK1261) hq1278 hK1279) hq1296 hK1297) hq1314 hK1315) hq1332 hK1333) hq1350 hK1351) hq1368 hK1369) hq1386 hK1387) hq1404 hK1405) hq1422 hK1423) hq1440 hK1441) hq1458 hK1459) hq1476 hK1477) hq1494 hK1495) hq1516 hK1517) hq1534 hK1535) hq1552 hK1553) hq1570 hK1571) hq1588 hK1589) hq1606 hK1607) hq1624 hK1625) hq1642 hK1643) hq1660 hK1661) hq1678 hK1679) hq1696 hK1697) hq1714 hK1715) hq1732 hK1733) hq1750 hK1751) hq1770 hK1771) h1777 hq1793
  clear pf1787 kz1780 hz1788 kz1782 hz1789 hz1790
  refine GO.putRF rfl rfl (by decide +kernel) h1800 fp_raw_fp_RX12_328 rfl rfl dX12_init_874 (fun V1810 e1809 => ?_)
  have pf1811 := PF.put pf1801 e1809 rfl
  have hz1812 : ∀ j, V1810 o323 j = .int 0 := fun j => (uq_ne e1809 (Or.inl (K_ne kz1803 h1800 (by decide)))).trans (hz1802 j)
  have hz1813 : ∀ j, V1810 o1748 j = .int 0 := fun j => (uq_ne e1809 (Or.inl (K_ne kz1805 h1800 (by decide)))).trans (hz1804 j)
  have hz1814 : ∀ j, V1810 o1768 j = .int 0 := fun j => (uq_ne e1809 (Or.inl (K_ne kz1807 h1800 (by decide)))).trans (hz1806 j)
  clear pf1801 hz1802 hz1804 hz1806
  refine GO.aload_n dX12_init_877 rfl rfl ?_
  refine GO.bipush dX12_init_878 rfl ?_
  refine GO.newT (atype := .int) 112 8 gw_89 rfl rfl (fun _ _ h => h) rfl rfl rfl (Or.inr rfl) (fun _ => okv_df rfl rfl rfl) rfl rfl dX12_init_880 (fun o1815 K1816 V1822 hq1817 hK1818 hE1819 h1820 hz1823 hV1821 => ?_)
  have h1824 := (by rw [hK1818, updK_ne (K_old h1800 hq1817)]; exact h1800 : K1816 x = some (0, 23))
  have pf1825 := PF.nw pf1811 hV1821 (K_old h1800 hq1817)
  have kz1827 := hE1819.arr kz1803
  have hz1826 : ∀ j, V1822 o323 j = .int 0 := fun j => (congrFun (hV1821 _ (K_old kz1803 hq1817)) j).trans (hz1812 j)
  have kz1829 := hE1819.arr kz1805
  have hz1828 : ∀ j, V1822 o1748 j = .int 0 := fun j => (congrFun (hV1821 _ (K_old kz1805 hq1817)) j).trans (hz1813 j)
  have kz1831 := hE1819.arr kz1807
  have hz1830 : ∀ j, V1822 o1768 j = .int 0 := fun j => (congrFun (hV1821 _ (K_old kz1807 hq1817)) j).trans (hz1814 j)
  have h1832 := KE.nw (KE.new (KE.new (KE.new (KE.new (KE.new (KE.new (KE.new (KE.new (KE.new (KE.new (KE.new (KE.new (KE.new (KE.new (KE.new (KE.new (KE.new (KE.new (KE.new (KE.new (KE.new (KE.new (KE.new (KE.new (KE.new (KE.new (KE.new (KE.new (KE.new (KE.new (KE.new (KE.new (KE.new (KE.new (KE.new (KE.new (KE.new (KE.new (KE.new (KE.new (KE.new (KE.new (KE.new (KE.new (KE.new (KE.new (KE.new (KE.new (KE.new (KE.new (KE.new (KE.new (KE.new (KE.new (KE.new (KE.new (KE.new (KE.new (KE.new (KE.new (KE.new (KE.new (KE.new (KE.new (KE.new (KE.new (KE.new (KE.new (KE.new (KE.new (KE.new (KE.new (KE.new (KE.new (KE.new (KE.new (KE.new (KE.new (KE.new (KE.new (KE.new (KE.new (KE.new (KE.new (KE.new (KE.new (KE.new (KE.new (KE.new (KE.new (KE.new (KE.new (KE.new (KE.new (KE.new (KE.new (KE.new (KE.new (KE.new (KE.new (KE.new (KE.new (KE.new KE.rf hq10 hK11) hq25 hK26) hq40 hK41) hq55 hK56) hq70 hK71) hq85 hK86) hq100 hK101) hq115 hK116) hq130 hK131) hq145 hK146) hq160 hK161) hq175 hK176) hq190 hK191) hq205 hK206) hq220 hK221) hq235 hK236) hq250 hK251) hq265 hK266) hq280 hK281) hq295 hK296) hq310 hK311) hq325 hK326) hq342 hK343) hq360 hK361) hq378 hK379) hq396 hK397) hq414 hK415) hq432 hK433) hq450 hK451) hq468 hK469) hq486 hK487) hq504 hK505) hq522 hK523) hq540 hK541) hq558 hK559) hq576 hK577) hq594 hK595) hq612 hK613) hq630 hK631) hq648 hK649) hq666 hK667) hq684 hK685) hq702 hK703) hq720 hK721) hq738 hK739) hq756 hK757) hq774 hK775) hq792 hK793) hq810 hK811) hq828 hK829) hq846 hK847) hq864 hK865) hq882 hK883) hq900 hK901) hq918 hK919) hq936 hK937) hq954 hK955) hq972 hK973) hq990 hK991) hq1008 hK1009) hq1026 hK1027) hq1044 hK1045) hq1062 hK1063) hq1080 hK1081) hq1098 hK1099) hq1116 hK1117) hq1134 hK1135) hq1152 hK1153) hq1170 hK1171) hq1188 hK1189) hq1206 hK1207) hq1224 hK1225) hq1242 hK1243) hq1260 hK1261) hq1278 hK1279) hq1296 hK1297) hq1314 hK1315) hq1332 hK1333) hq1350 hK1351) hq1368 hK1369) hq1386 hK1387) hq1404 hK1405) hq1422 hK1423) hq1440 hK1441) hq1458 hK1459) hq1476 hK1477) hq1494 hK1495) hq1516 hK1517) hq1534 hK1535) hq1552 hK1553) hq1570 hK1571) hq1588 hK1589) hq1606 hK1607) hq1624 hK1625) hq1642 hK1643) hq1660 hK1661) hq1678 hK1679) hq1696 hK1697) hq1714 hK1715) hq1732 hK1733) hq1750 hK1751) hq1770 hK1771) hq1793 hK1794) h1800 hq1817
  clear pf1811 kz1803 hz1812 kz1805 hz1813 kz1807 hz1814
  refine GO.putRF rfl rfl (by decide +kernel) h1824 fp_raw_fp_RX12_331 rfl rfl dX12_init_882 (fun V1834 e1833 => ?_)
  have pf1835 := PF.put pf1825 e1833 rfl
  have hz1836 : ∀ j, V1834 o323 j = .int 0 := fun j => (uq_ne e1833 (Or.inl (K_ne kz1827 h1824 (by decide)))).trans (hz1826 j)
  have hz1837 : ∀ j, V1834 o1748 j = .int 0 := fun j => (uq_ne e1833 (Or.inl (K_ne kz1829 h1824 (by decide)))).trans (hz1828 j)
  have hz1838 : ∀ j, V1834 o1768 j = .int 0 := fun j => (uq_ne e1833 (Or.inl (K_ne kz1831 h1824 (by decide)))).trans (hz1830 j)
  clear pf1825 hz1826 hz1828 hz1830
  refine GO.aload_n dX12_init_885 rfl rfl ?_
  refine GO.bipush dX12_init_886 rfl ?_
  refine GO.newT (atype := .int) 113 24 gw_89 rfl rfl (fun _ _ h => h) rfl rfl rfl (Or.inr rfl) (fun _ => okv_df rfl rfl rfl) rfl rfl dX12_init_888 (fun o1839 K1840 V1846 hq1841 hK1842 hE1843 h1844 hz1847 hV1845 => ?_)
  have h1848 := (by rw [hK1842, updK_ne (K_old h1824 hq1841)]; exact h1824 : K1840 x = some (0, 23))
  have pf1849 := PF.nw pf1835 hV1845 (K_old h1824 hq1841)
  have kz1851 := hE1843.arr kz1827
  have hz1850 : ∀ j, V1846 o323 j = .int 0 := fun j => (congrFun (hV1845 _ (K_old kz1827 hq1841)) j).trans (hz1836 j)
  have kz1853 := hE1843.arr kz1829
  have hz1852 : ∀ j, V1846 o1748 j = .int 0 := fun j => (congrFun (hV1845 _ (K_old kz1829 hq1841)) j).trans (hz1837 j)
  have kz1855 := hE1843.arr kz1831
  have hz1854 : ∀ j, V1846 o1768 j = .int 0 := fun j => (congrFun (hV1845 _ (K_old kz1831 hq1841)) j).trans (hz1838 j)
  have h1856 := KE.nw (KE.new (KE.new (KE.new (KE.new (KE.new (KE.new (KE.new (KE.new (KE.new (KE.new (KE.new (KE.new (KE.new (KE.new (KE.new (KE.new (KE.new (KE.new (KE.new (KE.new (KE.new (KE.new (KE.new (KE.new (KE.new (KE.new (KE.new (KE.new (KE.new (KE.new (KE.new (KE.new (KE.new (KE.new (KE.new (KE.new (KE.new (KE.new (KE.new (KE.new (KE.new (KE.new (KE.new (KE.new (KE.new (KE.new (KE.new (KE.new (KE.new (KE.new (KE.new (KE.new (KE.new (KE.new (KE.new (KE.new (KE.new (KE.new (KE.new (KE.new (KE.new (KE.new (KE.new (KE.new (KE.new (KE.new (KE.new (KE.new (KE.new (KE.new (KE.new (KE.new (KE.new (KE.new (KE.new (KE.new (KE.new (KE.new (KE.new (KE.new (KE.new (KE.new (KE.new (KE.new (KE.new (KE.new (KE.new (KE.new (KE.new (KE.new (KE.new (KE.new (KE.new (KE.new (KE.new (KE.new (KE.new (KE.new (KE.new (KE.new (KE.new (KE.new (KE.new (KE.new KE.rf hq10 hK11) hq25 hK26) hq40 hK41) hq55 hK56) hq70 hK71) hq85 hK86) hq100 hK101) hq115 hK116) hq130 hK131) hq145 hK146) hq160 hK161) hq175 hK176) hq190 hK191) hq205 hK206) hq220 hK221) hq235 hK236) hq250 hK251) hq265 hK266) hq280 hK281) hq295 hK296) hq310 hK311) hq325 hK326) hq342 hK343) hq360 hK361) hq378 hK379) hq396 hK397) hq414 hK415) hq432 hK433) hq450 hK451) hq468 hK469) hq486 hK487) hq504 hK505) hq522 hK523) hq540 hK541) hq558 hK559) hq576 hK577) hq594 hK595) hq612 hK613) hq630 hK631) hq648 hK649) hq666 hK667) hq684 hK685) hq702 hK703) hq720 hK721) hq738 hK739) hq756 hK757) hq774 hK775) hq792 hK793) hq810 hK811) hq828 hK829) hq846 hK847) hq864 hK865) hq882 hK883) hq900 hK901) hq918 hK919) hq936 hK937) hq954 hK955) hq972 hK973) hq990 hK991) hq1008 hK1009) hq1026 hK1027) hq1044 hK1045) hq1062 hK1063) hq1080 hK1081) hq1098 hK1099) hq1116 hK1117) hq1134 hK1135) hq1152 hK1153) hq1170 hK1171) hq1188 hK1189) hq1206 hK1207) hq1224 hK1225) hq1242 hK1243) hq1260 hK1261) hq1278 hK1279) hq1296 hK1297) hq1314 hK1315) hq1332 hK1333) hq1350 hK1351) hq1368 hK1369) hq1386 hK1387) hq1404 hK1405) hq1422 hK1423) hq1440 hK1441) hq1458 hK1459) hq1476 hK1477) hq1494 hK1495) hq1516 hK1517) hq1534 hK1535) hq1552 hK1553) hq1570 hK1571) hq1588 hK1589) hq1606 hK1607) hq1624 hK1625) hq1642 hK1643) hq1660 hK1661) hq1678 hK1679) hq1696 hK1697) hq1714 hK1715) hq1732 hK1733) hq1750 hK1751) hq1770 hK1771) hq1793 hK1794) hq1817 hK1818) h1824 hq1841
  clear pf1835 kz1827 hz1836 kz1829 hz1837 kz1831 hz1838
  refine GO.putRF rfl rfl (by decide +kernel) h1848 fp_raw_fp_RX12_334 rfl rfl dX12_init_890 (fun V1858 e1857 => ?_)
  have pf1859 := PF.put pf1849 e1857 rfl
  have hz1860 : ∀ j, V1858 o323 j = .int 0 := fun j => (uq_ne e1857 (Or.inl (K_ne kz1851 h1848 (by decide)))).trans (hz1850 j)
  have hz1861 : ∀ j, V1858 o1748 j = .int 0 := fun j => (uq_ne e1857 (Or.inl (K_ne kz1853 h1848 (by decide)))).trans (hz1852 j)
  have hz1862 : ∀ j, V1858 o1768 j = .int 0 := fun j => (uq_ne e1857 (Or.inl (K_ne kz1855 h1848 (by decide)))).trans (hz1854 j)
  clear pf1849 hz1850 hz1852 hz1854
  refine GO.aload_n dX12_init_893 rfl rfl ?_
  refine GO.bipush dX12_init_894 rfl ?_
  refine GO.newT (atype := .int) 114 24 gw_89 rfl rfl (fun _ _ h => h) rfl rfl rfl (Or.inr rfl) (fun _ => okv_df rfl rfl rfl) rfl rfl dX12_init_896 (fun o1863 K1864 V1870 hq1865 hK1866 hE1867 h1868 hz1871 hV1869 => ?_)
  have h1872 := (by rw [hK1866, updK_ne (K_old h1848 hq1865)]; exact h1848 : K1864 x = some (0, 23))
  have pf1873 := PF.nw pf1859 hV1869 (K_old h1848 hq1865)
  have kz1875 := hE1867.arr kz1851
  have hz1874 : ∀ j, V1870 o323 j = .int 0 := fun j => (congrFun (hV1869 _ (K_old kz1851 hq1865)) j).trans (hz1860 j)
  have kz1877 := hE1867.arr kz1853
  have hz1876 : ∀ j, V1870 o1748 j = .int 0 := fun j => (congrFun (hV1869 _ (K_old kz1853 hq1865)) j).trans (hz1861 j)
  have kz1879 := hE1867.arr kz1855
  have hz1878 : ∀ j, V1870 o1768 j = .int 0 := fun j => (congrFun (hV1869 _ (K_old kz1855 hq1865)) j).trans (hz1862 j)
  have h1880 := KE.nw (KE.new (KE.new (KE.new (KE.new (KE.new (KE.new (KE.new (KE.new (KE.new (KE.new (KE.new (KE.new (KE.new (KE.new (KE.new (KE.new (KE.new (KE.new (KE.new (KE.new (KE.new (KE.new (KE.new (KE.new (KE.new (KE.new (KE.new (KE.new (KE.new (KE.new (KE.new (KE.new (KE.new (KE.new (KE.new (KE.new (KE.new (KE.new (KE.new (KE.new (KE.new (KE.new (KE.new (KE.new (KE.new (KE.new (KE.new (KE.new (KE.new (KE.new (KE.new (KE.new (KE.new (KE.new (KE.new (KE.new (KE.new (KE.new (KE.new (KE.new (KE.new (KE.new (KE.new (KE.new (KE.new (KE.new (KE.new (KE.new (KE.new (KE.new (KE.new (KE.new (KE.new (KE.new (KE.new (KE.new (KE.new (KE.new (KE.new (KE.new (KE.new (KE.new (KE.new (KE.new (KE.new (KE.new (KE.new (KE.new (KE.new (KE.new (KE.new (KE.new (KE.new (KE.new (KE.new (KE.new (KE.new (KE.new (KE.new (KE.new (KE.new (KE.new (KE.new (KE.new (KE.new KE.rf hq10 hK11) hq25 hK26) hq40 hK41) hq55 hK56) hq70 hK71) hq85 hK86) hq100 hK101) hq115 hK116) hq130 hK131) hq145 hK146) hq160 hK161) hq175 hK176) hq190 hK191) hq205 hK206) hq220 hK221) hq235 hK236) hq250 hK251) hq265 hK266) hq280 hK281) hq295 hK296) hq310 hK311) hq325 hK326) hq342 hK343) hq360 hK361) hq378 hK379) hq396 hK397) hq414 hK415) hq432 hK433) hq450 hK451) hq468 hK469) hq486 hK487) hq504 hK505) hq522 hK523) hq540 hK541) hq558 hK559) hq576 hK577) hq594 hK595) hq612 hK613) hq630 hK631) hq648 hK649) hq666 hK667) hq684 hK685) hq702 hK703) hq720 hK721) hq738 hK739) hq756 hK757) hq774 hK775) hq792 hK793) hq810 hK811) hq828 hK829) hq846 hK847) hq864 hK865) hq882 hK883) hq900 hK901) hq918 hK919) hq936 hK937) hq954 hK955) hq972 hK973) hq990 hK991) hq1008 hK1009) hq1026 hK1027) hq1044 hK1045) hq1062 hK1063) hq1080 hK1081) hq1098 hK1099) hq1116 hK1117) hq1134 hK1135) hq1152 hK1153) hq1170 hK1171) hq1188 hK1189) hq1206 hK1207) hq1224 hK1225) hq1242 hK1243) hq1260 hK1261) hq1278 hK1279) hq1296 hK1297) hq1314 hK1315) hq1332 hK1333) hq1350 hK1351) hq1368 hK1369) hq1386 hK1387) hq1404 hK1405) hq1422 hK1423) hq1440 hK1441) hq1458 hK1459) hq1476 hK1477) hq1494 hK1495) hq1516 hK1517) hq1534 hK1535) hq1552 hK1553) hq1570 hK1571) hq1588 hK1589) hq1606 hK1607) hq1624 hK1625) hq1642 hK1643) hq1660 hK1661) hq1678 hK1679) hq1696 hK1697) hq1714 hK1715) hq1732 hK1733) hq1750 hK1751) hq1770 hK1771) hq1793 hK1794) hq1817 hK1818) hq1841 hK1842) h1848 hq1865
  clear pf1859 kz1851 hz1860 kz1853 hz1861 kz1855 hz1862
  refine GO.putRF rfl rfl (by decide +kernel) h1872 fp_raw_fp_RX12_337 rfl rfl dX12_init_898 (fun V1882 e1881 => ?_)
  have pf1883 := PF.put pf1873 e1881 rfl
  have hz1884 : ∀ j, V1882 o323 j = .int 0 := fun j => (uq_ne e1881 (Or.inl (K_ne kz1875 h1872 (by decide)))).trans (hz1874 j)
  have hz1885 : ∀ j, V1882 o1748 j = .int 0 := fun j => (uq_ne e1881 (Or.inl (K_ne kz1877 h1872 (by decide)))).trans (hz1876 j)
  have hz1886 : ∀ j, V1882 o1768 j = .int 0 := fun j => (uq_ne e1881 (Or.inl (K_ne kz1879 h1872 (by decide)))).trans (hz1878 j)
  clear pf1873 hz1874 hz1876 hz1878
  refine GO.aload_n dX12_init_901 rfl rfl ?_
  refine GO.bipush dX12_init_902 rfl ?_
  refine GO.newT (atype := .int) 115 8 gw_89 rfl rfl (fun _ _ h => h) rfl rfl rfl (Or.inr rfl) (fun _ => okv_df rfl rfl rfl) rfl rfl dX12_init_904 (fun o1887 K1888 V1894 hq1889 hK1890 hE1891 h1892 hz1895 hV1893 => ?_)
  have h1896 := (by rw [hK1890, updK_ne (K_old h1872 hq1889)]; exact h1872 : K1888 x = some (0, 23))
  have pf1897 := PF.nw pf1883 hV1893 (K_old h1872 hq1889)
  have kz1899 := hE1891.arr kz1875
  have hz1898 : ∀ j, V1894 o323 j = .int 0 := fun j => (congrFun (hV1893 _ (K_old kz1875 hq1889)) j).trans (hz1884 j)
  have kz1901 := hE1891.arr kz1877
  have hz1900 : ∀ j, V1894 o1748 j = .int 0 := fun j => (congrFun (hV1893 _ (K_old kz1877 hq1889)) j).trans (hz1885 j)
  have kz1903 := hE1891.arr kz1879
  have hz1902 : ∀ j, V1894 o1768 j = .int 0 := fun j => (congrFun (hV1893 _ (K_old kz1879 hq1889)) j).trans (hz1886 j)
  have h1904 := KE.nw (KE.new (KE.new (KE.new (KE.new (KE.new (KE.new (KE.new (KE.new (KE.new (KE.new (KE.new (KE.new (KE.new (KE.new (KE.new (KE.new (KE.new (KE.new (KE.new (KE.new (KE.new (KE.new (KE.new (KE.new (KE.new (KE.new (KE.new (KE.new (KE.new (KE.new (KE.new (KE.new (KE.new (KE.new (KE.new (KE.new (KE.new (KE.new (KE.new (KE.new (KE.new (KE.new (KE.new (KE.new (KE.new (KE.new (KE.new (KE.new (KE.new (KE.new (KE.new (KE.new (KE.new (KE.new (KE.new (KE.new (KE.new (KE.new (KE.new (KE.new (KE.new (KE.new (KE.new (KE.new (KE.new (KE.new (KE.new (KE.new (KE.new (KE.new (KE.new (KE.new (KE.new (KE.new (KE.new (KE.new (KE.new (KE.new (KE.new (KE.new (KE.new (KE.new (KE.new (KE.new (KE.new (KE.new (KE.new (KE.new (KE.new (KE.new (KE.new (KE.new (KE.new (KE.new (KE.new (KE.new (KE.new (KE.new (KE.new (KE.new (KE.new (KE.new (KE.new (KE.new (KE.new (KE.new KE.rf hq10 hK11) hq25 hK26) hq40 hK41) hq55 hK56) hq70 hK71) hq85 hK86) hq100 hK101) hq115 hK116) hq130 hK131) hq145 hK146) hq160 hK161) hq175 hK176) hq190 hK191) hq205 hK206) hq220 hK221) hq235 hK236) hq250 hK251) hq265 hK266) hq280 hK281) hq295 hK296) hq310 hK311) hq325 hK326) hq342 hK343) hq360 hK361) hq378 hK379) hq396 hK397) hq414 hK415) hq432 hK433) hq450 hK451) hq468 hK469) hq486 hK487) hq504 hK505) hq522 hK523) hq540 hK541) hq558 hK559) hq576 hK577) hq594 hK595) hq612 hK613) hq630 hK631) hq648 hK649) hq666 hK667) hq684 hK685) hq702 hK703) hq720 hK721) hq738 hK739) hq756 hK757) hq774 hK775) hq792 hK793) hq810 hK811) hq828 hK829) hq846 hK847) hq864 hK865) hq882 hK883) hq900 hK901) hq918 hK919) hq936 hK937) hq954 hK955) hq972 hK973) hq990 hK991) hq1008 hK1009) hq1026 hK1027) hq1044 hK1045) hq1062 hK1063) hq1080 hK1081) hq1098 hK1099) hq1116 hK1117) hq1134 hK1135) hq1152 hK1153) hq1170 hK1171) hq1188 hK1189) hq1206 hK1207) hq1224 hK1225) hq1242 hK1243) hq1260 hK1261) hq1278 hK1279) hq1296 hK1297) hq1314 hK1315) hq1332 hK1333) hq1350 hK1351) hq1368 hK1369) hq1386 hK1387) hq1404 hK1405) hq1422 hK1423) hq1440 hK1441) hq1458 hK1459) hq1476 hK1477) hq1494 hK1495) hq1516 hK1517) hq1534 hK1535) hq1552 hK1553) hq1570 hK1571) hq1588 hK1589) hq1606 hK1607) hq1624 hK1625) hq1642 hK1643) hq1660 hK1661) hq1678 hK1679) hq1696 hK1697) hq1714 hK1715) hq1732 hK1733) hq1750 hK1751) hq1770 hK1771) hq1793 hK1794) hq1817 hK1818) hq1841 hK1842) hq1865 hK1866) h1872 hq1889
  clear pf1883 kz1875 hz1884 kz1877 hz1885 kz1879 hz1886
  refine GO.putRF rfl rfl (by decide +kernel) h1896 fp_raw_fp_RX12_340 rfl rfl dX12_init_906 (fun V1906 e1905 => ?_)
  have pf1907 := PF.put pf1897 e1905 rfl
  have hz1908 : ∀ j, V1906 o323 j = .int 0 := fun j => (uq_ne e1905 (Or.inl (K_ne kz1899 h1896 (by decide)))).trans (hz1898 j)
  have hz1909 : ∀ j, V1906 o1748 j = .int 0 := fun j => (uq_ne e1905 (Or.inl (K_ne kz1901 h1896 (by decide)))).trans (hz1900 j)
  have hz1910 : ∀ j, V1906 o1768 j = .int 0 := fun j => (uq_ne e1905 (Or.inl (K_ne kz1903 h1896 (by decide)))).trans (hz1902 j)
  clear pf1897 hz1898 hz1900 hz1902
  refine GO.aload_n dX12_init_909 rfl rfl ?_
  refine GO.bipush dX12_init_910 rfl ?_
  refine GO.newT (atype := .int) 116 8 gw_89 rfl rfl (fun _ _ h => h) rfl rfl rfl (Or.inr rfl) (fun _ => okv_df rfl rfl rfl) rfl rfl dX12_init_912 (fun o1911 K1912 V1918 hq1913 hK1914 hE1915 h1916 hz1919 hV1917 => ?_)
  have h1920 := (by rw [hK1914, updK_ne (K_old h1896 hq1913)]; exact h1896 : K1912 x = some (0, 23))
  have pf1921 := PF.nw pf1907 hV1917 (K_old h1896 hq1913)
  have kz1923 := hE1915.arr kz1899
  have hz1922 : ∀ j, V1918 o323 j = .int 0 := fun j => (congrFun (hV1917 _ (K_old kz1899 hq1913)) j).trans (hz1908 j)
  have kz1925 := hE1915.arr kz1901
  have hz1924 : ∀ j, V1918 o1748 j = .int 0 := fun j => (congrFun (hV1917 _ (K_old kz1901 hq1913)) j).trans (hz1909 j)
  have kz1927 := hE1915.arr kz1903
  have hz1926 : ∀ j, V1918 o1768 j = .int 0 := fun j => (congrFun (hV1917 _ (K_old kz1903 hq1913)) j).trans (hz1910 j)
  have h1928 := KE.nw (KE.new (KE.new (KE.new (KE.new (KE.new (KE.new (KE.new (KE.new (KE.new (KE.new (KE.new (KE.new (KE.new (KE.new (KE.new (KE.new (KE.new (KE.new (KE.new (KE.new (KE.new (KE.new (KE.new (KE.new (KE.new (KE.new (KE.new (KE.new (KE.new (KE.new (KE.new (KE.new (KE.new (KE.new (KE.new (KE.new (KE.new (KE.new (KE.new (KE.new (KE.new (KE.new (KE.new (KE.new (KE.new (KE.new (KE.new (KE.new (KE.new (KE.new (KE.new (KE.new (KE.new (KE.new (KE.new (KE.new (KE.new (KE.new (KE.new (KE.new (KE.new (KE.new (KE.new (KE.new (KE.new (KE.new (KE.new (KE.new (KE.new (KE.new (KE.new (KE.new (KE.new (KE.new (KE.new (KE.new (KE.new (KE.new (KE.new (KE.new (KE.new (KE.new (KE.new (KE.new (KE.new (KE.new (KE.new (KE.new (KE.new (KE.new (KE.new (KE.new (KE.new (KE.new (KE.new (KE.new (KE.new (KE.new (KE.new (KE.new (KE.new (KE.new (KE.new (KE.new (KE.new (KE.new (KE.new KE.rf hq10 hK11) hq25 hK26) hq40 hK41) hq55 hK56) hq70 hK71) hq85 hK86) hq100 hK101) hq115 hK116) hq130 hK131) hq145 hK146) hq160 hK161) hq175 hK176) hq190 hK191) hq205 hK206) hq220 hK221) hq235 hK236) hq250 hK251) hq265 hK266) hq280 hK281) hq295 hK296) hq310 hK311) hq325 hK326) hq342 hK343) hq360 hK361) hq378 hK379) hq396 hK397) hq414 hK415) hq432 hK433) hq450 hK451) hq468 hK469) hq486 hK487) hq504 hK505) hq522 hK523) hq540 hK541) hq558 hK559) hq576 hK577) hq594 hK595) hq612 hK613) hq630 hK631) hq648 hK649) hq666 hK667) hq684 hK685) hq702 hK703) hq720 hK721) hq738 hK739) hq756 hK757) hq774 hK775) hq792 hK793) hq810 hK811) hq828 hK829) hq846 hK847) hq864 hK865) hq882 hK883) hq900 hK901) hq918 hK919) hq936 hK937) hq954 hK955) hq972 hK973) hq990 hK991) hq1008 hK1009) hq1026 hK1027) hq1044 hK1045) hq1062 hK1063) hq1080 hK1081) hq1098 hK1099) hq1116 hK1117) hq1134 hK1135) hq1152 hK1153) hq1170 hK1171) hq1188 hK1189) hq1206 hK1207) hq1224 hK1225) hq1242 hK1243) hq1260 hK1261) hq1278 hK1279) hq1296 hK1297) hq1314 hK1315) hq1332 hK1333) hq1350 hK1351) hq1368 hK1369) hq1386 hK1387) hq1404 hK1405) hq1422 hK1423) hq1440 hK1441) hq1458 hK1459) hq1476 hK1477) hq1494 hK1495) hq1516 hK1517) hq1534 hK1535) hq1552 hK1553) hq1570 hK1571) hq1588 hK1589) hq1606 hK1607) hq1624 hK1625) hq1642 hK1643) hq1660 hK1661) hq1678 hK1679) hq1696 hK1697) hq1714 hK1715) hq1732 hK1733) hq1750 hK1751) hq1770 hK1771) hq1793 hK1794) hq1817 hK1818) hq1841 hK1842) hq1865 hK1866) hq1889 hK1890) h1896 hq1913
  clear pf1907 kz1899 hz1908 kz1901 hz1909 kz1903 hz1910
  refine GO.putRF rfl rfl (by decide +kernel) h1920 fp_raw_fp_RX12_343 rfl rfl dX12_init_914 (fun V1930 e1929 => ?_)
  have pf1931 := PF.put pf1921 e1929 rfl
  have hz1932 : ∀ j, V1930 o323 j = .int 0 := fun j => (uq_ne e1929 (Or.inl (K_ne kz1923 h1920 (by decide)))).trans (hz1922 j)
  have hz1933 : ∀ j, V1930 o1748 j = .int 0 := fun j => (uq_ne e1929 (Or.inl (K_ne kz1925 h1920 (by decide)))).trans (hz1924 j)
  have hz1934 : ∀ j, V1930 o1768 j = .int 0 := fun j => (uq_ne e1929 (Or.inl (K_ne kz1927 h1920 (by decide)))).trans (hz1926 j)
  clear pf1921 hz1922 hz1924 hz1926
  refine GO.aload_n dX12_init_917 rfl rfl ?_
  refine GO.sipush dX12_init_918 rfl ?_
  refine GO.newT (atype := .int) 117 200 gw_89 rfl rfl (fun _ _ h => h) rfl rfl rfl (Or.inr rfl) (fun _ => okv_df rfl rfl rfl) rfl rfl dX12_init_921 (fun o1935 K1936 V1942 hq1937 hK1938 hE1939 h1940 hz1943 hV1941 => ?_)
  have h1944 := (by rw [hK1938, updK_ne (K_old h1920 hq1937)]; exact h1920 : K1936 x = some (0, 23))
  have pf1945 := PF.nw pf1931 hV1941 (K_old h1920 hq1937)
  have kz1947 := hE1939.arr kz1923
  have hz1946 : ∀ j, V1942 o323 j = .int 0 := fun j => (congrFun (hV1941 _ (K_old kz1923 hq1937)) j).trans (hz1932 j)
  have kz1949 := hE1939.arr kz1925
  have hz1948 : ∀ j, V1942 o1748 j = .int 0 := fun j => (congrFun (hV1941 _ (K_old kz1925 hq1937)) j).trans (hz1933 j)
  have kz1951 := hE1939.arr kz1927
  have hz1950 : ∀ j, V1942 o1768 j = .int 0 := fun j => (congrFun (hV1941 _ (K_old kz1927 hq1937)) j).trans (hz1934 j)
  have h1952 := KE.nw (KE.new (KE.new (KE.new (KE.new (KE.new (KE.new (KE.new (KE.new (KE.new (KE.new (KE.new (KE.new (KE.new (KE.new (KE.new (KE.new (KE.new (KE.new (KE.new (KE.new (KE.new (KE.new (KE.new (KE.new (KE.new (KE.new (KE.new (KE.new (KE.new (KE.new (KE.new (KE.new (KE.new (KE.new (KE.new (KE.new (KE.new (KE.new (KE.new (KE.new (KE.new (KE.new (KE.new (KE.new (KE.new (KE.new (KE.new (KE.new (KE.new (KE.new (KE.new (KE.new (KE.new (KE.new (KE.new (KE.new (KE.new (KE.new (KE.new (KE.new (KE.new (KE.new (KE.new (KE.new (KE.new (KE.new (KE.new (KE.new (KE.new (KE.new (KE.new (KE.new (KE.new (KE.new (KE.new (KE.new (KE.new (KE.new (KE.new (KE.new (KE.new (KE.new (KE.new (KE.new (KE.new (KE.new (KE.new (KE.new (KE.new (KE.new (KE.new (KE.new (KE.new (KE.new (KE.new (KE.new (KE.new (KE.new (KE.new (KE.new (KE.new (KE.new (KE.new (KE.new (KE.new (KE.new (KE.new (KE.new KE.rf hq10 hK11) hq25 hK26) hq40 hK41) hq55 hK56) hq70 hK71) hq85 hK86) hq100 hK101) hq115 hK116) hq130 hK131) hq145 hK146) hq160 hK161) hq175 hK176) hq190 hK191) hq205 hK206) hq220 hK221) hq235 hK236) hq250 hK251) hq265 hK266) hq280 hK281) hq295 hK296) hq310 hK311) hq325 hK326) hq342 hK343) hq360 hK361) hq378 hK379) hq396 hK397) hq414 hK415) hq432 hK433) hq450 hK451) hq468 hK469) hq486 hK487) hq504 hK505) hq522 hK523) hq540 hK541) hq558 hK559) hq576 hK577) hq594 hK595) hq612 hK613) hq630 hK631) hq648 hK649) hq666 hK667) hq684 hK685) hq702 hK703) hq720 hK721) hq738 hK739) hq756 hK757) hq774 hK775) hq792 hK793) hq810 hK811) hq828 hK829) hq846 hK847) hq864 hK865) hq882 hK883) hq900 hK901) hq918 hK919) hq936 hK937) hq954 hK955) hq972 hK973) hq990 hK991) hq1008 hK1009) hq1026 hK1027) hq1044 hK1045) hq1062 hK1063) hq1080 hK1081) hq1098 hK1099) hq1116 hK1117) hq1134 hK1135) hq1152 hK1153) hq1170 hK1171) hq1188 hK1189) hq1206 hK1207) hq1224 hK1225) hq1242 hK1243) hq1260 hK1261) hq1278 hK1279) hq1296 hK1297) hq1314 hK1315) hq1332 hK1333) hq1350 hK1351) hq1368 hK1369) hq1386 hK1387) hq1404 hK1405) hq1422 hK1423) hq1440 hK1441) hq1458 hK1459) hq1476 hK1477) hq1494 hK1495) hq1516 hK1517) hq1534 hK1535) hq1552 hK1553) hq1570 hK1571) hq1588 hK1589) hq1606 hK1607) hq1624 hK1625) hq1642 hK1643) hq1660 hK1661) hq1678 hK1679) hq1696 hK1697) hq1714 hK1715) hq1732 hK1733) hq1750 hK1751) hq1770 hK1771) hq1793 hK1794) hq1817 hK1818) hq1841 hK1842) hq1865 hK1866) hq1889 hK1890) hq1913 hK1914) h1920 hq1937
  clear pf1931 kz1923 hz1932 kz1925 hz1933 kz1927 hz1934
  refine GO.putRF rfl rfl (by decide +kernel) h1944 fp_raw_fp_RX12_346 rfl rfl dX12_init_923 (fun V1954 e1953 => ?_)
  have pf1955 := PF.put pf1945 e1953 rfl
  have hz1956 : ∀ j, V1954 o323 j = .int 0 := fun j => (uq_ne e1953 (Or.inl (K_ne kz1947 h1944 (by decide)))).trans (hz1946 j)
  have hz1957 : ∀ j, V1954 o1748 j = .int 0 := fun j => (uq_ne e1953 (Or.inl (K_ne kz1949 h1944 (by decide)))).trans (hz1948 j)
  have hz1958 : ∀ j, V1954 o1768 j = .int 0 := fun j => (uq_ne e1953 (Or.inl (K_ne kz1951 h1944 (by decide)))).trans (hz1950 j)
  clear pf1945 hz1946 hz1948 hz1950
  refine GO.aload_n dX12_init_926 rfl rfl ?_
  refine GO.sipush dX12_init_927 rfl ?_
  refine GO.newT (atype := .int) 118 200 gw_89 rfl rfl (fun _ _ h => h) rfl rfl rfl (Or.inr rfl) (fun _ => okv_df rfl rfl rfl) rfl rfl dX12_init_930 (fun o1959 K1960 V1966 hq1961 hK1962 hE1963 h1964 hz1967 hV1965 => ?_)
  have h1968 := (by rw [hK1962, updK_ne (K_old h1944 hq1961)]; exact h1944 : K1960 x = some (0, 23))
  have pf1969 := PF.nw pf1955 hV1965 (K_old h1944 hq1961)
  have kz1971 := hE1963.arr kz1947
  have hz1970 : ∀ j, V1966 o323 j = .int 0 := fun j => (congrFun (hV1965 _ (K_old kz1947 hq1961)) j).trans (hz1956 j)
  have kz1973 := hE1963.arr kz1949
  have hz1972 : ∀ j, V1966 o1748 j = .int 0 := fun j => (congrFun (hV1965 _ (K_old kz1949 hq1961)) j).trans (hz1957 j)
  have kz1975 := hE1963.arr kz1951
  have hz1974 : ∀ j, V1966 o1768 j = .int 0 := fun j => (congrFun (hV1965 _ (K_old kz1951 hq1961)) j).trans (hz1958 j)
  have h1976 := KE.nw (KE.new (KE.new (KE.new (KE.new (KE.new (KE.new (KE.new (KE.new (KE.new (KE.new (KE.new (KE.new (KE.new (KE.new (KE.new (KE.new (KE.new (KE.new (KE.new (KE.new (KE.new (KE.new (KE.new (KE.new (KE.new (KE.new (KE.new (KE.new (KE.new (KE.new (KE.new (KE.new (KE.new (KE.new (KE.new (KE.new (KE.new (KE.new (KE.new (KE.new (KE.new (KE.new (KE.new (KE.new (KE.new (KE.new (KE.new (KE.new (KE.new (KE.new (KE.new (KE.new (KE.new (KE.new (KE.new (KE.new (KE.new (KE.new (KE.new (KE.new (KE.new (KE.new (KE.new (KE.new (KE.new (KE.new (KE.new (KE.new (KE.new (KE.new (KE.new (KE.new (KE.new (KE.new (KE.new (KE.new (KE.new (KE.new (KE.new (KE.new (KE.new (KE.new (KE.new (KE.new (KE.new (KE.new (KE.new (KE.new (KE.new (KE.new (KE.new (KE.new (KE.new (KE.new (KE.new (KE.new (KE.new (KE.new (KE.new (KE.new (KE.new (KE.new (KE.new (KE.new (KE.new (KE.new (KE.new (KE.new (KE.new KE.rf hq10 hK11) hq25 hK26) hq40 hK41) hq55 hK56) hq70 hK71) hq85 hK86) hq100 hK101) hq115 hK116) hq130 hK131) hq145 hK146) hq160 hK161) hq175 hK176) hq190 hK191) hq205 hK206) hq220 hK221) hq235 hK236) hq250 hK251) hq265 hK266) hq280 hK281) hq295 hK296) hq310 hK311) hq325 hK326) hq342 hK343) hq360 hK361) hq378 hK379) hq396 hK397) hq414 hK415) hq432 hK433) hq450 hK451) hq468 hK469) hq486 hK487) hq504 hK505) hq522 hK523) hq540 hK541) hq558 hK559) hq576 hK577) hq594 hK595) hq612 hK613) hq630 hK631) hq648 hK649) hq666 hK667) hq684 hK685) hq702 hK703) hq720 hK721) hq738 hK739) hq756 hK757) hq774 hK775) hq792 hK793) hq810 hK811) hq828 hK829) hq846 hK847) hq864 hK865) hq882 hK883) hq900 hK901) hq918 hK919) hq936 hK937) hq954 hK955) hq972 hK973) hq990 hK991) hq1008 hK1009) hq1026 hK1027) hq1044 hK1045) hq1062 hK1063) hq1080 hK1081) hq1098 hK1099) hq1116 hK1117) hq1134 hK1135) hq1152 hK1153) hq1170 hK1171) hq1188 hK1189) hq1206 hK1207) hq1224 hK1225) hq1242 hK1243) hq1260 hK1261) hq1278 hK1279) hq1296 hK1297) hq1314 hK1315) hq1332 hK1333) hq1350 hK1351) hq1368 hK1369) hq1386 hK1387) hq1404 hK1405) hq1422 hK1423) hq1440 hK1441) hq1458 hK1459) hq1476 hK1477) hq1494 hK1495) hq1516 hK1517) hq1534 hK1535) hq1552 hK1553) hq1570 hK1571) hq1588 hK1589) hq1606 hK1607) hq1624 hK1625) hq1642 hK1643) hq1660 hK1661) hq1678 hK1679) hq1696 hK1697) hq1714 hK1715) hq1732 hK1733) hq1750 hK1751) hq1770 hK1771) hq1793 hK1794) hq1817 hK1818) hq1841 hK1842) hq1865 hK1866) hq1889 hK1890) hq1913 hK1914) hq1937 hK1938) h1944 hq1961
  clear pf1955 kz1947 hz1956 kz1949 hz1957 kz1951 hz1958
  refine GO.putRF rfl rfl (by decide +kernel) h1968 fp_raw_fp_RX12_349 rfl rfl dX12_init_932 (fun V1978 e1977 => ?_)
  have pf1979 := PF.put pf1969 e1977 rfl
  have hz1980 : ∀ j, V1978 o323 j = .int 0 := fun j => (uq_ne e1977 (Or.inl (K_ne kz1971 h1968 (by decide)))).trans (hz1970 j)
  have hz1981 : ∀ j, V1978 o1748 j = .int 0 := fun j => (uq_ne e1977 (Or.inl (K_ne kz1973 h1968 (by decide)))).trans (hz1972 j)
  have hz1982 : ∀ j, V1978 o1768 j = .int 0 := fun j => (uq_ne e1977 (Or.inl (K_ne kz1975 h1968 (by decide)))).trans (hz1974 j)
  clear pf1969 hz1970 hz1972 hz1974
  refine GO.aload_n dX12_init_935 rfl rfl ?_
  refine GO.sipush dX12_init_936 rfl ?_
  refine GO.newT (atype := .int) 119 200 gw_89 rfl rfl (fun _ _ h => h) rfl rfl rfl (Or.inr rfl) (fun _ => okv_df rfl rfl rfl) rfl rfl dX12_init_939 (fun o1983 K1984 V1990 hq1985 hK1986 hE1987 h1988 hz1991 hV1989 => ?_)
  have h1992 := (by rw [hK1986, updK_ne (K_old h1968 hq1985)]; exact h1968 : K1984 x = some (0, 23))
  have pf1993 := PF.nw pf1979 hV1989 (K_old h1968 hq1985)
  have kz1995 := hE1987.arr kz1971
  have hz1994 : ∀ j, V1990 o323 j = .int 0 := fun j => (congrFun (hV1989 _ (K_old kz1971 hq1985)) j).trans (hz1980 j)
  have kz1997 := hE1987.arr kz1973
  have hz1996 : ∀ j, V1990 o1748 j = .int 0 := fun j => (congrFun (hV1989 _ (K_old kz1973 hq1985)) j).trans (hz1981 j)
  have kz1999 := hE1987.arr kz1975
  have hz1998 : ∀ j, V1990 o1768 j = .int 0 := fun j => (congrFun (hV1989 _ (K_old kz1975 hq1985)) j).trans (hz1982 j)
  have h2000 := KE.nw (KE.new (KE.new (KE.new (KE.new (KE.new (KE.new (KE.new (KE.new (KE.new (KE.new (KE.new (KE.new (KE.new (KE.new (KE.new (KE.new (KE.new (KE.new (KE.new (KE.new (KE.new (KE.new (KE.new (KE.new (KE.new (KE.new (KE.new (KE.new (KE.new (KE.new (KE.new (KE.new (KE.new (KE.new (KE.new (KE.new (KE.new (KE.new (KE.new (KE.new (KE.new (KE.new (KE.new (KE.new (KE.new (KE.new (KE.new (KE.new (KE.new (KE.new (KE.new (KE.new (KE.new (KE.new (KE.new (KE.new (KE.new (KE.new (KE.new (KE.new (KE.new (KE.new (KE.new (KE.new (KE.new (KE.new (KE.new (KE.new (KE.new (KE.new (KE.new (KE.new (KE.new (KE.new (KE.new (KE.new (KE.new (KE.new (KE.new (KE.new (KE.new (KE.new (KE.new (KE.new (KE.new (KE.new (KE.new (KE.new (KE.new (KE.new (KE.new (KE.new (KE.new (KE.new (KE.new (KE.new (KE.new (KE.new (KE.new (KE.new (KE.new (KE.new (KE.new (KE.new (KE.new (KE.new (KE.new (KE.new (KE.new (KE.new KE.rf hq10 hK11) hq25 hK26) hq40 hK41) hq55 hK56) hq70 hK71) hq85 hK86) hq100 hK101) hq115 hK116) hq130 hK131) hq145 hK146) hq160 hK161) hq175 hK176) hq190 hK191) hq205 hK206) hq220 hK221) hq235 hK236) hq250 hK251) hq265 hK266) hq280 hK281) hq295 hK296) hq310 hK311) hq325 hK326) hq342 hK343) hq360 hK361) hq378 hK379) hq396 hK397) hq414 hK415) hq432 hK433) hq450 hK451) hq468 hK469) hq486 hK487) hq504 hK505) hq522 hK523) hq540 hK541) hq558 hK559) hq576 hK577) hq594 hK595) hq612 hK613) hq630 hK631) hq648 hK649) hq666 hK667) hq684 hK685) hq702 hK703) hq720 hK721) hq738 hK739) hq756 hK757) hq774 hK775) hq792 hK793) hq810 hK811) hq828 hK829) hq846 hK847) hq864 hK865) hq882 hK883) hq900 hK901) hq918 hK919) hq936 hK937) hq954 hK955) hq972 hK973) hq990 hK991) hq1008 hK1009) hq1026 hK1027) hq1044 hK1045) hq1062 hK1063) hq1080 hK1081) hq1098 hK1099) hq1116 hK1117) hq1134 hK1135) hq1152 hK1153) hq1170 hK1171) hq1188 hK1189) hq1206 hK1207) hq1224 hK1225) hq1242 hK1243) hq1260 hK1261) hq1278 hK1279) hq1296 hK1297) hq1314 hK1315) hq1332 hK1333) hq1350 hK1351) hq1368 hK1369) hq1386 hK1387) hq1404 hK1405) hq1422 hK1423) hq1440 hK1441) hq1458 hK1459) hq1476 hK1477) hq1494 hK1495) hq1516 hK1517) hq1534 hK1535) hq1552 hK1553) hq1570 hK1571) hq1588 hK1589) hq1606 hK1607) hq1624 hK1625) hq1642 hK1643) hq1660 hK1661) hq1678 hK1679) hq1696 hK1697) hq1714 hK1715) hq1732 hK1733) hq1750 hK1751) hq1770 hK1771) hq1793 hK1794) hq1817 hK1818) hq1841 hK1842) hq1865 hK1866) hq1889 hK1890) hq1913 hK1914) hq1937 hK1938) hq1961 hK1962) h1968 hq1985
  clear pf1979 kz1971 hz1980 kz1973 hz1981 kz1975 hz1982
  refine GO.putRF rfl rfl (by decide +kernel) h1992 fp_raw_fp_RX12_352 rfl rfl dX12_init_941 (fun V2002 e2001 => ?_)
  have pf2003 := PF.put pf1993 e2001 rfl
  have hz2004 : ∀ j, V2002 o323 j = .int 0 := fun j => (uq_ne e2001 (Or.inl (K_ne kz1995 h1992 (by decide)))).trans (hz1994 j)
  have hz2005 : ∀ j, V2002 o1748 j = .int 0 := fun j => (uq_ne e2001 (Or.inl (K_ne kz1997 h1992 (by decide)))).trans (hz1996 j)
  have hz2006 : ∀ j, V2002 o1768 j = .int 0 := fun j => (uq_ne e2001 (Or.inl (K_ne kz1999 h1992 (by decide)))).trans (hz1998 j)
  clear pf1993 hz1994 hz1996 hz1998
  refine GO.aload_n dX12_init_944 rfl rfl ?_
  refine GO.sipush dX12_init_945 rfl ?_
  refine GO.newT (atype := .int) 120 200 gw_89 rfl rfl (fun _ _ h => h) rfl rfl rfl (Or.inr rfl) (fun _ => okv_df rfl rfl rfl) rfl rfl dX12_init_948 (fun o2007 K2008 V2014 hq2009 hK2010 hE2011 h2012 hz2015 hV2013 => ?_)
  have h2016 := (by rw [hK2010, updK_ne (K_old h1992 hq2009)]; exact h1992 : K2008 x = some (0, 23))
  have pf2017 := PF.nw pf2003 hV2013 (K_old h1992 hq2009)
  have kz2019 := hE2011.arr kz1995
  have hz2018 : ∀ j, V2014 o323 j = .int 0 := fun j => (congrFun (hV2013 _ (K_old kz1995 hq2009)) j).trans (hz2004 j)
  have kz2021 := hE2011.arr kz1997
  have hz2020 : ∀ j, V2014 o1748 j = .int 0 := fun j => (congrFun (hV2013 _ (K_old kz1997 hq2009)) j).trans (hz2005 j)
  have kz2023 := hE2011.arr kz1999
  have hz2022 : ∀ j, V2014 o1768 j = .int 0 := fun j => (congrFun (hV2013 _ (K_old kz1999 hq2009)) j).trans (hz2006 j)
  have h2024 := KE.nw (KE.new (KE.new (KE.new (KE.new (KE.new (KE.new (KE.new (KE.new (KE.new (KE.new (KE.new (KE.new (KE.new (KE.new (KE.new (KE.new (KE.new (KE.new (KE.new (KE.new (KE.new (KE.new (KE.new (KE.new (KE.new (KE.new (KE.new (KE.new (KE.new (KE.new (KE.new (KE.new (KE.new (KE.new (KE.new (KE.new (KE.new (KE.new (KE.new (KE.new (KE.new (KE.new (KE.new (KE.new (KE.new (KE.new (KE.new (KE.new (KE.new (KE.new (KE.new (KE.new (KE.new (KE.new (KE.new (KE.new (KE.new (KE.new (KE.new (KE.new (KE.new (KE.new (KE.new (KE.new (KE.new (KE.new (KE.new (KE.new (KE.new (KE.new (KE.new (KE.new (KE.new (KE.new (KE.new (KE.new (KE.new (KE.new (KE.new (KE.new (KE.new (KE.new (KE.new (KE.new (KE.new (KE.new (KE.new (KE.new (KE.new (KE.new (KE.new (KE.new (KE.new (KE.new (KE.new (KE.new (KE.new (KE.new (KE.new (KE.new (KE.new (KE.new (KE.new (KE.new (KE.new (KE.new (KE.new (KE.new (KE.new (KE.new (KE.new KE.rf hq10 hK11) hq25 hK26) hq40 hK41) hq55 hK56) hq70 hK71) hq85 hK86) hq100 hK101) hq115 hK116) hq130 hK131) hq145 hK146) hq160 hK161) hq175 hK176) hq190 hK191) hq205 hK206) hq220 hK221) hq235 hK236) hq250 hK251) hq265 hK266) hq280 hK281) hq295 hK296) hq310 hK311) hq325 hK326) hq342 hK343) hq360 hK361) hq378 hK379) hq396 hK397) hq414 hK415) hq432 hK433) hq450 hK451) hq468 hK469) hq486 hK487) hq504 hK505) hq522 hK523) hq540 hK541) hq558 hK559) hq576 hK577) hq594 hK595) hq612 hK613) hq630 hK631) hq648 hK649) hq666 hK667) hq684 hK685) hq702 hK703) hq720 hK721) hq738 hK739) hq756 hK757) hq774 hK775) hq792 hK793) hq810 hK811) hq828 hK829) hq846 hK847) hq864 hK865) hq882 hK883) hq900 hK901) hq918 hK919) hq936 hK937) hq954 hK955) hq972 hK973) hq990 hK991) hq1008 hK1009) hq1026 hK1027) hq1044 hK1045) hq1062 hK1063) hq1080 hK1081) hq1098 hK1099) hq1116 hK1117) hq1134 hK1135) hq1152 hK1153) hq1170 hK1171) hq1188 hK1189) hq1206 hK1207) hq1224 hK1225) hq1242 hK1243) hq1260 hK1261) hq1278 hK1279) hq1296 hK1297) hq1314 hK1315) hq1332 hK1333) hq1350 hK1351) hq1368 hK1369) hq1386 hK1387) hq1404 hK1405) hq1422 hK1423) hq1440 hK1441) hq1458 hK1459) hq1476 hK1477) hq1494 hK1495) hq1516 hK1517) hq1534 hK1535) hq1552 hK1553) hq1570 hK1571) hq1588 hK1589) hq1606 hK1607) hq1624 hK1625) hq1642 hK1643) hq1660 hK1661) hq1678 hK1679) hq1696 hK1697) hq1714 hK1715) hq1732 hK1733) hq1750 hK1751) hq1770 hK1771) hq1793 hK1794) hq1817 hK1818) hq1841 hK1842) hq1865 hK1866) hq1889 hK1890) hq1913 hK1914) hq1937 hK1938) hq1961 hK1962) hq1985 hK1986) h1992 hq2009
  clear pf2003 kz1995 hz2004 kz1997 hz2005 kz1999 hz2006
  refine GO.putRF rfl rfl (by decide +kernel) h2016 fp_raw_fp_RX12_355 rfl rfl dX12_init_950 (fun V2026 e2025 => ?_)
  have pf2027 := PF.put pf2017 e2025 rfl
  have hz2028 : ∀ j, V2026 o323 j = .int 0 := fun j => (uq_ne e2025 (Or.inl (K_ne kz2019 h2016 (by decide)))).trans (hz2018 j)
  have hz2029 : ∀ j, V2026 o1748 j = .int 0 := fun j => (uq_ne e2025 (Or.inl (K_ne kz2021 h2016 (by decide)))).trans (hz2020 j)
  have hz2030 : ∀ j, V2026 o1768 j = .int 0 := fun j => (uq_ne e2025 (Or.inl (K_ne kz2023 h2016 (by decide)))).trans (hz2022 j)
  clear pf2017 hz2018 hz2020 hz2022
  refine GO.aload_n dX12_init_953 rfl rfl ?_
  refine GO.sipush dX12_init_954 rfl ?_
  refine GO.newT (atype := .boolean) 121 200 gw_1936 rfl rfl (fun _ _ h => h) rfl rfl rfl (Or.inr rfl) (fun _ => okv_df rfl rfl rfl) rfl rfl dX12_init_957 (fun o2031 K2032 V2038 hq2033 hK2034 hE2035 h2036 hz2039 hV2037 => ?_)
  have h2040 := (by rw [hK2034, updK_ne (K_old h2016 hq2033)]; exact h2016 : K2032 x = some (0, 23))
  have pf2041 := PF.nw pf2027 hV2037 (K_old h2016 hq2033)
  have kz2043 := hE2035.arr kz2019
  have hz2042 : ∀ j, V2038 o323 j = .int 0 := fun j => (congrFun (hV2037 _ (K_old kz2019 hq2033)) j).trans (hz2028 j)
  have kz2045 := hE2035.arr kz2021
  have hz2044 : ∀ j, V2038 o1748 j = .int 0 := fun j => (congrFun (hV2037 _ (K_old kz2021 hq2033)) j).trans (hz2029 j)
  have kz2047 := hE2035.arr kz2023
  have hz2046 : ∀ j, V2038 o1768 j = .int 0 := fun j => (congrFun (hV2037 _ (K_old kz2023 hq2033)) j).trans (hz2030 j)
  have h2048 := KE.nw (KE.new (KE.new (KE.new (KE.new (KE.new (KE.new (KE.new (KE.new (KE.new (KE.new (KE.new (KE.new (KE.new (KE.new (KE.new (KE.new (KE.new (KE.new (KE.new (KE.new (KE.new (KE.new (KE.new (KE.new (KE.new (KE.new (KE.new (KE.new (KE.new (KE.new (KE.new (KE.new (KE.new (KE.new (KE.new (KE.new (KE.new (KE.new (KE.new (KE.new (KE.new (KE.new (KE.new (KE.new (KE.new (KE.new (KE.new (KE.new (KE.new (KE.new (KE.new (KE.new (KE.new (KE.new (KE.new (KE.new (KE.new (KE.new (KE.new (KE.new (KE.new (KE.new (KE.new (KE.new (KE.new (KE.new (KE.new (KE.new (KE.new (KE.new (KE.new (KE.new (KE.new (KE.new (KE.new (KE.new (KE.new (KE.new (KE.new (KE.new (KE.new (KE.new (KE.new (KE.new (KE.new (KE.new (KE.new (KE.new (KE.new (KE.new (KE.new (KE.new (KE.new (KE.new (KE.new (KE.new (KE.new (KE.new (KE.new (KE.new (KE.new (KE.new (KE.new (KE.new (KE.new (KE.new (KE.new (KE.new (KE.new (KE.new (KE.new (KE.new KE.rf hq10 hK11) hq25 hK26) hq40 hK41) hq55 hK56) hq70 hK71) hq85 hK86) hq100 hK101) hq115 hK116) hq130 hK131) hq145 hK146) hq160 hK161) hq175 hK176) hq190 hK191) hq205 hK206) hq220 hK221) hq235 hK236) hq250 hK251) hq265 hK266) hq280 hK281) hq295 hK296) hq310 hK311) hq325 hK326) hq342 hK343) hq360 hK361) hq378 hK379) hq396 hK397) hq414 hK415) hq432 hK433) hq450 hK451) hq468 hK469) hq486 hK487) hq504 hK505) hq522 hK523) hq540 hK541) hq558 hK559) hq576 hK577) hq594 hK595) hq612 hK613) hq630 hK631) hq648 hK649) hq666 hK667) hq684 hK685) hq702 hK703) hq720 hK721) hq738 hK739) hq756 hK757) hq774 hK775) hq792 hK793) hq810 hK811) hq828 hK829) hq846 hK847) hq864 hK865) hq882 hK883) hq900 hK901) hq918 hK919) hq936 hK937) hq954 hK955) hq972 hK973) hq990 hK991) hq1008 hK1009) hq1026 hK1027) hq1044 hK1045) hq1062 hK1063) hq1080 hK1081) hq1098 hK1099) hq1116 hK1117) hq1134 hK1135) hq1152 hK1153) hq1170 hK1171) hq1188 hK1189) hq1206 hK1207) hq1224 hK1225) hq1242 hK1243) hq1260 hK1261) hq1278 hK1279) hq1296 hK1297) hq1314 hK1315) hq1332 hK1333) hq1350 hK1351) hq1368 hK1369) hq1386 hK1387) hq1404 hK1405) hq1422 hK1423) hq1440 hK1441) hq1458 hK1459) hq1476 hK1477) hq1494 hK1495) hq1516 hK1517) hq1534 hK1535) hq1552 hK1553) hq1570 hK1571) hq1588 hK1589) hq1606 hK1607) hq1624 hK1625) hq1642 hK1643) hq1660 hK1661) hq1678 hK1679) hq1696 hK1697) hq1714 hK1715) hq1732 hK1733) hq1750 hK1751) hq1770 hK1771) hq1793 hK1794) hq1817 hK1818) hq1841 hK1842) hq1865 hK1866) hq1889 hK1890) hq1913 hK1914) hq1937 hK1938) hq1961 hK1962) hq1985 hK1986) hq2009 hK2010) h2016 hq2033
  clear pf2027 kz2019 hz2028 kz2021 hz2029 kz2023 hz2030
  refine GO.putRF rfl rfl (by decide +kernel) h2040 fp_raw_fp_RX12_358 rfl rfl dX12_init_959 (fun V2050 e2049 => ?_)
  have pf2051 := PF.put pf2041 e2049 rfl
  have hz2052 : ∀ j, V2050 o323 j = .int 0 := fun j => (uq_ne e2049 (Or.inl (K_ne kz2043 h2040 (by decide)))).trans (hz2042 j)
  have hz2053 : ∀ j, V2050 o1748 j = .int 0 := fun j => (uq_ne e2049 (Or.inl (K_ne kz2045 h2040 (by decide)))).trans (hz2044 j)
  have hz2054 : ∀ j, V2050 o1768 j = .int 0 := fun j => (uq_ne e2049 (Or.inl (K_ne kz2047 h2040 (by decide)))).trans (hz2046 j)
  clear pf2041 hz2042 hz2044 hz2046
  refine GO.aload_n dX12_init_962 rfl rfl ?_
  refine GO.bipush dX12_init_963 rfl ?_
  refine GO.bipush dX12_init_965 rfl ?_
  have E2055 := ext.tr hE2011 hE2035
  have E2056 := ext.tr hE1987 E2055
  have E2057 := ext.tr hE1963 E2056
  have E2058 := ext.tr hE1939 E2057
  have E2059 := ext.tr hE1915 E2058
  have E2060 := ext.tr hE1891 E2059
  have E2061 := ext.tr hE1867 E2060
  have E2062 := ext.tr hE1843 E2061
  have E2063 := ext.tr hE1819 E2062
  have E2064 := ext.tr hE1795 E2063
  have E2065 := ext.tr hE1772 E2064
  have E2066 := ext.tr hE1752 E2065
  have E2067 := ext.tr hE1734 E2066
  have E2068 := ext.tr hE1716 E2067
  have E2069 := ext.tr hE1698 E2068
  have E2070 := ext.tr hE1680 E2069
  have E2071 := ext.tr hE1662 E2070
  have E2072 := ext.tr hE1644 E2071
  have E2073 := ext.tr hE1626 E2072
  have E2074 := ext.tr hE1608 E2073
  have E2075 := ext.tr hE1590 E2074
  have E2076 := ext.tr hE1572 E2075
  have E2077 := ext.tr hE1554 E2076
  have E2078 := ext.tr hE1536 E2077
  have E2079 := ext.tr hE1518 E2078
  have E2080 := ext.tr hE1496 E2079
  have E2081 := ext.tr hE1478 E2080
  have E2082 := ext.tr hE1460 E2081
  have E2083 := ext.tr hE1442 E2082
  have E2084 := ext.tr hE1424 E2083
  have E2085 := ext.tr hE1406 E2084
  have E2086 := ext.tr hE1388 E2085
  have E2087 := ext.tr hE1370 E2086
  have E2088 := ext.tr hE1352 E2087
  have E2089 := ext.tr hE1334 E2088
  have E2090 := ext.tr hE1316 E2089
  have E2091 := ext.tr hE1298 E2090
  have E2092 := ext.tr hE1280 E2091
  have E2093 := ext.tr hE1262 E2092
  have E2094 := ext.tr hE1244 E2093
  have E2095 := ext.tr hE1226 E2094
  have E2096 := ext.tr hE1208 E2095
  have E2097 := ext.tr hE1190 E2096
  have E2098 := ext.tr hE1172 E2097
  have E2099 := ext.tr hE1154 E2098
  have E2100 := ext.tr hE1136 E2099
  have E2101 := ext.tr hE1118 E2100
  have E2102 := ext.tr hE1100 E2101
  have E2103 := ext.tr hE1082 E2102
  have E2104 := ext.tr hE1064 E2103
  have E2105 := ext.tr hE1046 E2104
  have E2106 := ext.tr hE1028 E2105
  have E2107 := ext.tr hE1010 E2106
  have E2108 := ext.tr hE992 E2107
  have E2109 := ext.tr hE974 E2108
  have E2110 := ext.tr hE956 E2109
  have E2111 := ext.tr hE938 E2110
  have E2112 := ext.tr hE920 E2111
  have E2113 := ext.tr hE902 E2112
  have E2114 := ext.tr hE884 E2113
  have E2115 := ext.tr hE866 E2114
  have E2116 := ext.tr hE848 E2115
  have E2117 := ext.tr hE830 E2116
  have E2118 := ext.tr hE812 E2117
  have E2119 := ext.tr hE794 E2118
  have E2120 := ext.tr hE776 E2119
  have E2121 := ext.tr hE758 E2120
  have E2122 := ext.tr hE740 E2121
  have E2123 := ext.tr hE722 E2122
  have E2124 := ext.tr hE704 E2123
  have E2125 := ext.tr hE686 E2124
  have E2126 := ext.tr hE668 E2125
  have E2127 := ext.tr hE650 E2126
  have E2128 := ext.tr hE632 E2127
  have E2129 := ext.tr hE614 E2128
  have E2130 := ext.tr hE596 E2129
  have E2131 := ext.tr hE578 E2130
  have E2132 := ext.tr hE560 E2131
  have E2133 := ext.tr hE542 E2132
  have E2134 := ext.tr hE524 E2133
  have E2135 := ext.tr hE506 E2134
  have E2136 := ext.tr hE488 E2135
  have E2137 := ext.tr hE470 E2136
  have E2138 := ext.tr hE452 E2137
  have E2139 := ext.tr hE434 E2138
  have E2140 := ext.tr hE416 E2139
  have E2141 := ext.tr hE398 E2140
  have E2142 := ext.tr hE380 E2141
  have E2143 := ext.tr hE362 E2142
  have E2144 := ext.tr hE344 E2143
  have E2145 := ext.tr hE327 E2144
  have E2146 := ext.tr hE312 E2145
  have E2147 := ext.tr hE297 E2146
  have E2148 := ext.tr hE282 E2147
  have E2149 := ext.tr hE267 E2148
  have E2150 := ext.tr hE252 E2149
  have E2151 := ext.tr hE237 E2150
  have E2152 := ext.tr hE222 E2151
  have E2153 := ext.tr hE207 E2152
  have E2154 := ext.tr hE192 E2153
  have E2155 := ext.tr hE177 E2154
  have E2156 := ext.tr hE162 E2155
  have E2157 := ext.tr hE147 E2156
  have E2158 := ext.tr hE132 E2157
  have E2159 := ext.tr hE117 E2158
  have E2160 := ext.tr hE102 E2159
  have E2161 := ext.tr hE87 E2160
  have E2162 := ext.tr hE72 E2161
  have E2163 := ext.tr hE57 E2162
  have E2164 := ext.tr hE42 E2163
  have E2165 := ext.tr hE27 E2164
  have E2166 := ext.tr hE12 E2165
  refine GO.callV (ci := 23) (N := mX12_begins_raw) dX12_init_967 (RX12, TX12, 151) rfl gV_RX12_361 h2040 (t_X12_begins_raw h2040 (PF.at pf2051 113 rfl) (E2165.arr h13) (PF.at pf2051 112 rfl) (E2164.arr h28) (PF.at pf2051 111 rfl) (E2163.arr h43) (PF.at pf2051 110 rfl) (E2162.arr h58) (ir_c rfl) (ir_c rfl)) rfl [] rfl rfl (Nat.le_of_ble_eq_true rfl) rfl (k_vs fun V2167 h2168 hF2169 => ?_)
  have pf2170 := PF.two pf2051 h2168.1 h2168.2.1 h2168.2.2.1 rfl rfl
  have hbgr := h2168.2.2.2
  have hz2171 : ∀ j, V2167 o323 j = .int 0 := fun j => (FRA hF2169 kz2043 kz2043 (by decide +kernel) j).trans (hz2052 j)
  have hz2172 : ∀ j, V2167 o1748 j = .int 0 := fun j => (FRA hF2169 kz2045 kz2045 (by decide +kernel) j).trans (hz2053 j)
  have hz2173 : ∀ j, V2167 o1768 j = .int 0 := fun j => (FRA hF2169 kz2047 kz2047 (by decide +kernel) j).trans (hz2054 j)
  have E2174 := ext.tr hE2011 hE2035
  have E2175 := ext.tr hE1987 E2174
  have E2176 := ext.tr hE1963 E2175
  have E2177 := ext.tr hE1939 E2176
  have E2178 := ext.tr hE1915 E2177
  have E2179 := ext.tr hE1891 E2178
  have E2180 := ext.tr hE1867 E2179
  have E2181 := ext.tr hE1843 E2180
  have E2182 := ext.tr hE1819 E2181
  have E2183 := ext.tr hE1795 E2182
  have E2184 := ext.tr hE1772 E2183
  have E2185 := ext.tr hE1752 E2184
  have E2186 := ext.tr hE1734 E2185
  have E2187 := ext.tr hE1716 E2186
  have E2188 := ext.tr hE1698 E2187
  have E2189 := ext.tr hE1680 E2188
  have E2190 := ext.tr hE1662 E2189
  have E2191 := ext.tr hE1644 E2190
  have E2192 := ext.tr hE1626 E2191
  have E2193 := ext.tr hE1608 E2192
  have E2194 := ext.tr hE1590 E2193
  have E2195 := ext.tr hE1572 E2194
  have E2196 := ext.tr hE1554 E2195
  have E2197 := ext.tr hE1536 E2196
  have E2198 := ext.tr hE1518 E2197
  have E2199 := ext.tr hE1496 E2198
  have E2200 := ext.tr hE1478 E2199
  have E2201 := ext.tr hE1460 E2200
  have E2202 := ext.tr hE1442 E2201
  have E2203 := ext.tr hE1424 E2202
  have E2204 := ext.tr hE1406 E2203
  have E2205 := ext.tr hE1388 E2204
  have E2206 := ext.tr hE1370 E2205
  have E2207 := ext.tr hE1352 E2206
  have E2208 := ext.tr hE1334 E2207
  have E2209 := ext.tr hE1316 E2208
  have E2210 := ext.tr hE1298 E2209
  have E2211 := ext.tr hE1280 E2210
  have E2212 := ext.tr hE1262 E2211
  have E2213 := ext.tr hE1244 E2212
  have E2214 := ext.tr hE1226 E2213
  have E2215 := ext.tr hE1208 E2214
  have E2216 := ext.tr hE1190 E2215
  have E2217 := ext.tr hE1172 E2216
  have E2218 := ext.tr hE1154 E2217
  have E2219 := ext.tr hE1136 E2218
  have E2220 := ext.tr hE1118 E2219
  have E2221 := ext.tr hE1100 E2220
  have E2222 := ext.tr hE1082 E2221
  have E2223 := ext.tr hE1064 E2222
  have E2224 := ext.tr hE1046 E2223
  have E2225 := ext.tr hE1028 E2224
  have E2226 := ext.tr hE1010 E2225
  have E2227 := ext.tr hE992 E2226
  have E2228 := ext.tr hE974 E2227
  have E2229 := ext.tr hE956 E2228
  have E2230 := ext.tr hE938 E2229
  have E2231 := ext.tr hE920 E2230
  have E2232 := ext.tr hE902 E2231
  have E2233 := ext.tr hE884 E2232
  have E2234 := ext.tr hE866 E2233
  have E2235 := ext.tr hE848 E2234
  have E2236 := ext.tr hE830 E2235
  have E2237 := ext.tr hE812 E2236
  have E2238 := ext.tr hE794 E2237
  have E2239 := ext.tr hE776 E2238
  have E2240 := ext.tr hE758 E2239
  have E2241 := ext.tr hE740 E2240
  have E2242 := ext.tr hE722 E2241
  have E2243 := ext.tr hE704 E2242
  have E2244 := ext.tr hE686 E2243
  have E2245 := ext.tr hE668 E2244
  have E2246 := ext.tr hE650 E2245
  have E2247 := ext.tr hE632 E2246
  have E2248 := ext.tr hE614 E2247
  have E2249 := ext.tr hE596 E2248
  have E2250 := ext.tr hE578 E2249
  have E2251 := ext.tr hE560 E2250
  have E2252 := ext.tr hE542 E2251
  have E2253 := ext.tr hE524 E2252
  have E2254 := ext.tr hE506 E2253
  have E2255 := ext.tr hE488 E2254
  have E2256 := ext.tr hE470 E2255
  have E2257 := ext.tr hE452 E2256
  have E2258 := ext.tr hE434 E2257
  have E2259 := ext.tr hE416 E2258
  have E2260 := ext.tr hE398 E2259
  have E2261 := ext.tr hE380 E2260
  have E2262 := ext.tr hE362 E2261
  have E2263 := ext.tr hE344 E2262
  have E2264 := ext.tr hE327 E2263
  have E2265 := ext.tr hE312 E2264
  have E2266 := ext.tr hE297 E2265
  have E2267 := ext.tr hE282 E2266
  have E2268 := ext.tr hE267 E2267
  have E2269 := ext.tr hE252 E2268
  have E2270 := ext.tr hE237 E2269
  have E2271 := ext.tr hE222 E2270
  have E2272 := ext.tr hE207 E2271
  have E2273 := ext.tr hE192 E2272
  have E2274 := ext.tr hE177 E2273
  have E2275 := ext.tr hE162 E2274
  have E2276 := ext.tr hE147 E2275
  have E2277 := ext.tr hE132 E2276
  have E2278 := ext.tr hE117 E2277
  have E2279 := ext.tr hE102 E2278
  have E2280 := ext.tr hE87 E2279
  have E2281 := ext.tr hE72 E2280
  have E2282 := ext.tr hE57 E2281
  have E2283 := ext.tr hE42 E2282
  have E2284 := ext.tr hE27 E2283
  have E2285 := ext.tr hE12 E2284
  refine GO.promote (ci := 11) rfl h2040 (fun j hj => ?_) (fun K2286 e2287 hE2288 h2289 => ?_)
  ·
    have hj : j < 151 := hj
    match j, hj with
    | 0, _ => exact okv_at (PF.at pf2170 0 rfl) (ir_c rfl) (by decide) (by decide)
    | 1, _ => exact okv_at (PF.at pf2170 1 rfl) (ir_c rfl) (by decide) (by decide)
    | 2, _ => exact okv_df rfl rfl (PF.df pf2170 2 rfl rfl)
    | 3, _ => exact okv_at (PF.at pf2170 117 rfl) (ir_c rfl) (by decide) (by decide)
    | 4, _ => exact okv_at (PF.at pf2170 116 rfl) (ir_c rfl) (by decide) (by decide)
    | 5, _ => exact ⟨_, (PF.at pf2170 115 rfl), ⟨_, (E2284.arr h13)⟩⟩
    | 6, _ => exact ⟨_, (PF.at pf2170 114 rfl), ⟨_, (E2283.arr h28)⟩⟩
    | 7, _ => exact ⟨_, (PF.at pf2170 113 rfl), ⟨_, (E2282.arr h43)⟩⟩
    | 8, _ => exact ⟨_, (PF.at pf2170 112 rfl), ⟨_, (E2281.arr h58)⟩⟩
    | 9, _ => exact okv_df rfl rfl (PF.df pf2170 9 rfl rfl)
    | 10, _ => exact okv_df rfl rfl (PF.df pf2170 10 rfl rfl)
    | 11, _ => exact ⟨_, (PF.at pf2170 111 rfl), ⟨_, (E2280.arr h73)⟩⟩
    | 12, _ => exact ⟨_, (PF.at pf2170 110 rfl), ⟨_, (E2279.arr h88)⟩⟩
    | 13, _ => exact ⟨_, (PF.at pf2170 109 rfl), ⟨_, (E2278.arr h103)⟩⟩
    | 14, _ => exact ⟨_, (PF.at pf2170 108 rfl), ⟨_, (E2277.arr h118)⟩⟩
    | 15, _ => exact ⟨_, (PF.at pf2170 107 rfl), ⟨_, (E2276.arr h133)⟩⟩
    | 16, _ => exact ⟨_, (PF.at pf2170 106 rfl), ⟨_, (E2275.arr h148)⟩⟩
    | 17, _ => exact ⟨_, (PF.at pf2170 105 rfl), ⟨_, (E2274.arr h163)⟩⟩
    | 18, _ => exact ⟨_, (PF.at pf2170 104 rfl), ⟨_, (E2273.arr h178)⟩⟩
    | 19, _ => exact ⟨_, (PF.at pf2170 103 rfl), ⟨_, (E2272.arr h193)⟩⟩
    | 20, _ => exact ⟨_, (PF.at pf2170 102 rfl), ⟨_, (E2271.arr h208)⟩⟩
    | 21, _ => exact ⟨_, (PF.at pf2170 101 rfl), ⟨_, (E2270.arr h223)⟩⟩
    | 22, _ => exact ⟨_, (PF.at pf2170 100 rfl), ⟨_, (E2269.arr h238)⟩⟩
    | 23, _ => exact ⟨_, (PF.at pf2170 99 rfl), ⟨_, (E2268.arr h253)⟩⟩
    | 24, _ => exact ⟨_, (PF.at pf2170 98 rfl), ⟨_, (E2267.arr h268)⟩⟩
    | 25, _ => exact ⟨_, (PF.at pf2170 97 rfl), ⟨_, (E2266.arr h283)⟩⟩
    | 26, _ => exact ⟨_, (PF.at pf2170 96 rfl), ⟨_, (E2265.arr h298)⟩⟩
    | 27, _ => exact ⟨_, (PF.at pf2170 95 rfl), ⟨_, (E2264.arr h313)⟩⟩
    | 28, _ => exact ⟨_, (PF.at pf2170 94 rfl), ⟨_, (E2263.arr h328)⟩⟩
    | 29, _ => exact ⟨_, (PF.at pf2170 93 rfl), ⟨_, (E2262.arr h345)⟩⟩
    | 30, _ => exact okv_df rfl rfl (PF.df pf2170 30 rfl rfl)
    | 31, _ => exact okv_df rfl rfl (PF.df pf2170 31 rfl rfl)
    | 32, _ => exact okv_df rfl rfl (PF.df pf2170 32 rfl rfl)
    | 33, _ => exact okv_df rfl rfl (PF.df pf2170 33 rfl rfl)
    | 34, _ => exact okv_df rfl rfl (PF.df pf2170 34 rfl rfl)
    | 35, _ => exact okv_df rfl rfl (PF.df pf2170 35 rfl rfl)
    | 36, _ => exact okv_df rfl rfl (PF.df pf2170 36 rfl rfl)
    | 37, _ => exact okv_df rfl rfl (PF.df pf2170 37 rfl rfl)
    | 38, _ => exact okv_df rfl rfl (PF.df pf2170 38 rfl rfl)
    | 39, _ => exact ⟨_, (PF.at pf2170 92 rfl), ⟨_, (E2261.arr h363)⟩⟩
    | 40, _ => exact ⟨_, (PF.at pf2170 91 rfl), ⟨_, (E2260.arr h381)⟩⟩
    | 41, _ => exact ⟨_, (PF.at pf2170 90 rfl), ⟨_, (E2259.arr h399)⟩⟩
    | 42, _ => exact ⟨_, (PF.at pf2170 89 rfl), ⟨_, (E2258.arr h417)⟩⟩
    | 43, _ => exact ⟨_, (PF.at pf2170 88 rfl), ⟨_, (E2257.arr h435)⟩⟩
    | 44, _ => exact ⟨_, (PF.at pf2170 87 rfl), ⟨_, (E2256.arr h453)⟩⟩
    | 45, _ => exact ⟨_, (PF.at pf2170 86 rfl), ⟨_, (E2255.arr h471)⟩⟩
    | 46, _ => exact ⟨_, (PF.at pf2170 85 rfl), ⟨_, (E2254.arr h489)⟩⟩
    | 47, _ => exact okv_df rfl rfl (PF.df pf2170 47 rfl rfl)
    | 48, _ => exact okv_df rfl rfl (PF.df pf2170 48 rfl rfl)
    | 49, _ => exact ⟨_, (PF.at pf2170 84 rfl), ⟨_, (E2253.arr h507)⟩⟩
    | 50, _ => exact ⟨_, (PF.at pf2170 83 rfl), ⟨_, (E2252.arr h525)⟩⟩
    | 51, _ => exact ⟨_, (PF.at pf2170 82 rfl), ⟨_, (E2251.arr h543)⟩⟩
    | 52, _ => exact ⟨_, (PF.at pf2170 81 rfl), ⟨_, (E2250.arr h561)⟩⟩
    | 53, _ => exact ⟨_, (PF.at pf2170 80 rfl), ⟨_, (E2249.arr h579)⟩⟩
    | 54, _ => exact ⟨_, (PF.at pf2170 79 rfl), ⟨_, (E2248.arr h597)⟩⟩
    | 55, _ => exact ⟨_, (PF.at pf2170 78 rfl), ⟨_, (E2247.arr h615)⟩⟩
    | 56, _ => exact ⟨_, (PF.at pf2170 77 rfl), ⟨_, (E2246.arr h633)⟩⟩
    | 57, _ => exact ⟨_, (PF.at pf2170 76 rfl), ⟨_, (E2245.arr h651)⟩⟩
    | 58, _ => exact ⟨_, (PF.at pf2170 75 rfl), ⟨_, (E2244.arr h669)⟩⟩
    | 59, _ => exact ⟨_, (PF.at pf2170 74 rfl), ⟨_, (E2243.arr h687)⟩⟩
    | 60, _ => exact ⟨_, (PF.at pf2170 73 rfl), ⟨_, (E2242.arr h705)⟩⟩
    | 61, _ => exact ⟨_, (PF.at pf2170 72 rfl), ⟨_, (E2241.arr h723)⟩⟩
    | 62, _ => exact ⟨_, (PF.at pf2170 71 rfl), ⟨_, (E2240.arr h741)⟩⟩
    | 63, _ => exact ⟨_, (PF.at pf2170 70 rfl), ⟨_, (E2239.arr h759)⟩⟩
    | 64, _ => exact ⟨_, (PF.at pf2170 69 rfl), ⟨_, (E2238.arr h777)⟩⟩
    | 65, _ => exact ⟨_, (PF.at pf2170 68 rfl), ⟨_, (E2237.arr h795)⟩⟩
    | 66, _ => exact okv_df rfl rfl (PF.df pf2170 66 rfl rfl)
    | 67, _ => exact ⟨_, (PF.at pf2170 67 rfl), ⟨_, (E2236.arr h813)⟩⟩
    | 68, _ => exact ⟨_, (PF.at pf2170 66 rfl), ⟨_, (E2235.arr h831)⟩⟩
    | 69, _ => exact ⟨_, (PF.at pf2170 65 rfl), ⟨_, (E2234.arr h849)⟩⟩
    | 70, _ => exact ⟨_, (PF.at pf2170 64 rfl), ⟨_, (E2233.arr h867)⟩⟩
    | 71, _ => exact ⟨_, (PF.at pf2170 63 rfl), ⟨_, (E2232.arr h885)⟩⟩
    | 72, _ => exact ⟨_, (PF.at pf2170 62 rfl), ⟨_, (E2231.arr h903)⟩⟩
    | 73, _ => exact ⟨_, (PF.at pf2170 61 rfl), ⟨_, (E2230.arr h921)⟩⟩
    | 74, _ => exact ⟨_, (PF.at pf2170 60 rfl), ⟨_, (E2229.arr h939)⟩⟩
    | 75, _ => exact ⟨_, (PF.at pf2170 59 rfl), ⟨_, (E2228.arr h957)⟩⟩
    | 76, _ => exact ⟨_, (PF.at pf2170 58 rfl), ⟨_, (E2227.arr h975)⟩⟩
    | 77, _ => exact ⟨_, (PF.at pf2170 57 rfl), ⟨_, (E2226.arr h993)⟩⟩
    | 78, _ => exact ⟨_, (PF.at pf2170 56 rfl), ⟨_, (E2225.arr h1011)⟩⟩
    | 79, _ => exact ⟨_, (PF.at pf2170 55 rfl), ⟨_, (E2224.arr h1029)⟩⟩
    | 80, _ => exact ⟨_, (PF.at pf2170 54 rfl), ⟨_, (E2223.arr h1047)⟩⟩
    | 81, _ => exact ⟨_, (PF.at pf2170 53 rfl), ⟨_, (E2222.arr h1065)⟩⟩
    | 82, _ => exact okv_df rfl rfl (PF.df pf2170 82 rfl rfl)
    | 83, _ => exact ⟨_, (PF.df pf2170 83 rfl rfl)⟩
    | 84, _ => exact ⟨_, (PF.df pf2170 84 rfl rfl)⟩
    | 85, _ => exact ⟨_, (PF.df pf2170 85 rfl rfl)⟩
    | 86, _ => exact ⟨_, (PF.df pf2170 86 rfl rfl)⟩
    | 87, _ => exact ⟨_, (PF.df pf2170 87 rfl rfl)⟩
    | 88, _ => exact ⟨_, (PF.df pf2170 88 rfl rfl)⟩
    | 89, _ => exact ⟨_, (PF.df pf2170 89 rfl rfl)⟩
    | 90, _ => exact ⟨_, (PF.df pf2170 90 rfl rfl)⟩
    | 91, _ => exact okv_df rfl rfl (PF.df pf2170 91 rfl rfl)
    | 92, _ => exact okv_df rfl rfl (PF.df pf2170 92 rfl rfl)
    | 93, _ => exact okv_df rfl rfl (PF.df pf2170 93 rfl rfl)
    | 94, _ => exact ⟨_, (PF.at pf2170 52 rfl), ⟨_, (E2221.arr h1083)⟩⟩
    | 95, _ => exact ⟨_, (PF.at pf2170 51 rfl), ⟨_, (E2220.arr h1101)⟩⟩
    | 96, _ => exact ⟨_, (PF.at pf2170 50 rfl), ⟨_, (E2219.arr h1119)⟩⟩
    | 97, _ => exact ⟨_, (PF.at pf2170 49 rfl), ⟨_, (E2218.arr h1137)⟩⟩
    | 98, _ => exact ⟨_, (PF.at pf2170 48 rfl), ⟨_, (E2217.arr h1155)⟩⟩
    | 99, _ => exact ⟨_, (PF.at pf2170 47 rfl), ⟨_, (E2216.arr h1173)⟩⟩
    | 100, _ => exact ⟨_, (PF.at pf2170 46 rfl), ⟨_, (E2215.arr h1191)⟩⟩
    | 101, _ => exact ⟨_, (PF.at pf2170 45 rfl), ⟨_, (E2214.arr h1209)⟩⟩
    | 102, _ => exact ⟨_, (PF.at pf2170 44 rfl), ⟨_, (E2213.arr h1227)⟩⟩
    | 103, _ => exact ⟨_, (PF.at pf2170 43 rfl), ⟨_, (E2212.arr h1245)⟩⟩
    | 104, _ => exact ⟨_, (PF.at pf2170 42 rfl), ⟨_, (E2211.arr h1263)⟩⟩
    | 105, _ => exact ⟨_, (PF.at pf2170 41 rfl), ⟨_, (E2210.arr h1281)⟩⟩
    | 106, _ => exact ⟨_, (PF.at pf2170 40 rfl), ⟨_, (E2209.arr h1299)⟩⟩
    | 107, _ => exact ⟨_, (PF.at pf2170 39 rfl), ⟨_, (E2208.arr h1317)⟩⟩
    | 108, _ => exact ⟨_, (PF.at pf2170 38 rfl), ⟨_, (E2207.arr h1335)⟩⟩
    | 109, _ => exact ⟨_, (PF.at pf2170 37 rfl), ⟨_, (E2206.arr h1353)⟩⟩
    | 110, _ => exact ⟨_, (PF.at pf2170 36 rfl), ⟨_, (E2205.arr h1371)⟩⟩
    | 111, _ => exact ⟨_, (PF.at pf2170 35 rfl), ⟨_, (E2204.arr h1389)⟩⟩
    | 112, _ => exact ⟨_, (PF.at pf2170 34 rfl), ⟨_, (E2203.arr h1407)⟩⟩
    | 113, _ => exact ⟨_, (PF.at pf2170 33 rfl), ⟨_, (E2202.arr h1425)⟩⟩
    | 114, _ => exact ⟨_, (PF.at pf2170 32 rfl), ⟨_, (E2201.arr h1443)⟩⟩
    | 115, _ => exact ⟨_, (PF.at pf2170 31 rfl), ⟨_, (E2200.arr h1461)⟩⟩
    | 116, _ => exact ⟨_, (PF.at pf2170 30 rfl), ⟨_, (E2199.arr h1479)⟩⟩
    | 117, _ => exact ⟨_, (PF.at pf2170 29 rfl), ⟨_, (E2198.arr h1497)⟩⟩
    | 118, _ => exact okv_df rfl rfl (PF.df pf2170 118 rfl rfl)
    | 119, _ => exact okv_at (PF.at pf2170 28 rfl) (ir_c rfl) (by decide) (by decide)
    | 120, _ => exact okv_df rfl rfl (PF.df pf2170 120 rfl rfl)
    | 121, _ => exact ⟨_, (PF.at pf2170 27 rfl), ⟨_, (E2197.arr h1519)⟩⟩
    | 122, _ => exact ⟨_, (PF.at pf2170 26 rfl), ⟨_, (E2196.arr h1537)⟩⟩
    | 123, _ => exact ⟨_, (PF.at pf2170 25 rfl), ⟨_, (E2195.arr h1555)⟩⟩
    | 124, _ => exact ⟨_, (PF.at pf2170 24 rfl), ⟨_, (E2194.arr h1573)⟩⟩
    | 125, _ => exact ⟨_, (PF.at pf2170 23 rfl), ⟨_, (E2193.arr h1591)⟩⟩
    | 126, _ => exact ⟨_, (PF.at pf2170 22 rfl), ⟨_, (E2192.arr h1609)⟩⟩
    | 127, _ => exact ⟨_, (PF.at pf2170 21 rfl), ⟨_, (E2191.arr h1627)⟩⟩
    | 128, _ => exact ⟨_, (PF.at pf2170 20 rfl), ⟨_, (E2190.arr h1645)⟩⟩
    | 129, _ => exact ⟨_, (PF.at pf2170 19 rfl), ⟨_, (E2189.arr h1663)⟩⟩
    | 130, _ => exact ⟨_, (PF.at pf2170 18 rfl), ⟨_, (E2188.arr h1681)⟩⟩
    | 131, _ => exact ⟨_, (PF.at pf2170 17 rfl), ⟨_, (E2187.arr h1699)⟩⟩
    | 132, _ => exact ⟨_, (PF.at pf2170 16 rfl), ⟨_, (E2186.arr h1717)⟩⟩
    | 133, _ => exact okv_df rfl rfl (PF.df pf2170 133 rfl rfl)
    | 134, _ => exact ⟨_, (PF.at pf2170 15 rfl), ⟨_, (E2185.arr h1735)⟩⟩
    | 135, _ => exact ⟨_, (PF.at pf2170 14 rfl), ⟨_, (E2184.arr h1753)⟩⟩
    | 136, _ => exact ⟨_, (PF.at pf2170 13 rfl), ⟨_, (E2183.arr h1773)⟩⟩
    | 137, _ => exact okv_df rfl rfl (PF.df pf2170 137 rfl rfl)
    | 138, _ => exact okv_df rfl rfl (PF.df pf2170 138 rfl rfl)
    | 139, _ => exact ⟨_, (PF.at pf2170 12 rfl), ⟨_, (E2182.arr h1796)⟩⟩
    | 140, _ => exact ⟨_, (PF.at pf2170 11 rfl), ⟨_, (E2181.arr h1820)⟩⟩
    | 141, _ => exact ⟨_, (PF.at pf2170 10 rfl), ⟨_, (E2180.arr h1844)⟩⟩
    | 142, _ => exact ⟨_, (PF.at pf2170 9 rfl), ⟨_, (E2179.arr h1868)⟩⟩
    | 143, _ => exact ⟨_, (PF.at pf2170 8 rfl), ⟨_, (E2178.arr h1892)⟩⟩
    | 144, _ => exact ⟨_, (PF.at pf2170 7 rfl), ⟨_, (E2177.arr h1916)⟩⟩
    | 145, _ => exact okv_df rfl rfl (PF.df pf2170 145 rfl rfl)
    | 146, _ => exact ⟨_, (PF.at pf2170 6 rfl), ⟨_, (E2176.arr h1940)⟩⟩
    | 147, _ => exact ⟨_, (PF.at pf2170 5 rfl), ⟨_, (E2175.arr h1964)⟩⟩
    | 148, _ => exact ⟨_, (PF.at pf2170 4 rfl), ⟨_, (E2174.arr h1988)⟩⟩
    | 149, _ => exact ⟨_, (PF.at pf2170 3 rfl), ⟨_, (hE2035.arr h2012)⟩⟩
    | 150, _ => exact ⟨_, (PF.at pf2170 2 rfl), ⟨_, h2036⟩⟩
    | j + 151, hj => exact absurd hj (by omega)
  have q2290 : vi V2167 x 10 = 0 := vi_at (X := 0) (PF.df pf2170 10 rfl rfl) (ir_c rfl)
  have q2291 : vi V2167 x 47 = 0 := vi_at (X := 0) (PF.df pf2170 47 rfl rfl) (ir_c rfl)
  have q2292 : vi V2167 x 48 = 0 := vi_at (X := 0) (PF.df pf2170 48 rfl rfl) (ir_c rfl)
  have q2293 : vi V2167 x 30 = 0 := vi_at (X := 0) (PF.df pf2170 30 rfl rfl) (ir_c rfl)
  have q2294 : vi V2167 x 9 = 0 := vi_at (X := 0) (PF.df pf2170 9 rfl rfl) (ir_c rfl)
  have q2295 : vi V2167 x 2 = 0 := vi_at (X := 0) (PF.df pf2170 2 rfl rfl) (ir_c rfl)
  have q2296 : vi V2167 x 91 = 0 := vi_at (X := 0) (PF.df pf2170 91 rfl rfl) (ir_c rfl)
  have q2297 : vi V2167 x 133 = 0 := vi_at (X := 0) (PF.df pf2170 133 rfl rfl) (ir_c rfl)
  have q2298 : vi V2167 x 120 = 0 := vi_at (X := 0) (PF.df pf2170 120 rfl rfl) (ir_c rfl)
  have q2299 : vi V2167 x 66 = 0 := vi_at (X := 0) (PF.df pf2170 66 rfl rfl) (ir_c rfl)
  have q2300 : vi V2167 x 118 = 0 := vi_at (X := 0) (PF.df pf2170 118 rfl rfl) (ir_c rfl)
  have q2301 : vi V2167 x 137 = 0 := vi_at (X := 0) (PF.df pf2170 137 rfl rfl) (ir_c rfl)
  have hmbg : MBG V2167 x 8 8 := MBG.raw (PF.at pf2170 0 rfl) (PF.at pf2170 1 rfl) (PF.at pf2170 115 rfl) (PF.at pf2170 114 rfl) (PF.at pf2170 113 rfl) (PF.at pf2170 112 rfl) hbgr
  have hzb2302 : ZB V2167 x 28 60 := ZB.mk (PF.at pf2170 94 rfl) hz2171
  have hzb2303 : ZB V2167 x 135 63 := ZB.mk (PF.at pf2170 14 rfl) hz2172
  have hzb2304 : ZB V2167 x 136 441 := ZB.mk (PF.at pf2170 13 rfl) hz2173
  refine GO.iconst dX12_init_970 ?_
  refine GO.istore_n (ls1 := [some (.ref x), some (ti 0)]) dX12_init_971 rfl rfl rfl ?_
  refine GO.loop1 (fun i2305 W => 0 ≤ i2305 ∧ i2305 ≤ 4 ∧ (vi W x 10 = 0 ∧ vi W x 47 = 0 ∧ vi W x 48 = 0 ∧ vi W x 30 = 0 ∧ vi W x 9 = 0 ∧ vi W x 2 = 0 ∧ vi W x 91 = 0 ∧ vi W x 133 = 0 ∧ vi W x 120 = 0 ∧ vi W x 66 = 0 ∧ vi W x 118 = 0 ∧ vi W x 137 = 0) ∧ (ZB W x 135 63) ∧ (ZB W x 136 441) ∧ (ZB W x 28 60) ∧ (MBG W x 8 8) ∧ True) (fun i2305 => [some (.ref x), some (ti i2305)]) (fun i2305 W => (2147483647 - i2305).toNat) 0 ⟨by omega, by omega, by omega, (by first | assumption), (by first | assumption), (by first | assumption), (by first | assumption), trivial⟩ rfl (fun i2305 Wi2305 hp3914 ih3913 => ?_)
  obtain ⟨l_i2305, u_i2305, n_i2305, w0_i2305, w1_i2305, w2_i2305, w3_i2305, -⟩ := hp3914
  have r_i2305 : ir i2305 := ⟨by omega, by omega⟩
  show GO mX12_init K V (VX (fun K1 V1 => (K1 x = some (0, 11) ∧ vi V1 x 10 = 0 ∧ vi V1 x 47 = 0 ∧ vi V1 x 48 = 0 ∧ vi V1 x 30 = 0 ∧ vi V1 x 9 = 0 ∧ vi V1 x 2 = 0 ∧ vi V1 x 91 = 0 ∧ vi V1 x 133 = 0 ∧ vi V1 x 120 = 0 ∧ vi V1 x 66 = 0 ∧ vi V1 x 118 = 0 ∧ vi V1 x 137 = 0 ∧ ZB V1 x 135 63 ∧ ZB V1 x 136 441 ∧ ZB V1 x 28 60 ∧ (MBG V1 x 8 8)) ∧ KE K K1 x)) K2286 Wi2305 113 19203 972 [some (.ref x), some (ti i2305)] []
  refine GO.useWT (fun hWz => ?_)
  refine GO.iload_n dX12_init_972 rfl rfl ?_
  refine GO.iconst dX12_init_973 ?_
  refine GO.icmp_ge (tgt := 991) dX12_init_974 (by decide) r_i2305 (ir_c rfl) (fun c3915 => ?_) (fun c3915 => ?_)
  ·
    refine GO.iconst dX12_init_991 ?_
    refine GO.istore_n (ls1 := [some (.ref x), some (ti 0)]) dX12_init_992 rfl rfl rfl ?_
    have q3917 : -2147483648 ≤ vi Wi2305 x 10 ∧ vi Wi2305 x 10 ≤ 2147483647 := vi_ir
    have q3918 : -2147483648 ≤ vi Wi2305 x 47 ∧ vi Wi2305 x 47 ≤ 2147483647 := vi_ir
    have q3919 : -2147483648 ≤ vi Wi2305 x 48 ∧ vi Wi2305 x 48 ≤ 2147483647 := vi_ir
    have q3920 : -2147483648 ≤ vi Wi2305 x 30 ∧ vi Wi2305 x 30 ≤ 2147483647 := vi_ir
    have q3921 : -2147483648 ≤ vi Wi2305 x 9 ∧ vi Wi2305 x 9 ≤ 2147483647 := vi_ir
    have q3922 : -2147483648 ≤ vi Wi2305 x 2 ∧ vi Wi2305 x 2 ≤ 2147483647 := vi_ir
    have q3923 : -2147483648 ≤ vi Wi2305 x 91 ∧ vi Wi2305 x 91 ≤ 2147483647 := vi_ir
    have q3924 : -2147483648 ≤ vi Wi2305 x 133 ∧ vi Wi2305 x 133 ≤ 2147483647 := vi_ir
    have q3925 : -2147483648 ≤ vi Wi2305 x 120 ∧ vi Wi2305 x 120 ≤ 2147483647 := vi_ir
    have q3926 : -2147483648 ≤ vi Wi2305 x 66 ∧ vi Wi2305 x 66 ≤ 2147483647 := vi_ir
    have q3927 : -2147483648 ≤ vi Wi2305 x 118 ∧ vi Wi2305 x 118 ≤ 2147483647 := vi_ir
    have q3928 : -2147483648 ≤ vi Wi2305 x 137 ∧ vi Wi2305 x 137 ≤ 2147483647 := vi_ir
    refine GO.loop1 (fun i3916 W => 0 ≤ i3916 ∧ i3916 ≤ 10 ∧ (vi W x 10 = 0 ∧ vi W x 47 = 0 ∧ vi W x 48 = 0 ∧ vi W x 30 = 0 ∧ vi W x 9 = 0 ∧ vi W x 2 = 0 ∧ vi W x 91 = 0 ∧ vi W x 133 = 0 ∧ vi W x 120 = 0 ∧ vi W x 66 = 0 ∧ vi W x 118 = 0 ∧ vi W x 137 = 0) ∧ (ZB W x 135 63) ∧ (ZB W x 136 441) ∧ (ZB W x 28 60) ∧ (MBG W x 8 8) ∧ True) (fun i3916 => [some (.ref x), some (ti i3916)]) (fun i3916 W => (2147483647 - i3916).toNat) 0 ⟨by omega, by omega, by omega, (by first | assumption | exact ZB.put 109 (by assumption) hWz (by assumption) rfl rfl (by assumption) (by assumption) (by decide)), (by first | assumption | exact ZB.put 110 (by assumption) hWz (by assumption) rfl rfl (by assumption) (by assumption) (by decide)), (by first | assumption | exact ZB.put 30 (by assumption) hWz (by assumption) rfl rfl (by assumption) (by assumption) (by decide)), (by first | assumption | exact MBG.put (by assumption) hWz (by assumption) (by assumption) (by assumption) (by decide)), trivial⟩ rfl (fun i3916 Wi3916 hp4321 ih4320 => ?_)
    obtain ⟨l_i3916, u_i3916, n_i3916, w0_i3916, w1_i3916, w2_i3916, w3_i3916, -⟩ := hp4321
    have r_i3916 : ir i3916 := ⟨by omega, by omega⟩
    show GO mX12_init K V (VX (fun K1 V1 => (K1 x = some (0, 11) ∧ vi V1 x 10 = 0 ∧ vi V1 x 47 = 0 ∧ vi V1 x 48 = 0 ∧ vi V1 x 30 = 0 ∧ vi V1 x 9 = 0 ∧ vi V1 x 2 = 0 ∧ vi V1 x 91 = 0 ∧ vi V1 x 133 = 0 ∧ vi V1 x 120 = 0 ∧ vi V1 x 66 = 0 ∧ vi V1 x 118 = 0 ∧ vi V1 x 137 = 0 ∧ ZB V1 x 135 63 ∧ ZB V1 x 136 441 ∧ ZB V1 x 28 60 ∧ (MBG V1 x 8 8)) ∧ KE K K1 x)) K2286 Wi3916 113 19203 993 [some (.ref x), some (ti i3916)] []
    refine GO.useWT (fun hWz => ?_)
    refine GO.iload_n dX12_init_993 rfl rfl ?_
    refine GO.bipush dX12_init_994 rfl ?_
    refine GO.icmp_ge (tgt := 1013) dX12_init_996 (by decide) r_i3916 (ir_c rfl) (fun c4322 => ?_) (fun c4322 => ?_)
    ·
      refine GO.iconst dX12_init_1013 ?_
      refine GO.istore_n (ls1 := [some (.ref x), some (ti 0)]) dX12_init_1014 rfl rfl rfl ?_
      have q4324 : -2147483648 ≤ vi Wi3916 x 10 ∧ vi Wi3916 x 10 ≤ 2147483647 := vi_ir
      have q4325 : -2147483648 ≤ vi Wi3916 x 47 ∧ vi Wi3916 x 47 ≤ 2147483647 := vi_ir
      have q4326 : -2147483648 ≤ vi Wi3916 x 48 ∧ vi Wi3916 x 48 ≤ 2147483647 := vi_ir
      have q4327 : -2147483648 ≤ vi Wi3916 x 30 ∧ vi Wi3916 x 30 ≤ 2147483647 := vi_ir
      have q4328 : -2147483648 ≤ vi Wi3916 x 9 ∧ vi Wi3916 x 9 ≤ 2147483647 := vi_ir
      have q4329 : -2147483648 ≤ vi Wi3916 x 2 ∧ vi Wi3916 x 2 ≤ 2147483647 := vi_ir
      have q4330 : -2147483648 ≤ vi Wi3916 x 91 ∧ vi Wi3916 x 91 ≤ 2147483647 := vi_ir
      have q4331 : -2147483648 ≤ vi Wi3916 x 133 ∧ vi Wi3916 x 133 ≤ 2147483647 := vi_ir
      have q4332 : -2147483648 ≤ vi Wi3916 x 120 ∧ vi Wi3916 x 120 ≤ 2147483647 := vi_ir
      have q4333 : -2147483648 ≤ vi Wi3916 x 66 ∧ vi Wi3916 x 66 ≤ 2147483647 := vi_ir
      have q4334 : -2147483648 ≤ vi Wi3916 x 118 ∧ vi Wi3916 x 118 ≤ 2147483647 := vi_ir
      have q4335 : -2147483648 ≤ vi Wi3916 x 137 ∧ vi Wi3916 x 137 ≤ 2147483647 := vi_ir
      refine GO.loop1 (fun i4323 W => 0 ≤ i4323 ∧ i4323 ≤ 24 ∧ (vi W x 10 = 0 ∧ vi W x 47 = 0 ∧ vi W x 48 = 0 ∧ vi W x 30 = 0 ∧ vi W x 9 = 0 ∧ vi W x 2 = 0 ∧ vi W x 91 = 0 ∧ vi W x 133 = 0 ∧ vi W x 120 = 0 ∧ vi W x 66 = 0 ∧ vi W x 118 = 0 ∧ vi W x 137 = 0) ∧ (ZB W x 135 63) ∧ (ZB W x 136 441) ∧ (ZB W x 28 60) ∧ (MBG W x 8 8) ∧ True) (fun i4323 => [some (.ref x), some (ti i4323)]) (fun i4323 W => (2147483647 - i4323).toNat) 0 ⟨by omega, by omega, by omega, (by first | assumption | exact ZB.put 109 (by assumption) hWz (by assumption) rfl rfl (by assumption) (by assumption) (by decide)), (by first | assumption | exact ZB.put 110 (by assumption) hWz (by assumption) rfl rfl (by assumption) (by assumption) (by decide)), (by first | assumption | exact ZB.put 30 (by assumption) hWz (by assumption) rfl rfl (by assumption) (by assumption) (by decide)), (by first | assumption | exact MBG.put (by assumption) hWz (by assumption) (by assumption) (by assumption) (by decide)), trivial⟩ rfl (fun i4323 Wi4323 hp4560 ih4559 => ?_)
      obtain ⟨l_i4323, u_i4323, n_i4323, w0_i4323, w1_i4323, w2_i4323, w3_i4323, -⟩ := hp4560
      have r_i4323 : ir i4323 := ⟨by omega, by omega⟩
      show GO mX12_init K V (VX (fun K1 V1 => (K1 x = some (0, 11) ∧ vi V1 x 10 = 0 ∧ vi V1 x 47 = 0 ∧ vi V1 x 48 = 0 ∧ vi V1 x 30 = 0 ∧ vi V1 x 9 = 0 ∧ vi V1 x 2 = 0 ∧ vi V1 x 91 = 0 ∧ vi V1 x 133 = 0 ∧ vi V1 x 120 = 0 ∧ vi V1 x 66 = 0 ∧ vi V1 x 118 = 0 ∧ vi V1 x 137 = 0 ∧ ZB V1 x 135 63 ∧ ZB V1 x 136 441 ∧ ZB V1 x 28 60 ∧ (MBG V1 x 8 8)) ∧ KE K K1 x)) K2286 Wi4323 113 19203 1015 [some (.ref x), some (ti i4323)] []
      refine GO.useWT (fun hWz => ?_)
      refine GO.iload_n dX12_init_1015 rfl rfl ?_
      refine GO.bipush dX12_init_1016 rfl ?_
      refine GO.icmp_ge (tgt := 1036) dX12_init_1018 (by decide) r_i4323 (ir_c rfl) (fun c4561 => ?_) (fun c4561 => ?_)
      ·
        refine GO.iconst dX12_init_1036 ?_
        refine GO.istore_n (ls1 := [some (.ref x), some (ti 0)]) dX12_init_1037 rfl rfl rfl ?_
        have q4563 : -2147483648 ≤ vi Wi4323 x 10 ∧ vi Wi4323 x 10 ≤ 2147483647 := vi_ir
        have q4564 : -2147483648 ≤ vi Wi4323 x 47 ∧ vi Wi4323 x 47 ≤ 2147483647 := vi_ir
        have q4565 : -2147483648 ≤ vi Wi4323 x 48 ∧ vi Wi4323 x 48 ≤ 2147483647 := vi_ir
        have q4566 : -2147483648 ≤ vi Wi4323 x 30 ∧ vi Wi4323 x 30 ≤ 2147483647 := vi_ir
        have q4567 : -2147483648 ≤ vi Wi4323 x 9 ∧ vi Wi4323 x 9 ≤ 2147483647 := vi_ir
        have q4568 : -2147483648 ≤ vi Wi4323 x 2 ∧ vi Wi4323 x 2 ≤ 2147483647 := vi_ir
        have q4569 : -2147483648 ≤ vi Wi4323 x 91 ∧ vi Wi4323 x 91 ≤ 2147483647 := vi_ir
        have q4570 : -2147483648 ≤ vi Wi4323 x 133 ∧ vi Wi4323 x 133 ≤ 2147483647 := vi_ir
        have q4571 : -2147483648 ≤ vi Wi4323 x 120 ∧ vi Wi4323 x 120 ≤ 2147483647 := vi_ir
        have q4572 : -2147483648 ≤ vi Wi4323 x 66 ∧ vi Wi4323 x 66 ≤ 2147483647 := vi_ir
        have q4573 : -2147483648 ≤ vi Wi4323 x 118 ∧ vi Wi4323 x 118 ≤ 2147483647 := vi_ir
        have q4574 : -2147483648 ≤ vi Wi4323 x 137 ∧ vi Wi4323 x 137 ≤ 2147483647 := vi_ir
        refine GO.loop1 (fun i4562 W => 0 ≤ i4562 ∧ i4562 ≤ 600 ∧ (vi W x 10 = 0 ∧ vi W x 47 = 0 ∧ vi W x 48 = 0 ∧ vi W x 30 = 0 ∧ vi W x 9 = 0 ∧ vi W x 2 = 0 ∧ vi W x 91 = 0 ∧ vi W x 133 = 0 ∧ vi W x 120 = 0 ∧ vi W x 66 = 0 ∧ vi W x 118 = 0 ∧ vi W x 137 = 0) ∧ (ZB W x 135 63) ∧ (ZB W x 136 441) ∧ (ZB W x 28 60) ∧ (MBG W x 8 8) ∧ True) (fun i4562 => [some (.ref x), some (ti i4562)]) (fun i4562 W => (2147483647 - i4562).toNat) 0 ⟨by omega, by omega, by omega, (by first | assumption | exact ZB.put 109 (by assumption) hWz (by assumption) rfl rfl (by assumption) (by assumption) (by decide)), (by first | assumption | exact ZB.put 110 (by assumption) hWz (by assumption) rfl rfl (by assumption) (by assumption) (by decide)), (by first | assumption | exact ZB.put 30 (by assumption) hWz (by assumption) rfl rfl (by assumption) (by assumption) (by decide)), (by first | assumption | exact MBG.put (by assumption) hWz (by assumption) (by assumption) (by assumption) (by decide)), trivial⟩ rfl (fun i4562 Wi4562 hp4621 ih4620 => ?_)
        obtain ⟨l_i4562, u_i4562, n_i4562, w0_i4562, w1_i4562, w2_i4562, w3_i4562, -⟩ := hp4621
        have r_i4562 : ir i4562 := ⟨by omega, by omega⟩
        show GO mX12_init K V (VX (fun K1 V1 => (K1 x = some (0, 11) ∧ vi V1 x 10 = 0 ∧ vi V1 x 47 = 0 ∧ vi V1 x 48 = 0 ∧ vi V1 x 30 = 0 ∧ vi V1 x 9 = 0 ∧ vi V1 x 2 = 0 ∧ vi V1 x 91 = 0 ∧ vi V1 x 133 = 0 ∧ vi V1 x 120 = 0 ∧ vi V1 x 66 = 0 ∧ vi V1 x 118 = 0 ∧ vi V1 x 137 = 0 ∧ ZB V1 x 135 63 ∧ ZB V1 x 136 441 ∧ ZB V1 x 28 60 ∧ (MBG V1 x 8 8)) ∧ KE K K1 x)) K2286 Wi4562 113 19203 1038 [some (.ref x), some (ti i4562)] []
        refine GO.useWT (fun hWz => ?_)
        refine GO.iload_n dX12_init_1038 rfl rfl ?_
        refine GO.sipush dX12_init_1039 rfl ?_
        refine GO.icmp_ge (tgt := 1058) dX12_init_1042 (by decide) r_i4562 (ir_c rfl) (fun c4622 => ?_) (fun c4622 => ?_)
        ·
          exact GO.retv rfl rfl dX12_init_1058 ⟨rfl, ⟨h2289, by omega, by omega, by omega, by omega, by omega, by omega, by omega, by omega, by omega, by omega, by omega, by omega, (by assumption), (by assumption), (by assumption), (by assumption)⟩, (KE.promote (KE.new (KE.new (KE.new (KE.new (KE.new (KE.new (KE.new (KE.new (KE.new (KE.new (KE.new (KE.new (KE.new (KE.new (KE.new (KE.new (KE.new (KE.new (KE.new (KE.new (KE.new (KE.new (KE.new (KE.new (KE.new (KE.new (KE.new (KE.new (KE.new (KE.new (KE.new (KE.new (KE.new (KE.new (KE.new (KE.new (KE.new (KE.new (KE.new (KE.new (KE.new (KE.new (KE.new (KE.new (KE.new (KE.new (KE.new (KE.new (KE.new (KE.new (KE.new (KE.new (KE.new (KE.new (KE.new (KE.new (KE.new (KE.new (KE.new (KE.new (KE.new (KE.new (KE.new (KE.new (KE.new (KE.new (KE.new (KE.new (KE.new (KE.new (KE.new (KE.new (KE.new (KE.new (KE.new (KE.new (KE.new (KE.new (KE.new (KE.new (KE.new (KE.new (KE.new (KE.new (KE.new (KE.new (KE.new (KE.new (KE.new (KE.new (KE.new (KE.new (KE.new (KE.new (KE.new (KE.new (KE.new (KE.new (KE.new (KE.new (KE.new (KE.new (KE.new (KE.new (KE.new (KE.new (KE.new (KE.new (KE.new (KE.new (KE.new (KE.new (KE.new KE.rf hq10 hK11) hq25 hK26) hq40 hK41) hq55 hK56) hq70 hK71) hq85 hK86) hq100 hK101) hq115 hK116) hq130 hK131) hq145 hK146) hq160 hK161) hq175 hK176) hq190 hK191) hq205 hK206) hq220 hK221) hq235 hK236) hq250 hK251) hq265 hK266) hq280 hK281) hq295 hK296) hq310 hK311) hq325 hK326) hq342 hK343) hq360 hK361) hq378 hK379) hq396 hK397) hq414 hK415) hq432 hK433) hq450 hK451) hq468 hK469) hq486 hK487) hq504 hK505) hq522 hK523) hq540 hK541) hq558 hK559) hq576 hK577) hq594 hK595) hq612 hK613) hq630 hK631) hq648 hK649) hq666 hK667) hq684 hK685) hq702 hK703) hq720 hK721) hq738 hK739) hq756 hK757) hq774 hK775) hq792 hK793) hq810 hK811) hq828 hK829) hq846 hK847) hq864 hK865) hq882 hK883) hq900 hK901) hq918 hK919) hq936 hK937) hq954 hK955) hq972 hK973) hq990 hK991) hq1008 hK1009) hq1026 hK1027) hq1044 hK1045) hq1062 hK1063) hq1080 hK1081) hq1098 hK1099) hq1116 hK1117) hq1134 hK1135) hq1152 hK1153) hq1170 hK1171) hq1188 hK1189) hq1206 hK1207) hq1224 hK1225) hq1242 hK1243) hq1260 hK1261) hq1278 hK1279) hq1296 hK1297) hq1314 hK1315) hq1332 hK1333) hq1350 hK1351) hq1368 hK1369) hq1386 hK1387) hq1404 hK1405) hq1422 hK1423) hq1440 hK1441) hq1458 hK1459) hq1476 hK1477) hq1494 hK1495) hq1516 hK1517) hq1534 hK1535) hq1552 hK1553) hq1570 hK1571) hq1588 hK1589) hq1606 hK1607) hq1624 hK1625) hq1642 hK1643) hq1660 hK1661) hq1678 hK1679) hq1696 hK1697) hq1714 hK1715) hq1732 hK1733) hq1750 hK1751) hq1770 hK1771) hq1793 hK1794) hq1817 hK1818) hq1841 hK1842) hq1865 hK1866) hq1889 hK1890) hq1913 hK1914) hq1937 hK1938) hq1961 hK1962) hq1985 hK1986) hq2009 hK2010) hq2033 hK2034) e2287)⟩
        ·
          refine GO.aload_n dX12_init_1045 rfl rfl ?_
          refine GO.getA (n := 600) h2289 fl_RX12_77 rfl rfl rfl rfl dX12_init_1046 (fun hv4624 h4623 => ?_)
          refine GO.iload_n dX12_init_1049 rfl rfl ?_
          refine GO.iconst dX12_init_1050 ?_
          refine GO.iast (t := 29) rfl rfl (by decide +kernel) h4623 r_i4562 (by omega) (by omega) (ir_c rfl) (by decide) (by decide) dX12_init_1051 (fun V4626 e4625 => ?_)
          refine GO.iinc (X := i4562) (n := 1) (Y := i4562 + 1) (ls1 := [some (.ref x), some (ti (i4562 + 1))]) dX12_init_1052 rfl rfl rfl rfl ?_
          refine GO.goto (tgt := 1038) dX12_init_1055 (by decide) ?_
          have e4627 : vi V4626 x 10 = vi Wi4562 x 10 := vi_up e4625 (Or.inl (K_ne h2289 h4623 (by decide)))
          have q4628 : -2147483648 ≤ vi Wi4562 x 10 ∧ vi Wi4562 x 10 ≤ 2147483647 := vi_ir
          have e4629 : vi V4626 x 47 = vi Wi4562 x 47 := vi_up e4625 (Or.inl (K_ne h2289 h4623 (by decide)))
          have q4630 : -2147483648 ≤ vi Wi4562 x 47 ∧ vi Wi4562 x 47 ≤ 2147483647 := vi_ir
          have e4631 : vi V4626 x 48 = vi Wi4562 x 48 := vi_up e4625 (Or.inl (K_ne h2289 h4623 (by decide)))
          have q4632 : -2147483648 ≤ vi Wi4562 x 48 ∧ vi Wi4562 x 48 ≤ 2147483647 := vi_ir
          have e4633 : vi V4626 x 30 = vi Wi4562 x 30 := vi_up e4625 (Or.inl (K_ne h2289 h4623 (by decide)))
          have q4634 : -2147483648 ≤ vi Wi4562 x 30 ∧ vi Wi4562 x 30 ≤ 2147483647 := vi_ir
          have e4635 : vi V4626 x 9 = vi Wi4562 x 9 := vi_up e4625 (Or.inl (K_ne h2289 h4623 (by decide)))
          have q4636 : -2147483648 ≤ vi Wi4562 x 9 ∧ vi Wi4562 x 9 ≤ 2147483647 := vi_ir
          have e4637 : vi V4626 x 2 = vi Wi4562 x 2 := vi_up e4625 (Or.inl (K_ne h2289 h4623 (by decide)))
          have q4638 : -2147483648 ≤ vi Wi4562 x 2 ∧ vi Wi4562 x 2 ≤ 2147483647 := vi_ir
          have e4639 : vi V4626 x 91 = vi Wi4562 x 91 := vi_up e4625 (Or.inl (K_ne h2289 h4623 (by decide)))
          have q4640 : -2147483648 ≤ vi Wi4562 x 91 ∧ vi Wi4562 x 91 ≤ 2147483647 := vi_ir
          have e4641 : vi V4626 x 133 = vi Wi4562 x 133 := vi_up e4625 (Or.inl (K_ne h2289 h4623 (by decide)))
          have q4642 : -2147483648 ≤ vi Wi4562 x 133 ∧ vi Wi4562 x 133 ≤ 2147483647 := vi_ir
          have e4643 : vi V4626 x 120 = vi Wi4562 x 120 := vi_up e4625 (Or.inl (K_ne h2289 h4623 (by decide)))
          have q4644 : -2147483648 ≤ vi Wi4562 x 120 ∧ vi Wi4562 x 120 ≤ 2147483647 := vi_ir
          have e4645 : vi V4626 x 66 = vi Wi4562 x 66 := vi_up e4625 (Or.inl (K_ne h2289 h4623 (by decide)))
          have q4646 : -2147483648 ≤ vi Wi4562 x 66 ∧ vi Wi4562 x 66 ≤ 2147483647 := vi_ir
          have e4647 : vi V4626 x 118 = vi Wi4562 x 118 := vi_up e4625 (Or.inl (K_ne h2289 h4623 (by decide)))
          have q4648 : -2147483648 ≤ vi Wi4562 x 118 ∧ vi Wi4562 x 118 ≤ 2147483647 := vi_ir
          have e4649 : vi V4626 x 137 = vi Wi4562 x 137 := vi_up e4625 (Or.inl (K_ne h2289 h4623 (by decide)))
          have q4650 : -2147483648 ≤ vi Wi4562 x 137 ∧ vi Wi4562 x 137 ≤ 2147483647 := vi_ir
          exact ih4620 (i4562 + 1) V4626 ⟨by omega, by omega, by omega, (by first | assumption | exact ZB.put 109 (by assumption) hWz (by assumption) rfl rfl (by assumption) (by assumption) (by decide)), (by first | assumption | exact ZB.put 110 (by assumption) hWz (by assumption) rfl rfl (by assumption) (by assumption) (by decide)), (by first | assumption | exact ZB.put 30 (by assumption) hWz (by assumption) rfl rfl (by assumption) (by assumption) (by decide)), (by first | assumption | exact MBG.put (by assumption) hWz (by assumption) (by assumption) (by assumption) (by decide)), trivial⟩ (by show (2147483647 - (i4562 + 1)).toNat < (2147483647 - i4562).toNat; omega)
      ·
        refine GO.aload_n dX12_init_1021 rfl rfl ?_
        refine GO.getA (n := 24) h2289 fl_RX12_337 rfl rfl rfl rfl dX12_init_1022 (fun hv4652 h4651 => ?_)
        refine GO.iload_n dX12_init_1025 rfl rfl ?_
        refine GO.sipush dX12_init_1026 rfl ?_
        refine GO.iast (t := 114) rfl rfl (by decide +kernel) h4651 r_i4323 (by omega) (by omega) (ir_c rfl) (by decide) (by decide) dX12_init_1029 (fun V4654 e4653 => ?_)
        refine GO.iinc (X := i4323) (n := 1) (Y := i4323 + 1) (ls1 := [some (.ref x), some (ti (i4323 + 1))]) dX12_init_1030 rfl rfl rfl rfl ?_
        refine GO.goto (tgt := 1015) dX12_init_1033 (by decide) ?_
        have e4655 : vi V4654 x 10 = vi Wi4323 x 10 := vi_up e4653 (Or.inl (K_ne h2289 h4651 (by decide)))
        have q4656 : -2147483648 ≤ vi Wi4323 x 10 ∧ vi Wi4323 x 10 ≤ 2147483647 := vi_ir
        have e4657 : vi V4654 x 47 = vi Wi4323 x 47 := vi_up e4653 (Or.inl (K_ne h2289 h4651 (by decide)))
        have q4658 : -2147483648 ≤ vi Wi4323 x 47 ∧ vi Wi4323 x 47 ≤ 2147483647 := vi_ir
        have e4659 : vi V4654 x 48 = vi Wi4323 x 48 := vi_up e4653 (Or.inl (K_ne h2289 h4651 (by decide)))
        have q4660 : -2147483648 ≤ vi Wi4323 x 48 ∧ vi Wi4323 x 48 ≤ 2147483647 := vi_ir
        have e4661 : vi V4654 x 30 = vi Wi4323 x 30 := vi_up e4653 (Or.inl (K_ne h2289 h4651 (by decide)))
        have q4662 : -2147483648 ≤ vi Wi4323 x 30 ∧ vi Wi4323 x 30 ≤ 2147483647 := vi_ir
        have e4663 : vi V4654 x 9 = vi Wi4323 x 9 := vi_up e4653 (Or.inl (K_ne h2289 h4651 (by decide)))
        have q4664 : -2147483648 ≤ vi Wi4323 x 9 ∧ vi Wi4323 x 9 ≤ 2147483647 := vi_ir
        have e4665 : vi V4654 x 2 = vi Wi4323 x 2 := vi_up e4653 (Or.inl (K_ne h2289 h4651 (by decide)))
        have q4666 : -2147483648 ≤ vi Wi4323 x 2 ∧ vi Wi4323 x 2 ≤ 2147483647 := vi_ir
        have e4667 : vi V4654 x 91 = vi Wi4323 x 91 := vi_up e4653 (Or.inl (K_ne h2289 h4651 (by decide)))
        have q4668 : -2147483648 ≤ vi Wi4323 x 91 ∧ vi Wi4323 x 91 ≤ 2147483647 := vi_ir
        have e4669 : vi V4654 x 133 = vi Wi4323 x 133 := vi_up e4653 (Or.inl (K_ne h2289 h4651 (by decide)))
        have q4670 : -2147483648 ≤ vi Wi4323 x 133 ∧ vi Wi4323 x 133 ≤ 2147483647 := vi_ir
        have e4671 : vi V4654 x 120 = vi Wi4323 x 120 := vi_up e4653 (Or.inl (K_ne h2289 h4651 (by decide)))
        have q4672 : -2147483648 ≤ vi Wi4323 x 120 ∧ vi Wi4323 x 120 ≤ 2147483647 := vi_ir
        have e4673 : vi V4654 x 66 = vi Wi4323 x 66 := vi_up e4653 (Or.inl (K_ne h2289 h4651 (by decide)))
        have q4674 : -2147483648 ≤ vi Wi4323 x 66 ∧ vi Wi4323 x 66 ≤ 2147483647 := vi_ir
        have e4675 : vi V4654 x 118 = vi Wi4323 x 118 := vi_up e4653 (Or.inl (K_ne h2289 h4651 (by decide)))
        have q4676 : -2147483648 ≤ vi Wi4323 x 118 ∧ vi Wi4323 x 118 ≤ 2147483647 := vi_ir
        have e4677 : vi V4654 x 137 = vi Wi4323 x 137 := vi_up e4653 (Or.inl (K_ne h2289 h4651 (by decide)))
        have q4678 : -2147483648 ≤ vi Wi4323 x 137 ∧ vi Wi4323 x 137 ≤ 2147483647 := vi_ir
        exact ih4559 (i4323 + 1) V4654 ⟨by omega, by omega, by omega, (by first | assumption | exact ZB.put 109 (by assumption) hWz (by assumption) rfl rfl (by assumption) (by assumption) (by decide)), (by first | assumption | exact ZB.put 110 (by assumption) hWz (by assumption) rfl rfl (by assumption) (by assumption) (by decide)), (by first | assumption | exact ZB.put 30 (by assumption) hWz (by assumption) rfl rfl (by assumption) (by assumption) (by decide)), (by first | assumption | exact MBG.put (by assumption) hWz (by assumption) (by assumption) (by assumption) (by decide)), trivial⟩ (by show (2147483647 - (i4323 + 1)).toNat < (2147483647 - i4323).toNat; omega)
    ·
      refine GO.aload_n dX12_init_999 rfl rfl ?_
      refine GO.getA (n := 10) h2289 fl_RX12_301 rfl rfl rfl rfl dX12_init_1000 (fun hv4680 h4679 => ?_)
      refine GO.iload_n dX12_init_1003 rfl rfl ?_
      refine GO.bipush dX12_init_1004 rfl ?_
      refine GO.iast (t := 102) rfl rfl (by decide +kernel) h4679 r_i3916 (by omega) (by omega) (ir_c rfl) (by decide) (by decide) dX12_init_1006 (fun V4682 e4681 => ?_)
      refine GO.iinc (X := i3916) (n := 1) (Y := i3916 + 1) (ls1 := [some (.ref x), some (ti (i3916 + 1))]) dX12_init_1007 rfl rfl rfl rfl ?_
      refine GO.goto (tgt := 993) dX12_init_1010 (by decide) ?_
      have e4683 : vi V4682 x 10 = vi Wi3916 x 10 := vi_up e4681 (Or.inl (K_ne h2289 h4679 (by decide)))
      have q4684 : -2147483648 ≤ vi Wi3916 x 10 ∧ vi Wi3916 x 10 ≤ 2147483647 := vi_ir
      have e4685 : vi V4682 x 47 = vi Wi3916 x 47 := vi_up e4681 (Or.inl (K_ne h2289 h4679 (by decide)))
      have q4686 : -2147483648 ≤ vi Wi3916 x 47 ∧ vi Wi3916 x 47 ≤ 2147483647 := vi_ir
      have e4687 : vi V4682 x 48 = vi Wi3916 x 48 := vi_up e4681 (Or.inl (K_ne h2289 h4679 (by decide)))
      have q4688 : -2147483648 ≤ vi Wi3916 x 48 ∧ vi Wi3916 x 48 ≤ 2147483647 := vi_ir
      have e4689 : vi V4682 x 30 = vi Wi3916 x 30 := vi_up e4681 (Or.inl (K_ne h2289 h4679 (by decide)))
      have q4690 : -2147483648 ≤ vi Wi3916 x 30 ∧ vi Wi3916 x 30 ≤ 2147483647 := vi_ir
      have e4691 : vi V4682 x 9 = vi Wi3916 x 9 := vi_up e4681 (Or.inl (K_ne h2289 h4679 (by decide)))
      have q4692 : -2147483648 ≤ vi Wi3916 x 9 ∧ vi Wi3916 x 9 ≤ 2147483647 := vi_ir
      have e4693 : vi V4682 x 2 = vi Wi3916 x 2 := vi_up e4681 (Or.inl (K_ne h2289 h4679 (by decide)))
      have q4694 : -2147483648 ≤ vi Wi3916 x 2 ∧ vi Wi3916 x 2 ≤ 2147483647 := vi_ir
      have e4695 : vi V4682 x 91 = vi Wi3916 x 91 := vi_up e4681 (Or.inl (K_ne h2289 h4679 (by decide)))
      have q4696 : -2147483648 ≤ vi Wi3916 x 91 ∧ vi Wi3916 x 91 ≤ 2147483647 := vi_ir
      have e4697 : vi V4682 x 133 = vi Wi3916 x 133 := vi_up e4681 (Or.inl (K_ne h2289 h4679 (by decide)))
      have q4698 : -2147483648 ≤ vi Wi3916 x 133 ∧ vi Wi3916 x 133 ≤ 2147483647 := vi_ir
      have e4699 : vi V4682 x 120 = vi Wi3916 x 120 := vi_up e4681 (Or.inl (K_ne h2289 h4679 (by decide)))
      have q4700 : -2147483648 ≤ vi Wi3916 x 120 ∧ vi Wi3916 x 120 ≤ 2147483647 := vi_ir
      have e4701 : vi V4682 x 66 = vi Wi3916 x 66 := vi_up e4681 (Or.inl (K_ne h2289 h4679 (by decide)))
      have q4702 : -2147483648 ≤ vi Wi3916 x 66 ∧ vi Wi3916 x 66 ≤ 2147483647 := vi_ir
      have e4703 : vi V4682 x 118 = vi Wi3916 x 118 := vi_up e4681 (Or.inl (K_ne h2289 h4679 (by decide)))
      have q4704 : -2147483648 ≤ vi Wi3916 x 118 ∧ vi Wi3916 x 118 ≤ 2147483647 := vi_ir
      have e4705 : vi V4682 x 137 = vi Wi3916 x 137 := vi_up e4681 (Or.inl (K_ne h2289 h4679 (by decide)))
      have q4706 : -2147483648 ≤ vi Wi3916 x 137 ∧ vi Wi3916 x 137 ≤ 2147483647 := vi_ir
      exact ih4320 (i3916 + 1) V4682 ⟨by omega, by omega, by omega, (by first | assumption | exact ZB.put 109 (by assumption) hWz (by assumption) rfl rfl (by assumption) (by assumption) (by decide)), (by first | assumption | exact ZB.put 110 (by assumption) hWz (by assumption) rfl rfl (by assumption) (by assumption) (by decide)), (by first | assumption | exact ZB.put 30 (by assumption) hWz (by assumption) rfl rfl (by assumption) (by assumption) (by decide)), (by first | assumption | exact MBG.put (by assumption) hWz (by assumption) (by assumption) (by assumption) (by decide)), trivial⟩ (by show (2147483647 - (i3916 + 1)).toNat < (2147483647 - i3916).toNat; omega)
  ·
    refine GO.aload_n dX12_init_977 rfl rfl ?_
    refine GO.getA (n := 4) h2289 fl_RX12_244 rfl rfl rfl rfl dX12_init_978 (fun hv4708 h4707 => ?_)
    refine GO.iload_n dX12_init_981 rfl rfl ?_
    refine GO.bipush dX12_init_982 rfl ?_
    refine GO.iast (t := 84) rfl rfl (by decide +kernel) h4707 r_i2305 (by omega) (by omega) (ir_c rfl) (by decide) (by decide) dX12_init_984 (fun V4710 e4709 => ?_)
    refine GO.iinc (X := i2305) (n := 1) (Y := i2305 + 1) (ls1 := [some (.ref x), some (ti (i2305 + 1))]) dX12_init_985 rfl rfl rfl rfl ?_
    refine GO.goto (tgt := 972) dX12_init_988 (by decide) ?_
    have e4711 : vi V4710 x 10 = vi Wi2305 x 10 := vi_up e4709 (Or.inl (K_ne h2289 h4707 (by decide)))
    have q4712 : -2147483648 ≤ vi Wi2305 x 10 ∧ vi Wi2305 x 10 ≤ 2147483647 := vi_ir
    have e4713 : vi V4710 x 47 = vi Wi2305 x 47 := vi_up e4709 (Or.inl (K_ne h2289 h4707 (by decide)))
    have q4714 : -2147483648 ≤ vi Wi2305 x 47 ∧ vi Wi2305 x 47 ≤ 2147483647 := vi_ir
    have e4715 : vi V4710 x 48 = vi Wi2305 x 48 := vi_up e4709 (Or.inl (K_ne h2289 h4707 (by decide)))
    have q4716 : -2147483648 ≤ vi Wi2305 x 48 ∧ vi Wi2305 x 48 ≤ 2147483647 := vi_ir
    have e4717 : vi V4710 x 30 = vi Wi2305 x 30 := vi_up e4709 (Or.inl (K_ne h2289 h4707 (by decide)))
    have q4718 : -2147483648 ≤ vi Wi2305 x 30 ∧ vi Wi2305 x 30 ≤ 2147483647 := vi_ir
    have e4719 : vi V4710 x 9 = vi Wi2305 x 9 := vi_up e4709 (Or.inl (K_ne h2289 h4707 (by decide)))
    have q4720 : -2147483648 ≤ vi Wi2305 x 9 ∧ vi Wi2305 x 9 ≤ 2147483647 := vi_ir
    have e4721 : vi V4710 x 2 = vi Wi2305 x 2 := vi_up e4709 (Or.inl (K_ne h2289 h4707 (by decide)))
    have q4722 : -2147483648 ≤ vi Wi2305 x 2 ∧ vi Wi2305 x 2 ≤ 2147483647 := vi_ir
    have e4723 : vi V4710 x 91 = vi Wi2305 x 91 := vi_up e4709 (Or.inl (K_ne h2289 h4707 (by decide)))
    have q4724 : -2147483648 ≤ vi Wi2305 x 91 ∧ vi Wi2305 x 91 ≤ 2147483647 := vi_ir
    have e4725 : vi V4710 x 133 = vi Wi2305 x 133 := vi_up e4709 (Or.inl (K_ne h2289 h4707 (by decide)))
    have q4726 : -2147483648 ≤ vi Wi2305 x 133 ∧ vi Wi2305 x 133 ≤ 2147483647 := vi_ir
    have e4727 : vi V4710 x 120 = vi Wi2305 x 120 := vi_up e4709 (Or.inl (K_ne h2289 h4707 (by decide)))
    have q4728 : -2147483648 ≤ vi Wi2305 x 120 ∧ vi Wi2305 x 120 ≤ 2147483647 := vi_ir
    have e4729 : vi V4710 x 66 = vi Wi2305 x 66 := vi_up e4709 (Or.inl (K_ne h2289 h4707 (by decide)))
    have q4730 : -2147483648 ≤ vi Wi2305 x 66 ∧ vi Wi2305 x 66 ≤ 2147483647 := vi_ir
    have e4731 : vi V4710 x 118 = vi Wi2305 x 118 := vi_up e4709 (Or.inl (K_ne h2289 h4707 (by decide)))
    have q4732 : -2147483648 ≤ vi Wi2305 x 118 ∧ vi Wi2305 x 118 ≤ 2147483647 := vi_ir
    have e4733 : vi V4710 x 137 = vi Wi2305 x 137 := vi_up e4709 (Or.inl (K_ne h2289 h4707 (by decide)))
    have q4734 : -2147483648 ≤ vi Wi2305 x 137 ∧ vi Wi2305 x 137 ≤ 2147483647 := vi_ir
    exact ih3913 (i2305 + 1) V4710 ⟨by omega, by omega, by omega, (by first | assumption | exact ZB.put 109 (by assumption) hWz (by assumption) rfl rfl (by assumption) (by assumption) (by decide)), (by first | assumption | exact ZB.put 110 (by assumption) hWz (by assumption) rfl rfl (by assumption) (by assumption) (by decide)), (by first | assumption | exact ZB.put 30 (by assumption) hWz (by assumption) rfl rfl (by assumption) (by assumption) (by decide)), (by first | assumption | exact MBG.put (by assumption) hWz (by assumption) (by assumption) (by assumption) (by decide)), trivial⟩ (by show (2147483647 - (i2305 + 1)).toNat < (2147483647 - i2305).toNat; omega)
