def mX12_init : MRec := (RX12, cX12_init, 2, (none : Option Jvm.ClassFile.FieldType), yX12_init, 1, 23, 113, 19203, 8498207885068273579033411304839498037273489883632510771191106211206535781025362902823978079484902518213105895774386387355828912333174116938580551385124385758632032909700258804380205056)
set_option maxHeartbeats 8000000 in
theorem t_X12_init {K : Kmap} {V : Vmap} {x : Nat} (h_x : K x = some (0, 23)) (h_d : ∀ j, V x j = defaultValue (tyX12 j)) : MC mX12_init K V [.ref x] (VX (fun K1 V1 => (K1 x = some (0, 11) ∧ vi V1 x 10 = 0 ∧ vi V1 x 47 = 0 ∧ vi V1 x 48 = 0 ∧ vi V1 x 30 = 0 ∧ vi V1 x 9 = 0 ∧ vi V1 x 2 = 0 ∧ vi V1 x 91 = 0 ∧ vi V1 x 133 = 0 ∧ vi V1 x 120 = 0 ∧ vi V1 x 66 = 0 ∧ vi V1 x 118 = 0 ∧ vi V1 x 137 = 0 ∧ vi V1 x 92 = 0 ∧ vi V1 x 3 = 120 ∧ vi V1 x 4 = 239 ∧ ZB V1 x 135 63 ∧ ZB V1 x 136 441 ∧ ZB V1 x 28 60 ∧ ZB V1 x 19 60 ∧ ZB V1 x 20 60 ∧ ZB V1 x 21 60 ∧ ZB V1 x 22 60 ∧ ZB V1 x 23 240 ∧ ZB V1 x 97 10 ∧ ZB V1 x 98 10 ∧ ZB V1 x 99 10 ∧ ZB V1 x 101 10 ∧ ZB V1 x 105 48 ∧ (MBG V1 x 8 8) ∧ (MSF V1 x) ∧ (BRF V1 x)) ∧ KE K K1 x)) := by
  refine MC.start 1 (by decide +kernel) rfl rfl rfl (ls0 := [some (.ref x), none]) rfl ?_
  have pf1 := PF.nil h_d
  refine GO.aload_n dX12_init_0 rfl rfl ?_
  refine GO.objInit dX12_init_1 gw_1477 gw_27 gw_28 rfl rfl ?_
  refine GO.aload_n dX12_init_4 rfl rfl ?_
  refine GO.bipush dX12_init_5 rfl ?_
  refine GO.putRW rfl (by decide +kernel) h_x fp_raw_fp_RX12_7 rfl rfl dX12_init_7 (fun V3 e2 => ?_)
  have pf4 := PF.put pf1 e2 rfl
  clear pf1
  refine GO.aload_n dX12_init_10 rfl rfl ?_
  refine GO.sipush dX12_init_11 rfl ?_
  refine GO.putRW rfl (by decide +kernel) h_x fp_raw_fp_RX12_13 rfl rfl dX12_init_14 (fun V6 e5 => ?_)
  have pf7 := PF.put pf4 e5 rfl
  clear pf4
  refine GO.aload_n dX12_init_17 rfl rfl ?_
  refine GO.sipush dX12_init_18 rfl ?_
  refine GO.newT (atype := .int) 9 144 gw_89 rfl rfl (fun _ _ h => h) rfl rfl rfl (Or.inr rfl) (fun _ => okv_df rfl rfl rfl) rfl rfl dX12_init_21 (fun o8 K9 V15 hq10 hK11 hE12 h13 hz16 hV14 => ?_)
  have h17 := (by rw [hK11, updK_ne (K_old h_x hq10)]; exact h_x : K9 x = some (0, 23))
  have pf18 := PF.nw pf7 hV14 (K_old h_x hq10)
  have h19 := KE.nw KE.rf h_x hq10
  clear pf7
  refine GO.putRF rfl rfl (by decide +kernel) h17 fp_raw_fp_RX12_16 rfl rfl dX12_init_23 (fun V21 e20 => ?_)
  have pf22 := PF.put pf18 e20 rfl
  clear pf18
  refine GO.aload_n dX12_init_26 rfl rfl ?_
  refine GO.sipush dX12_init_27 rfl ?_
  refine GO.newT (atype := .int) 10 144 gw_89 rfl rfl (fun _ _ h => h) rfl rfl rfl (Or.inr rfl) (fun _ => okv_df rfl rfl rfl) rfl rfl dX12_init_30 (fun o23 K24 V30 hq25 hK26 hE27 h28 hz31 hV29 => ?_)
  have h32 := (by rw [hK26, updK_ne (K_old h17 hq25)]; exact h17 : K24 x = some (0, 23))
  have pf33 := PF.nw pf22 hV29 (K_old h17 hq25)
  have h34 := KE.nw (KE.new KE.rf hq10 hK11) h17 hq25
  clear pf22
  refine GO.putRF rfl rfl (by decide +kernel) h32 fp_raw_fp_RX12_20 rfl rfl dX12_init_32 (fun V36 e35 => ?_)
  have pf37 := PF.put pf33 e35 rfl
  clear pf33
  refine GO.aload_n dX12_init_35 rfl rfl ?_
  refine GO.sipush dX12_init_36 rfl ?_
  refine GO.newT (atype := .int) 11 144 gw_89 rfl rfl (fun _ _ h => h) rfl rfl rfl (Or.inr rfl) (fun _ => okv_df rfl rfl rfl) rfl rfl dX12_init_39 (fun o38 K39 V45 hq40 hK41 hE42 h43 hz46 hV44 => ?_)
  have h47 := (by rw [hK41, updK_ne (K_old h32 hq40)]; exact h32 : K39 x = some (0, 23))
  have pf48 := PF.nw pf37 hV44 (K_old h32 hq40)
  have h49 := KE.nw (KE.new (KE.new KE.rf hq10 hK11) hq25 hK26) h32 hq40
  clear pf37
  refine GO.putRF rfl rfl (by decide +kernel) h47 fp_raw_fp_RX12_23 rfl rfl dX12_init_41 (fun V51 e50 => ?_)
  have pf52 := PF.put pf48 e50 rfl
  clear pf48
  refine GO.aload_n dX12_init_44 rfl rfl ?_
  refine GO.sipush dX12_init_45 rfl ?_
  refine GO.newT (atype := .int) 12 144 gw_89 rfl rfl (fun _ _ h => h) rfl rfl rfl (Or.inr rfl) (fun _ => okv_df rfl rfl rfl) rfl rfl dX12_init_48 (fun o53 K54 V60 hq55 hK56 hE57 h58 hz61 hV59 => ?_)
  have h62 := (by rw [hK56, updK_ne (K_old h47 hq55)]; exact h47 : K54 x = some (0, 23))
  have pf63 := PF.nw pf52 hV59 (K_old h47 hq55)
  have h64 := KE.nw (KE.new (KE.new (KE.new KE.rf hq10 hK11) hq25 hK26) hq40 hK41) h47 hq55
  clear pf52
  refine GO.putRF rfl rfl (by decide +kernel) h62 fp_raw_fp_RX12_26 rfl rfl dX12_init_50 (fun V66 e65 => ?_)
  have pf67 := PF.put pf63 e65 rfl
  clear pf63
  refine GO.aload_n dX12_init_53 rfl rfl ?_
  refine GO.bipush dX12_init_54 rfl ?_
  refine GO.newT (atype := .int) 13 9 gw_89 rfl rfl (fun _ _ h => h) rfl rfl rfl (Or.inr rfl) (fun _ => okv_df rfl rfl rfl) rfl rfl dX12_init_56 (fun o68 K69 V75 hq70 hK71 hE72 h73 hz76 hV74 => ?_)
  have h77 := (by rw [hK71, updK_ne (K_old h62 hq70)]; exact h62 : K69 x = some (0, 23))
  have pf78 := PF.nw pf67 hV74 (K_old h62 hq70)
  have h79 := KE.nw (KE.new (KE.new (KE.new (KE.new KE.rf hq10 hK11) hq25 hK26) hq40 hK41) hq55 hK56) h62 hq70
  clear pf67
  refine GO.putRF rfl rfl (by decide +kernel) h77 fp_raw_fp_RX12_29 rfl rfl dX12_init_58 (fun V81 e80 => ?_)
  have pf82 := PF.put pf78 e80 rfl
  clear pf78
  refine GO.aload_n dX12_init_61 rfl rfl ?_
  refine GO.bipush dX12_init_62 rfl ?_
  refine GO.newT (atype := .int) 14 9 gw_89 rfl rfl (fun _ _ h => h) rfl rfl rfl (Or.inr rfl) (fun _ => okv_df rfl rfl rfl) rfl rfl dX12_init_64 (fun o83 K84 V90 hq85 hK86 hE87 h88 hz91 hV89 => ?_)
  have h92 := (by rw [hK86, updK_ne (K_old h77 hq85)]; exact h77 : K84 x = some (0, 23))
  have pf93 := PF.nw pf82 hV89 (K_old h77 hq85)
  have h94 := KE.nw (KE.new (KE.new (KE.new (KE.new (KE.new KE.rf hq10 hK11) hq25 hK26) hq40 hK41) hq55 hK56) hq70 hK71) h77 hq85
  clear pf82
  refine GO.putRF rfl rfl (by decide +kernel) h92 fp_raw_fp_RX12_32 rfl rfl dX12_init_66 (fun V96 e95 => ?_)
  have pf97 := PF.put pf93 e95 rfl
  clear pf93
  refine GO.aload_n dX12_init_69 rfl rfl ?_
  refine GO.bipush dX12_init_70 rfl ?_
  refine GO.newT (atype := .int) 15 60 gw_89 rfl rfl (fun _ _ h => h) rfl rfl rfl (Or.inr rfl) (fun _ => okv_df rfl rfl rfl) rfl rfl dX12_init_72 (fun o98 K99 V105 hq100 hK101 hE102 h103 hz106 hV104 => ?_)
  have h107 := (by rw [hK101, updK_ne (K_old h92 hq100)]; exact h92 : K99 x = some (0, 23))
  have pf108 := PF.nw pf97 hV104 (K_old h92 hq100)
  have h109 := KE.nw (KE.new (KE.new (KE.new (KE.new (KE.new (KE.new KE.rf hq10 hK11) hq25 hK26) hq40 hK41) hq55 hK56) hq70 hK71) hq85 hK86) h92 hq100
  clear pf97
  refine GO.putRF rfl rfl (by decide +kernel) h107 fp_raw_fp_RX12_35 rfl rfl dX12_init_74 (fun V111 e110 => ?_)
  have pf112 := PF.put pf108 e110 rfl
  clear pf108
  refine GO.aload_n dX12_init_77 rfl rfl ?_
  refine GO.bipush dX12_init_78 rfl ?_
  refine GO.newT (atype := .int) 16 60 gw_89 rfl rfl (fun _ _ h => h) rfl rfl rfl (Or.inr rfl) (fun _ => okv_df rfl rfl rfl) rfl rfl dX12_init_80 (fun o113 K114 V120 hq115 hK116 hE117 h118 hz121 hV119 => ?_)
  have h122 := (by rw [hK116, updK_ne (K_old h107 hq115)]; exact h107 : K114 x = some (0, 23))
  have pf123 := PF.nw pf112 hV119 (K_old h107 hq115)
  have h124 := KE.nw (KE.new (KE.new (KE.new (KE.new (KE.new (KE.new (KE.new KE.rf hq10 hK11) hq25 hK26) hq40 hK41) hq55 hK56) hq70 hK71) hq85 hK86) hq100 hK101) h107 hq115
  clear pf112
  refine GO.putRF rfl rfl (by decide +kernel) h122 fp_raw_fp_RX12_38 rfl rfl dX12_init_82 (fun V126 e125 => ?_)
  have pf127 := PF.put pf123 e125 rfl
  clear pf123
  refine GO.aload_n dX12_init_85 rfl rfl ?_
  refine GO.bipush dX12_init_86 rfl ?_
  refine GO.newT (atype := .int) 17 60 gw_89 rfl rfl (fun _ _ h => h) rfl rfl rfl (Or.inr rfl) (fun _ => okv_df rfl rfl rfl) rfl rfl dX12_init_88 (fun o128 K129 V135 hq130 hK131 hE132 h133 hz136 hV134 => ?_)
  have h137 := (by rw [hK131, updK_ne (K_old h122 hq130)]; exact h122 : K129 x = some (0, 23))
  have pf138 := PF.nw pf127 hV134 (K_old h122 hq130)
  have h139 := KE.nw (KE.new (KE.new (KE.new (KE.new (KE.new (KE.new (KE.new (KE.new KE.rf hq10 hK11) hq25 hK26) hq40 hK41) hq55 hK56) hq70 hK71) hq85 hK86) hq100 hK101) hq115 hK116) h122 hq130
  clear pf127
  refine GO.putRF rfl rfl (by decide +kernel) h137 fp_raw_fp_RX12_41 rfl rfl dX12_init_90 (fun V141 e140 => ?_)
  have pf142 := PF.put pf138 e140 rfl
  clear pf138
  refine GO.aload_n dX12_init_93 rfl rfl ?_
  refine GO.bipush dX12_init_94 rfl ?_
  refine GO.newT (atype := .int) 18 60 gw_89 rfl rfl (fun _ _ h => h) rfl rfl rfl (Or.inr rfl) (fun _ => okv_df rfl rfl rfl) rfl rfl dX12_init_96 (fun o143 K144 V150 hq145 hK146 hE147 h148 hz151 hV149 => ?_)
  have h152 := (by rw [hK146, updK_ne (K_old h137 hq145)]; exact h137 : K144 x = some (0, 23))
  have pf153 := PF.nw pf142 hV149 (K_old h137 hq145)
  have h154 := KE.nw (KE.new (KE.new (KE.new (KE.new (KE.new (KE.new (KE.new (KE.new (KE.new KE.rf hq10 hK11) hq25 hK26) hq40 hK41) hq55 hK56) hq70 hK71) hq85 hK86) hq100 hK101) hq115 hK116) hq130 hK131) h137 hq145
  clear pf142
  refine GO.putRF rfl rfl (by decide +kernel) h152 fp_raw_fp_RX12_44 rfl rfl dX12_init_98 (fun V156 e155 => ?_)
  have pf157 := PF.put pf153 e155 rfl
  clear pf153
  refine GO.aload_n dX12_init_101 rfl rfl ?_
  refine GO.bipush dX12_init_102 rfl ?_
  refine GO.newT (atype := .int) 19 60 gw_89 rfl rfl (fun _ _ h => h) rfl rfl rfl (Or.inr rfl) (fun _ => okv_df rfl rfl rfl) rfl rfl dX12_init_104 (fun o158 K159 V165 hq160 hK161 hE162 h163 hz166 hV164 => ?_)
  have h167 := (by rw [hK161, updK_ne (K_old h152 hq160)]; exact h152 : K159 x = some (0, 23))
  have pf168 := PF.nw pf157 hV164 (K_old h152 hq160)
  have h169 := KE.nw (KE.new (KE.new (KE.new (KE.new (KE.new (KE.new (KE.new (KE.new (KE.new (KE.new KE.rf hq10 hK11) hq25 hK26) hq40 hK41) hq55 hK56) hq70 hK71) hq85 hK86) hq100 hK101) hq115 hK116) hq130 hK131) hq145 hK146) h152 hq160
  clear pf157
  refine GO.putRF rfl rfl (by decide +kernel) h167 fp_raw_fp_RX12_47 rfl rfl dX12_init_106 (fun V171 e170 => ?_)
  have pf172 := PF.put pf168 e170 rfl
  clear pf168
  refine GO.aload_n dX12_init_109 rfl rfl ?_
  refine GO.bipush dX12_init_110 rfl ?_
  refine GO.newT (atype := .int) 20 60 gw_89 rfl rfl (fun _ _ h => h) rfl rfl rfl (Or.inr rfl) (fun _ => okv_df rfl rfl rfl) rfl rfl dX12_init_112 (fun o173 K174 V180 hq175 hK176 hE177 h178 hz181 hV179 => ?_)
  have h182 := (by rw [hK176, updK_ne (K_old h167 hq175)]; exact h167 : K174 x = some (0, 23))
  have pf183 := PF.nw pf172 hV179 (K_old h167 hq175)
  have h184 := KE.nw (KE.new (KE.new (KE.new (KE.new (KE.new (KE.new (KE.new (KE.new (KE.new (KE.new (KE.new KE.rf hq10 hK11) hq25 hK26) hq40 hK41) hq55 hK56) hq70 hK71) hq85 hK86) hq100 hK101) hq115 hK116) hq130 hK131) hq145 hK146) hq160 hK161) h167 hq175
  clear pf172
  refine GO.putRF rfl rfl (by decide +kernel) h182 fp_raw_fp_RX12_50 rfl rfl dX12_init_114 (fun V186 e185 => ?_)
  have pf187 := PF.put pf183 e185 rfl
  clear pf183
  refine GO.aload_n dX12_init_117 rfl rfl ?_
  refine GO.bipush dX12_init_118 rfl ?_
  refine GO.newT (atype := .int) 21 60 gw_89 rfl rfl (fun _ _ h => h) rfl rfl rfl (Or.inr rfl) (fun _ => okv_df rfl rfl rfl) rfl rfl dX12_init_120 (fun o188 K189 V195 hq190 hK191 hE192 h193 hz196 hV194 => ?_)
  have h197 := (by rw [hK191, updK_ne (K_old h182 hq190)]; exact h182 : K189 x = some (0, 23))
  have pf198 := PF.nw pf187 hV194 (K_old h182 hq190)
  have hz199 : ∀ j, V195 o188 j = .int 0 := hz196
  have h200 := KE.nw (KE.new (KE.new (KE.new (KE.new (KE.new (KE.new (KE.new (KE.new (KE.new (KE.new (KE.new (KE.new KE.rf hq10 hK11) hq25 hK26) hq40 hK41) hq55 hK56) hq70 hK71) hq85 hK86) hq100 hK101) hq115 hK116) hq130 hK131) hq145 hK146) hq160 hK161) hq175 hK176) h182 hq190
  clear pf187
  refine GO.putRF rfl rfl (by decide +kernel) h197 fp_raw_fp_RX12_53 rfl rfl dX12_init_122 (fun V202 e201 => ?_)
  have pf203 := PF.put pf198 e201 rfl
  have hz204 : ∀ j, V202 o188 j = .int 0 := fun j => (uq_ne e201 (Or.inl (K_ne h193 h197 (by decide)))).trans (hz199 j)
  clear pf198 hz199
  refine GO.aload_n dX12_init_125 rfl rfl ?_
  refine GO.bipush dX12_init_126 rfl ?_
  refine GO.newT (atype := .int) 22 60 gw_89 rfl rfl (fun _ _ h => h) rfl rfl rfl (Or.inr rfl) (fun _ => okv_df rfl rfl rfl) rfl rfl dX12_init_128 (fun o205 K206 V212 hq207 hK208 hE209 h210 hz213 hV211 => ?_)
  have h214 := (by rw [hK208, updK_ne (K_old h197 hq207)]; exact h197 : K206 x = some (0, 23))
  have pf215 := PF.nw pf203 hV211 (K_old h197 hq207)
  have kz217 := hE209.arr h193
  have hz216 : ∀ j, V212 o188 j = .int 0 := fun j => (congrFun (hV211 _ (K_old h193 hq207)) j).trans (hz204 j)
  have hz218 : ∀ j, V212 o205 j = .int 0 := hz213
  have h219 := KE.nw (KE.new (KE.new (KE.new (KE.new (KE.new (KE.new (KE.new (KE.new (KE.new (KE.new (KE.new (KE.new (KE.new KE.rf hq10 hK11) hq25 hK26) hq40 hK41) hq55 hK56) hq70 hK71) hq85 hK86) hq100 hK101) hq115 hK116) hq130 hK131) hq145 hK146) hq160 hK161) hq175 hK176) hq190 hK191) h197 hq207
  clear pf203 hz204
  refine GO.putRF rfl rfl (by decide +kernel) h214 fp_raw_fp_RX12_56 rfl rfl dX12_init_130 (fun V221 e220 => ?_)
  have pf222 := PF.put pf215 e220 rfl
  have hz223 : ∀ j, V221 o188 j = .int 0 := fun j => (uq_ne e220 (Or.inl (K_ne kz217 h214 (by decide)))).trans (hz216 j)
  have hz224 : ∀ j, V221 o205 j = .int 0 := fun j => (uq_ne e220 (Or.inl (K_ne h210 h214 (by decide)))).trans (hz218 j)
  clear pf215 hz216 hz218
  refine GO.aload_n dX12_init_133 rfl rfl ?_
  refine GO.bipush dX12_init_134 rfl ?_
  refine GO.newT (atype := .int) 23 60 gw_89 rfl rfl (fun _ _ h => h) rfl rfl rfl (Or.inr rfl) (fun _ => okv_df rfl rfl rfl) rfl rfl dX12_init_136 (fun o225 K226 V232 hq227 hK228 hE229 h230 hz233 hV231 => ?_)
  have h234 := (by rw [hK228, updK_ne (K_old h214 hq227)]; exact h214 : K226 x = some (0, 23))
  have pf235 := PF.nw pf222 hV231 (K_old h214 hq227)
  have kz237 := hE229.arr kz217
  have hz236 : ∀ j, V232 o188 j = .int 0 := fun j => (congrFun (hV231 _ (K_old kz217 hq227)) j).trans (hz223 j)
  have kz239 := hE229.arr h210
  have hz238 : ∀ j, V232 o205 j = .int 0 := fun j => (congrFun (hV231 _ (K_old h210 hq227)) j).trans (hz224 j)
  have hz240 : ∀ j, V232 o225 j = .int 0 := hz233
  have h241 := KE.nw (KE.new (KE.new (KE.new (KE.new (KE.new (KE.new (KE.new (KE.new (KE.new (KE.new (KE.new (KE.new (KE.new (KE.new KE.rf hq10 hK11) hq25 hK26) hq40 hK41) hq55 hK56) hq70 hK71) hq85 hK86) hq100 hK101) hq115 hK116) hq130 hK131) hq145 hK146) hq160 hK161) hq175 hK176) hq190 hK191) hq207 hK208) h214 hq227
  clear pf222 kz217 hz223 hz224
  refine GO.putRF rfl rfl (by decide +kernel) h234 fp_raw_fp_RX12_59 rfl rfl dX12_init_138 (fun V243 e242 => ?_)
  have pf244 := PF.put pf235 e242 rfl
  have hz245 : ∀ j, V243 o188 j = .int 0 := fun j => (uq_ne e242 (Or.inl (K_ne kz237 h234 (by decide)))).trans (hz236 j)
  have hz246 : ∀ j, V243 o205 j = .int 0 := fun j => (uq_ne e242 (Or.inl (K_ne kz239 h234 (by decide)))).trans (hz238 j)
  have hz247 : ∀ j, V243 o225 j = .int 0 := fun j => (uq_ne e242 (Or.inl (K_ne h230 h234 (by decide)))).trans (hz240 j)
  clear pf235 hz236 hz238 hz240
  refine GO.aload_n dX12_init_141 rfl rfl ?_
  refine GO.bipush dX12_init_142 rfl ?_
  refine GO.newT (atype := .int) 24 60 gw_89 rfl rfl (fun _ _ h => h) rfl rfl rfl (Or.inr rfl) (fun _ => okv_df rfl rfl rfl) rfl rfl dX12_init_144 (fun o248 K249 V255 hq250 hK251 hE252 h253 hz256 hV254 => ?_)
  have h257 := (by rw [hK251, updK_ne (K_old h234 hq250)]; exact h234 : K249 x = some (0, 23))
  have pf258 := PF.nw pf244 hV254 (K_old h234 hq250)
  have kz260 := hE252.arr kz237
  have hz259 : ∀ j, V255 o188 j = .int 0 := fun j => (congrFun (hV254 _ (K_old kz237 hq250)) j).trans (hz245 j)
  have kz262 := hE252.arr kz239
  have hz261 : ∀ j, V255 o205 j = .int 0 := fun j => (congrFun (hV254 _ (K_old kz239 hq250)) j).trans (hz246 j)
  have kz264 := hE252.arr h230
  have hz263 : ∀ j, V255 o225 j = .int 0 := fun j => (congrFun (hV254 _ (K_old h230 hq250)) j).trans (hz247 j)
  have hz265 : ∀ j, V255 o248 j = .int 0 := hz256
  have h266 := KE.nw (KE.new (KE.new (KE.new (KE.new (KE.new (KE.new (KE.new (KE.new (KE.new (KE.new (KE.new (KE.new (KE.new (KE.new (KE.new KE.rf hq10 hK11) hq25 hK26) hq40 hK41) hq55 hK56) hq70 hK71) hq85 hK86) hq100 hK101) hq115 hK116) hq130 hK131) hq145 hK146) hq160 hK161) hq175 hK176) hq190 hK191) hq207 hK208) hq227 hK228) h234 hq250
  clear pf244 kz237 hz245 kz239 hz246 hz247
  refine GO.putRF rfl rfl (by decide +kernel) h257 fp_raw_fp_RX12_62 rfl rfl dX12_init_146 (fun V268 e267 => ?_)
  have pf269 := PF.put pf258 e267 rfl
  have hz270 : ∀ j, V268 o188 j = .int 0 := fun j => (uq_ne e267 (Or.inl (K_ne kz260 h257 (by decide)))).trans (hz259 j)
  have hz271 : ∀ j, V268 o205 j = .int 0 := fun j => (uq_ne e267 (Or.inl (K_ne kz262 h257 (by decide)))).trans (hz261 j)
  have hz272 : ∀ j, V268 o225 j = .int 0 := fun j => (uq_ne e267 (Or.inl (K_ne kz264 h257 (by decide)))).trans (hz263 j)
  have hz273 : ∀ j, V268 o248 j = .int 0 := fun j => (uq_ne e267 (Or.inl (K_ne h253 h257 (by decide)))).trans (hz265 j)
  clear pf258 hz259 hz261 hz263 hz265
  refine GO.aload_n dX12_init_149 rfl rfl ?_
  refine GO.sipush dX12_init_150 rfl ?_
  refine GO.newT (atype := .int) 25 240 gw_89 rfl rfl (fun _ _ h => h) rfl rfl rfl (Or.inr rfl) (fun _ => okv_df rfl rfl rfl) rfl rfl dX12_init_153 (fun o274 K275 V281 hq276 hK277 hE278 h279 hz282 hV280 => ?_)
  have h283 := (by rw [hK277, updK_ne (K_old h257 hq276)]; exact h257 : K275 x = some (0, 23))
  have pf284 := PF.nw pf269 hV280 (K_old h257 hq276)
  have kz286 := hE278.arr kz260
  have hz285 : ∀ j, V281 o188 j = .int 0 := fun j => (congrFun (hV280 _ (K_old kz260 hq276)) j).trans (hz270 j)
  have kz288 := hE278.arr kz262
  have hz287 : ∀ j, V281 o205 j = .int 0 := fun j => (congrFun (hV280 _ (K_old kz262 hq276)) j).trans (hz271 j)
  have kz290 := hE278.arr kz264
  have hz289 : ∀ j, V281 o225 j = .int 0 := fun j => (congrFun (hV280 _ (K_old kz264 hq276)) j).trans (hz272 j)
  have kz292 := hE278.arr h253
  have hz291 : ∀ j, V281 o248 j = .int 0 := fun j => (congrFun (hV280 _ (K_old h253 hq276)) j).trans (hz273 j)
  have hz293 : ∀ j, V281 o274 j = .int 0 := hz282
  have h294 := KE.nw (KE.new (KE.new (KE.new (KE.new (KE.new (KE.new (KE.new (KE.new (KE.new (KE.new (KE.new (KE.new (KE.new (KE.new (KE.new (KE.new KE.rf hq10 hK11) hq25 hK26) hq40 hK41) hq55 hK56) hq70 hK71) hq85 hK86) hq100 hK101) hq115 hK116) hq130 hK131) hq145 hK146) hq160 hK161) hq175 hK176) hq190 hK191) hq207 hK208) hq227 hK228) hq250 hK251) h257 hq276
  clear pf269 kz260 hz270 kz262 hz271 kz264 hz272 hz273
  refine GO.putRF rfl rfl (by decide +kernel) h283 fp_raw_fp_RX12_65 rfl rfl dX12_init_155 (fun V296 e295 => ?_)
  have pf297 := PF.put pf284 e295 rfl
  have hz298 : ∀ j, V296 o188 j = .int 0 := fun j => (uq_ne e295 (Or.inl (K_ne kz286 h283 (by decide)))).trans (hz285 j)
  have hz299 : ∀ j, V296 o205 j = .int 0 := fun j => (uq_ne e295 (Or.inl (K_ne kz288 h283 (by decide)))).trans (hz287 j)
  have hz300 : ∀ j, V296 o225 j = .int 0 := fun j => (uq_ne e295 (Or.inl (K_ne kz290 h283 (by decide)))).trans (hz289 j)
  have hz301 : ∀ j, V296 o248 j = .int 0 := fun j => (uq_ne e295 (Or.inl (K_ne kz292 h283 (by decide)))).trans (hz291 j)
  have hz302 : ∀ j, V296 o274 j = .int 0 := fun j => (uq_ne e295 (Or.inl (K_ne h279 h283 (by decide)))).trans (hz293 j)
  clear pf284 hz285 hz287 hz289 hz291 hz293
  refine GO.aload_n dX12_init_158 rfl rfl ?_
  refine GO.bipush dX12_init_159 rfl ?_
  refine GO.newT (atype := .int) 26 60 gw_89 rfl rfl (fun _ _ h => h) rfl rfl rfl (Or.inr rfl) (fun _ => okv_df rfl rfl rfl) rfl rfl dX12_init_161 (fun o303 K304 V310 hq305 hK306 hE307 h308 hz311 hV309 => ?_)
  have h312 := (by rw [hK306, updK_ne (K_old h283 hq305)]; exact h283 : K304 x = some (0, 23))
  have pf313 := PF.nw pf297 hV309 (K_old h283 hq305)
  have kz315 := hE307.arr kz286
  have hz314 : ∀ j, V310 o188 j = .int 0 := fun j => (congrFun (hV309 _ (K_old kz286 hq305)) j).trans (hz298 j)
  have kz317 := hE307.arr kz288
  have hz316 : ∀ j, V310 o205 j = .int 0 := fun j => (congrFun (hV309 _ (K_old kz288 hq305)) j).trans (hz299 j)
  have kz319 := hE307.arr kz290
  have hz318 : ∀ j, V310 o225 j = .int 0 := fun j => (congrFun (hV309 _ (K_old kz290 hq305)) j).trans (hz300 j)
  have kz321 := hE307.arr kz292
  have hz320 : ∀ j, V310 o248 j = .int 0 := fun j => (congrFun (hV309 _ (K_old kz292 hq305)) j).trans (hz301 j)
  have kz323 := hE307.arr h279
  have hz322 : ∀ j, V310 o274 j = .int 0 := fun j => (congrFun (hV309 _ (K_old h279 hq305)) j).trans (hz302 j)
  have h324 := KE.nw (KE.new (KE.new (KE.new (KE.new (KE.new (KE.new (KE.new (KE.new (KE.new (KE.new (KE.new (KE.new (KE.new (KE.new (KE.new (KE.new (KE.new KE.rf hq10 hK11) hq25 hK26) hq40 hK41) hq55 hK56) hq70 hK71) hq85 hK86) hq100 hK101) hq115 hK116) hq130 hK131) hq145 hK146) hq160 hK161) hq175 hK176) hq190 hK191) hq207 hK208) hq227 hK228) hq250 hK251) hq276 hK277) h283 hq305
  clear pf297 kz286 hz298 kz288 hz299 kz290 hz300 kz292 hz301 hz302
  refine GO.putRF rfl rfl (by decide +kernel) h312 fp_raw_fp_RX12_68 rfl rfl dX12_init_163 (fun V326 e325 => ?_)
  have pf327 := PF.put pf313 e325 rfl
  have hz328 : ∀ j, V326 o188 j = .int 0 := fun j => (uq_ne e325 (Or.inl (K_ne kz315 h312 (by decide)))).trans (hz314 j)
  have hz329 : ∀ j, V326 o205 j = .int 0 := fun j => (uq_ne e325 (Or.inl (K_ne kz317 h312 (by decide)))).trans (hz316 j)
  have hz330 : ∀ j, V326 o225 j = .int 0 := fun j => (uq_ne e325 (Or.inl (K_ne kz319 h312 (by decide)))).trans (hz318 j)
  have hz331 : ∀ j, V326 o248 j = .int 0 := fun j => (uq_ne e325 (Or.inl (K_ne kz321 h312 (by decide)))).trans (hz320 j)
  have hz332 : ∀ j, V326 o274 j = .int 0 := fun j => (uq_ne e325 (Or.inl (K_ne kz323 h312 (by decide)))).trans (hz322 j)
  clear pf313 hz314 hz316 hz318 hz320 hz322
  refine GO.aload_n dX12_init_166 rfl rfl ?_
  refine GO.bipush dX12_init_167 rfl ?_
  refine GO.newT (atype := .int) 27 60 gw_89 rfl rfl (fun _ _ h => h) rfl rfl rfl (Or.inr rfl) (fun _ => okv_df rfl rfl rfl) rfl rfl dX12_init_169 (fun o333 K334 V340 hq335 hK336 hE337 h338 hz341 hV339 => ?_)
  have h342 := (by rw [hK336, updK_ne (K_old h312 hq335)]; exact h312 : K334 x = some (0, 23))
  have pf343 := PF.nw pf327 hV339 (K_old h312 hq335)
  have kz345 := hE337.arr kz315
  have hz344 : ∀ j, V340 o188 j = .int 0 := fun j => (congrFun (hV339 _ (K_old kz315 hq335)) j).trans (hz328 j)
  have kz347 := hE337.arr kz317
  have hz346 : ∀ j, V340 o205 j = .int 0 := fun j => (congrFun (hV339 _ (K_old kz317 hq335)) j).trans (hz329 j)
  have kz349 := hE337.arr kz319
  have hz348 : ∀ j, V340 o225 j = .int 0 := fun j => (congrFun (hV339 _ (K_old kz319 hq335)) j).trans (hz330 j)
  have kz351 := hE337.arr kz321
  have hz350 : ∀ j, V340 o248 j = .int 0 := fun j => (congrFun (hV339 _ (K_old kz321 hq335)) j).trans (hz331 j)
  have kz353 := hE337.arr kz323
  have hz352 : ∀ j, V340 o274 j = .int 0 := fun j => (congrFun (hV339 _ (K_old kz323 hq335)) j).trans (hz332 j)
  have h354 := KE.nw (KE.new (KE.new (KE.new (KE.new (KE.new (KE.new (KE.new (KE.new (KE.new (KE.new (KE.new (KE.new (KE.new (KE.new (KE.new (KE.new (KE.new (KE.new KE.rf hq10 hK11) hq25 hK26) hq40 hK41) hq55 hK56) hq70 hK71) hq85 hK86) hq100 hK101) hq115 hK116) hq130 hK131) hq145 hK146) hq160 hK161) hq175 hK176) hq190 hK191) hq207 hK208) hq227 hK228) hq250 hK251) hq276 hK277) hq305 hK306) h312 hq335
  clear pf327 kz315 hz328 kz317 hz329 kz319 hz330 kz321 hz331 kz323 hz332
  refine GO.putRF rfl rfl (by decide +kernel) h342 fp_raw_fp_RX12_71 rfl rfl dX12_init_171 (fun V356 e355 => ?_)
  have pf357 := PF.put pf343 e355 rfl
  have hz358 : ∀ j, V356 o188 j = .int 0 := fun j => (uq_ne e355 (Or.inl (K_ne kz345 h342 (by decide)))).trans (hz344 j)
  have hz359 : ∀ j, V356 o205 j = .int 0 := fun j => (uq_ne e355 (Or.inl (K_ne kz347 h342 (by decide)))).trans (hz346 j)
  have hz360 : ∀ j, V356 o225 j = .int 0 := fun j => (uq_ne e355 (Or.inl (K_ne kz349 h342 (by decide)))).trans (hz348 j)
  have hz361 : ∀ j, V356 o248 j = .int 0 := fun j => (uq_ne e355 (Or.inl (K_ne kz351 h342 (by decide)))).trans (hz350 j)
  have hz362 : ∀ j, V356 o274 j = .int 0 := fun j => (uq_ne e355 (Or.inl (K_ne kz353 h342 (by decide)))).trans (hz352 j)
  clear pf343 hz344 hz346 hz348 hz350 hz352
  refine GO.aload_n dX12_init_174 rfl rfl ?_
  refine GO.sipush dX12_init_175 rfl ?_
  refine GO.newT (atype := .int) 28 600 gw_89 rfl rfl (fun _ _ h => h) rfl rfl rfl (Or.inr rfl) (fun _ => okv_df rfl rfl rfl) rfl rfl dX12_init_178 (fun o363 K364 V370 hq365 hK366 hE367 h368 hz371 hV369 => ?_)
  have h372 := (by rw [hK366, updK_ne (K_old h342 hq365)]; exact h342 : K364 x = some (0, 23))
  have pf373 := PF.nw pf357 hV369 (K_old h342 hq365)
  have kz375 := hE367.arr kz345
  have hz374 : ∀ j, V370 o188 j = .int 0 := fun j => (congrFun (hV369 _ (K_old kz345 hq365)) j).trans (hz358 j)
  have kz377 := hE367.arr kz347
  have hz376 : ∀ j, V370 o205 j = .int 0 := fun j => (congrFun (hV369 _ (K_old kz347 hq365)) j).trans (hz359 j)
  have kz379 := hE367.arr kz349
  have hz378 : ∀ j, V370 o225 j = .int 0 := fun j => (congrFun (hV369 _ (K_old kz349 hq365)) j).trans (hz360 j)
  have kz381 := hE367.arr kz351
  have hz380 : ∀ j, V370 o248 j = .int 0 := fun j => (congrFun (hV369 _ (K_old kz351 hq365)) j).trans (hz361 j)
  have kz383 := hE367.arr kz353
  have hz382 : ∀ j, V370 o274 j = .int 0 := fun j => (congrFun (hV369 _ (K_old kz353 hq365)) j).trans (hz362 j)
  have h384 := KE.nw (KE.new (KE.new (KE.new (KE.new (KE.new (KE.new (KE.new (KE.new (KE.new (KE.new (KE.new (KE.new (KE.new (KE.new (KE.new (KE.new (KE.new (KE.new (KE.new KE.rf hq10 hK11) hq25 hK26) hq40 hK41) hq55 hK56) hq70 hK71) hq85 hK86) hq100 hK101) hq115 hK116) hq130 hK131) hq145 hK146) hq160 hK161) hq175 hK176) hq190 hK191) hq207 hK208) hq227 hK228) hq250 hK251) hq276 hK277) hq305 hK306) hq335 hK336) h342 hq365
  clear pf357 kz345 hz358 kz347 hz359 kz349 hz360 kz351 hz361 kz353 hz362
  refine GO.putRF rfl rfl (by decide +kernel) h372 fp_raw_fp_RX12_74 rfl rfl dX12_init_180 (fun V386 e385 => ?_)
  have pf387 := PF.put pf373 e385 rfl
  have hz388 : ∀ j, V386 o188 j = .int 0 := fun j => (uq_ne e385 (Or.inl (K_ne kz375 h372 (by decide)))).trans (hz374 j)
  have hz389 : ∀ j, V386 o205 j = .int 0 := fun j => (uq_ne e385 (Or.inl (K_ne kz377 h372 (by decide)))).trans (hz376 j)
  have hz390 : ∀ j, V386 o225 j = .int 0 := fun j => (uq_ne e385 (Or.inl (K_ne kz379 h372 (by decide)))).trans (hz378 j)
  have hz391 : ∀ j, V386 o248 j = .int 0 := fun j => (uq_ne e385 (Or.inl (K_ne kz381 h372 (by decide)))).trans (hz380 j)
  have hz392 : ∀ j, V386 o274 j = .int 0 := fun j => (uq_ne e385 (Or.inl (K_ne kz383 h372 (by decide)))).trans (hz382 j)
  clear pf373 hz374 hz376 hz378 hz380 hz382
  refine GO.aload_n dX12_init_183 rfl rfl ?_
  refine GO.sipush dX12_init_184 rfl ?_
  refine GO.newT (atype := .int) 29 600 gw_89 rfl rfl (fun _ _ h => h) rfl rfl rfl (Or.inr rfl) (fun _ => okv_df rfl rfl rfl) rfl rfl dX12_init_187 (fun o393 K394 V400 hq395 hK396 hE397 h398 hz401 hV399 => ?_)
  have h402 := (by rw [hK396, updK_ne (K_old h372 hq395)]; exact h372 : K394 x = some (0, 23))
  have pf403 := PF.nw pf387 hV399 (K_old h372 hq395)
  have kz405 := hE397.arr kz375
  have hz404 : ∀ j, V400 o188 j = .int 0 := fun j => (congrFun (hV399 _ (K_old kz375 hq395)) j).trans (hz388 j)
  have kz407 := hE397.arr kz377
  have hz406 : ∀ j, V400 o205 j = .int 0 := fun j => (congrFun (hV399 _ (K_old kz377 hq395)) j).trans (hz389 j)
  have kz409 := hE397.arr kz379
  have hz408 : ∀ j, V400 o225 j = .int 0 := fun j => (congrFun (hV399 _ (K_old kz379 hq395)) j).trans (hz390 j)
  have kz411 := hE397.arr kz381
  have hz410 : ∀ j, V400 o248 j = .int 0 := fun j => (congrFun (hV399 _ (K_old kz381 hq395)) j).trans (hz391 j)
  have kz413 := hE397.arr kz383
  have hz412 : ∀ j, V400 o274 j = .int 0 := fun j => (congrFun (hV399 _ (K_old kz383 hq395)) j).trans (hz392 j)
  have h414 := KE.nw (KE.new (KE.new (KE.new (KE.new (KE.new (KE.new (KE.new (KE.new (KE.new (KE.new (KE.new (KE.new (KE.new (KE.new (KE.new (KE.new (KE.new (KE.new (KE.new (KE.new KE.rf hq10 hK11) hq25 hK26) hq40 hK41) hq55 hK56) hq70 hK71) hq85 hK86) hq100 hK101) hq115 hK116) hq130 hK131) hq145 hK146) hq160 hK161) hq175 hK176) hq190 hK191) hq207 hK208) hq227 hK228) hq250 hK251) hq276 hK277) hq305 hK306) hq335 hK336) hq365 hK366) h372 hq395
  clear pf387 kz375 hz388 kz377 hz389 kz379 hz390 kz381 hz391 kz383 hz392
  refine GO.putRF rfl rfl (by decide +kernel) h402 fp_raw_fp_RX12_77 rfl rfl dX12_init_189 (fun V416 e415 => ?_)
  have pf417 := PF.put pf403 e415 rfl
  have hz418 : ∀ j, V416 o188 j = .int 0 := fun j => (uq_ne e415 (Or.inl (K_ne kz405 h402 (by decide)))).trans (hz404 j)
  have hz419 : ∀ j, V416 o205 j = .int 0 := fun j => (uq_ne e415 (Or.inl (K_ne kz407 h402 (by decide)))).trans (hz406 j)
  have hz420 : ∀ j, V416 o225 j = .int 0 := fun j => (uq_ne e415 (Or.inl (K_ne kz409 h402 (by decide)))).trans (hz408 j)
  have hz421 : ∀ j, V416 o248 j = .int 0 := fun j => (uq_ne e415 (Or.inl (K_ne kz411 h402 (by decide)))).trans (hz410 j)
  have hz422 : ∀ j, V416 o274 j = .int 0 := fun j => (uq_ne e415 (Or.inl (K_ne kz413 h402 (by decide)))).trans (hz412 j)
  clear pf403 hz404 hz406 hz408 hz410 hz412
  refine GO.aload_n dX12_init_192 rfl rfl ?_
  refine GO.bipush dX12_init_193 rfl ?_
  refine GO.newT (atype := .boolean) 30 60 gw_1936 rfl rfl (fun _ _ h => h) rfl rfl rfl (Or.inr rfl) (fun _ => okv_df rfl rfl rfl) rfl rfl dX12_init_195 (fun o423 K424 V430 hq425 hK426 hE427 h428 hz431 hV429 => ?_)
  have h432 := (by rw [hK426, updK_ne (K_old h402 hq425)]; exact h402 : K424 x = some (0, 23))
  have pf433 := PF.nw pf417 hV429 (K_old h402 hq425)
  have kz435 := hE427.arr kz405
  have hz434 : ∀ j, V430 o188 j = .int 0 := fun j => (congrFun (hV429 _ (K_old kz405 hq425)) j).trans (hz418 j)
  have kz437 := hE427.arr kz407
  have hz436 : ∀ j, V430 o205 j = .int 0 := fun j => (congrFun (hV429 _ (K_old kz407 hq425)) j).trans (hz419 j)
  have kz439 := hE427.arr kz409
  have hz438 : ∀ j, V430 o225 j = .int 0 := fun j => (congrFun (hV429 _ (K_old kz409 hq425)) j).trans (hz420 j)
  have kz441 := hE427.arr kz411
  have hz440 : ∀ j, V430 o248 j = .int 0 := fun j => (congrFun (hV429 _ (K_old kz411 hq425)) j).trans (hz421 j)
  have kz443 := hE427.arr kz413
  have hz442 : ∀ j, V430 o274 j = .int 0 := fun j => (congrFun (hV429 _ (K_old kz413 hq425)) j).trans (hz422 j)
  have hz444 : ∀ j, V430 o423 j = .int 0 := hz431
  have h445 := KE.nw (KE.new (KE.new (KE.new (KE.new (KE.new (KE.new (KE.new (KE.new (KE.new (KE.new (KE.new (KE.new (KE.new (KE.new (KE.new (KE.new (KE.new (KE.new (KE.new (KE.new (KE.new KE.rf hq10 hK11) hq25 hK26) hq40 hK41) hq55 hK56) hq70 hK71) hq85 hK86) hq100 hK101) hq115 hK116) hq130 hK131) hq145 hK146) hq160 hK161) hq175 hK176) hq190 hK191) hq207 hK208) hq227 hK228) hq250 hK251) hq276 hK277) hq305 hK306) hq335 hK336) hq365 hK366) hq395 hK396) h402 hq425
  clear pf417 kz405 hz418 kz407 hz419 kz409 hz420 kz411 hz421 kz413 hz422
  refine GO.putRF rfl rfl (by decide +kernel) h432 fp_raw_fp_RX12_80 rfl rfl dX12_init_197 (fun V447 e446 => ?_)
  have pf448 := PF.put pf433 e446 rfl
  have hz449 : ∀ j, V447 o188 j = .int 0 := fun j => (uq_ne e446 (Or.inl (K_ne kz435 h432 (by decide)))).trans (hz434 j)
  have hz450 : ∀ j, V447 o205 j = .int 0 := fun j => (uq_ne e446 (Or.inl (K_ne kz437 h432 (by decide)))).trans (hz436 j)
  have hz451 : ∀ j, V447 o225 j = .int 0 := fun j => (uq_ne e446 (Or.inl (K_ne kz439 h432 (by decide)))).trans (hz438 j)
  have hz452 : ∀ j, V447 o248 j = .int 0 := fun j => (uq_ne e446 (Or.inl (K_ne kz441 h432 (by decide)))).trans (hz440 j)
  have hz453 : ∀ j, V447 o274 j = .int 0 := fun j => (uq_ne e446 (Or.inl (K_ne kz443 h432 (by decide)))).trans (hz442 j)
  have hz454 : ∀ j, V447 o423 j = .int 0 := fun j => (uq_ne e446 (Or.inl (K_ne h428 h432 (by decide)))).trans (hz444 j)
  clear pf433 hz434 hz436 hz438 hz440 hz442 hz444
  refine GO.aload_n dX12_init_200 rfl rfl ?_
  refine GO.sipush dX12_init_201 rfl ?_
  refine GO.newT (atype := .byte) 31 400 gw_815 rfl rfl (fun _ _ h => h) rfl rfl rfl (Or.inr rfl) (fun _ => okv_df rfl rfl rfl) rfl rfl dX12_init_204 (fun o455 K456 V462 hq457 hK458 hE459 h460 hz463 hV461 => ?_)
  have h464 := (by rw [hK458, updK_ne (K_old h432 hq457)]; exact h432 : K456 x = some (0, 23))
  have pf465 := PF.nw pf448 hV461 (K_old h432 hq457)
  have kz467 := hE459.arr kz435
  have hz466 : ∀ j, V462 o188 j = .int 0 := fun j => (congrFun (hV461 _ (K_old kz435 hq457)) j).trans (hz449 j)
  have kz469 := hE459.arr kz437
  have hz468 : ∀ j, V462 o205 j = .int 0 := fun j => (congrFun (hV461 _ (K_old kz437 hq457)) j).trans (hz450 j)
  have kz471 := hE459.arr kz439
  have hz470 : ∀ j, V462 o225 j = .int 0 := fun j => (congrFun (hV461 _ (K_old kz439 hq457)) j).trans (hz451 j)
  have kz473 := hE459.arr kz441
  have hz472 : ∀ j, V462 o248 j = .int 0 := fun j => (congrFun (hV461 _ (K_old kz441 hq457)) j).trans (hz452 j)
  have kz475 := hE459.arr kz443
  have hz474 : ∀ j, V462 o274 j = .int 0 := fun j => (congrFun (hV461 _ (K_old kz443 hq457)) j).trans (hz453 j)
  have kz477 := hE459.arr h428
  have hz476 : ∀ j, V462 o423 j = .int 0 := fun j => (congrFun (hV461 _ (K_old h428 hq457)) j).trans (hz454 j)
  have h478 := KE.nw (KE.new (KE.new (KE.new (KE.new (KE.new (KE.new (KE.new (KE.new (KE.new (KE.new (KE.new (KE.new (KE.new (KE.new (KE.new (KE.new (KE.new (KE.new (KE.new (KE.new (KE.new (KE.new KE.rf hq10 hK11) hq25 hK26) hq40 hK41) hq55 hK56) hq70 hK71) hq85 hK86) hq100 hK101) hq115 hK116) hq130 hK131) hq145 hK146) hq160 hK161) hq175 hK176) hq190 hK191) hq207 hK208) hq227 hK228) hq250 hK251) hq276 hK277) hq305 hK306) hq335 hK336) hq365 hK366) hq395 hK396) hq425 hK426) h432 hq457
  clear pf448 kz435 hz449 kz437 hz450 kz439 hz451 kz441 hz452 kz443 hz453 hz454
  refine GO.putRF rfl rfl (by decide +kernel) h464 fp_raw_fp_RX12_84 rfl rfl dX12_init_206 (fun V480 e479 => ?_)
  have pf481 := PF.put pf465 e479 rfl
  have hz482 : ∀ j, V480 o188 j = .int 0 := fun j => (uq_ne e479 (Or.inl (K_ne kz467 h464 (by decide)))).trans (hz466 j)
  have hz483 : ∀ j, V480 o205 j = .int 0 := fun j => (uq_ne e479 (Or.inl (K_ne kz469 h464 (by decide)))).trans (hz468 j)
  have hz484 : ∀ j, V480 o225 j = .int 0 := fun j => (uq_ne e479 (Or.inl (K_ne kz471 h464 (by decide)))).trans (hz470 j)
  have hz485 : ∀ j, V480 o248 j = .int 0 := fun j => (uq_ne e479 (Or.inl (K_ne kz473 h464 (by decide)))).trans (hz472 j)
  have hz486 : ∀ j, V480 o274 j = .int 0 := fun j => (uq_ne e479 (Or.inl (K_ne kz475 h464 (by decide)))).trans (hz474 j)
  have hz487 : ∀ j, V480 o423 j = .int 0 := fun j => (uq_ne e479 (Or.inl (K_ne kz477 h464 (by decide)))).trans (hz476 j)
  clear pf465 hz466 hz468 hz470 hz472 hz474 hz476
  refine GO.aload_n dX12_init_209 rfl rfl ?_
  refine GO.sipush dX12_init_210 rfl ?_
  refine GO.newT (atype := .int) 32 220 gw_89 rfl rfl (fun _ _ h => h) rfl rfl rfl (Or.inr rfl) (fun _ => okv_df rfl rfl rfl) rfl rfl dX12_init_213 (fun o488 K489 V495 hq490 hK491 hE492 h493 hz496 hV494 => ?_)
  have h497 := (by rw [hK491, updK_ne (K_old h464 hq490)]; exact h464 : K489 x = some (0, 23))
  have pf498 := PF.nw pf481 hV494 (K_old h464 hq490)
  have kz500 := hE492.arr kz467
  have hz499 : ∀ j, V495 o188 j = .int 0 := fun j => (congrFun (hV494 _ (K_old kz467 hq490)) j).trans (hz482 j)
  have kz502 := hE492.arr kz469
  have hz501 : ∀ j, V495 o205 j = .int 0 := fun j => (congrFun (hV494 _ (K_old kz469 hq490)) j).trans (hz483 j)
  have kz504 := hE492.arr kz471
  have hz503 : ∀ j, V495 o225 j = .int 0 := fun j => (congrFun (hV494 _ (K_old kz471 hq490)) j).trans (hz484 j)
  have kz506 := hE492.arr kz473
  have hz505 : ∀ j, V495 o248 j = .int 0 := fun j => (congrFun (hV494 _ (K_old kz473 hq490)) j).trans (hz485 j)
  have kz508 := hE492.arr kz475
  have hz507 : ∀ j, V495 o274 j = .int 0 := fun j => (congrFun (hV494 _ (K_old kz475 hq490)) j).trans (hz486 j)
  have kz510 := hE492.arr kz477
  have hz509 : ∀ j, V495 o423 j = .int 0 := fun j => (congrFun (hV494 _ (K_old kz477 hq490)) j).trans (hz487 j)
  have h511 := KE.nw (KE.new (KE.new (KE.new (KE.new (KE.new (KE.new (KE.new (KE.new (KE.new (KE.new (KE.new (KE.new (KE.new (KE.new (KE.new (KE.new (KE.new (KE.new (KE.new (KE.new (KE.new (KE.new (KE.new KE.rf hq10 hK11) hq25 hK26) hq40 hK41) hq55 hK56) hq70 hK71) hq85 hK86) hq100 hK101) hq115 hK116) hq130 hK131) hq145 hK146) hq160 hK161) hq175 hK176) hq190 hK191) hq207 hK208) hq227 hK228) hq250 hK251) hq276 hK277) hq305 hK306) hq335 hK336) hq365 hK366) hq395 hK396) hq425 hK426) hq457 hK458) h464 hq490
  clear pf481 kz467 hz482 kz469 hz483 kz471 hz484 kz473 hz485 kz475 hz486 kz477 hz487
  refine GO.putRF rfl rfl (by decide +kernel) h497 fp_raw_fp_RX12_88 rfl rfl dX12_init_215 (fun V513 e512 => ?_)
  have pf514 := PF.put pf498 e512 rfl
  have hz515 : ∀ j, V513 o188 j = .int 0 := fun j => (uq_ne e512 (Or.inl (K_ne kz500 h497 (by decide)))).trans (hz499 j)
  have hz516 : ∀ j, V513 o205 j = .int 0 := fun j => (uq_ne e512 (Or.inl (K_ne kz502 h497 (by decide)))).trans (hz501 j)
  have hz517 : ∀ j, V513 o225 j = .int 0 := fun j => (uq_ne e512 (Or.inl (K_ne kz504 h497 (by decide)))).trans (hz503 j)
  have hz518 : ∀ j, V513 o248 j = .int 0 := fun j => (uq_ne e512 (Or.inl (K_ne kz506 h497 (by decide)))).trans (hz505 j)
  have hz519 : ∀ j, V513 o274 j = .int 0 := fun j => (uq_ne e512 (Or.inl (K_ne kz508 h497 (by decide)))).trans (hz507 j)
  have hz520 : ∀ j, V513 o423 j = .int 0 := fun j => (uq_ne e512 (Or.inl (K_ne kz510 h497 (by decide)))).trans (hz509 j)
  clear pf498 hz499 hz501 hz503 hz505 hz507 hz509
  refine GO.aload_n dX12_init_218 rfl rfl ?_
  refine GO.sipush dX12_init_219 rfl ?_
  refine GO.newT (atype := .int) 33 220 gw_89 rfl rfl (fun _ _ h => h) rfl rfl rfl (Or.inr rfl) (fun _ => okv_df rfl rfl rfl) rfl rfl dX12_init_222 (fun o521 K522 V528 hq523 hK524 hE525 h526 hz529 hV527 => ?_)
  have h530 := (by rw [hK524, updK_ne (K_old h497 hq523)]; exact h497 : K522 x = some (0, 23))
  have pf531 := PF.nw pf514 hV527 (K_old h497 hq523)
  have kz533 := hE525.arr kz500
  have hz532 : ∀ j, V528 o188 j = .int 0 := fun j => (congrFun (hV527 _ (K_old kz500 hq523)) j).trans (hz515 j)
  have kz535 := hE525.arr kz502
  have hz534 : ∀ j, V528 o205 j = .int 0 := fun j => (congrFun (hV527 _ (K_old kz502 hq523)) j).trans (hz516 j)
  have kz537 := hE525.arr kz504
  have hz536 : ∀ j, V528 o225 j = .int 0 := fun j => (congrFun (hV527 _ (K_old kz504 hq523)) j).trans (hz517 j)
  have kz539 := hE525.arr kz506
  have hz538 : ∀ j, V528 o248 j = .int 0 := fun j => (congrFun (hV527 _ (K_old kz506 hq523)) j).trans (hz518 j)
  have kz541 := hE525.arr kz508
  have hz540 : ∀ j, V528 o274 j = .int 0 := fun j => (congrFun (hV527 _ (K_old kz508 hq523)) j).trans (hz519 j)
  have kz543 := hE525.arr kz510
  have hz542 : ∀ j, V528 o423 j = .int 0 := fun j => (congrFun (hV527 _ (K_old kz510 hq523)) j).trans (hz520 j)
  have h544 := KE.nw (KE.new (KE.new (KE.new (KE.new (KE.new (KE.new (KE.new (KE.new (KE.new (KE.new (KE.new (KE.new (KE.new (KE.new (KE.new (KE.new (KE.new (KE.new (KE.new (KE.new (KE.new (KE.new (KE.new (KE.new KE.rf hq10 hK11) hq25 hK26) hq40 hK41) hq55 hK56) hq70 hK71) hq85 hK86) hq100 hK101) hq115 hK116) hq130 hK131) hq145 hK146) hq160 hK161) hq175 hK176) hq190 hK191) hq207 hK208) hq227 hK228) hq250 hK251) hq276 hK277) hq305 hK306) hq335 hK336) hq365 hK366) hq395 hK396) hq425 hK426) hq457 hK458) hq490 hK491) h497 hq523
  clear pf514 kz500 hz515 kz502 hz516 kz504 hz517 kz506 hz518 kz508 hz519 kz510 hz520
  refine GO.putRF rfl rfl (by decide +kernel) h530 fp_raw_fp_RX12_91 rfl rfl dX12_init_224 (fun V546 e545 => ?_)
  have pf547 := PF.put pf531 e545 rfl
  have hz548 : ∀ j, V546 o188 j = .int 0 := fun j => (uq_ne e545 (Or.inl (K_ne kz533 h530 (by decide)))).trans (hz532 j)
  have hz549 : ∀ j, V546 o205 j = .int 0 := fun j => (uq_ne e545 (Or.inl (K_ne kz535 h530 (by decide)))).trans (hz534 j)
  have hz550 : ∀ j, V546 o225 j = .int 0 := fun j => (uq_ne e545 (Or.inl (K_ne kz537 h530 (by decide)))).trans (hz536 j)
  have hz551 : ∀ j, V546 o248 j = .int 0 := fun j => (uq_ne e545 (Or.inl (K_ne kz539 h530 (by decide)))).trans (hz538 j)
  have hz552 : ∀ j, V546 o274 j = .int 0 := fun j => (uq_ne e545 (Or.inl (K_ne kz541 h530 (by decide)))).trans (hz540 j)
  have hz553 : ∀ j, V546 o423 j = .int 0 := fun j => (uq_ne e545 (Or.inl (K_ne kz543 h530 (by decide)))).trans (hz542 j)
  clear pf531 hz532 hz534 hz536 hz538 hz540 hz542
  refine GO.aload_n dX12_init_227 rfl rfl ?_
  refine GO.bipush dX12_init_228 rfl ?_
  refine GO.newT (atype := .int) 34 12 gw_89 rfl rfl (fun _ _ h => h) rfl rfl rfl (Or.inr rfl) (fun _ => okv_df rfl rfl rfl) rfl rfl dX12_init_230 (fun o554 K555 V561 hq556 hK557 hE558 h559 hz562 hV560 => ?_)
  have h563 := (by rw [hK557, updK_ne (K_old h530 hq556)]; exact h530 : K555 x = some (0, 23))
  have pf564 := PF.nw pf547 hV560 (K_old h530 hq556)
  have kz566 := hE558.arr kz533
  have hz565 : ∀ j, V561 o188 j = .int 0 := fun j => (congrFun (hV560 _ (K_old kz533 hq556)) j).trans (hz548 j)
  have kz568 := hE558.arr kz535
  have hz567 : ∀ j, V561 o205 j = .int 0 := fun j => (congrFun (hV560 _ (K_old kz535 hq556)) j).trans (hz549 j)
  have kz570 := hE558.arr kz537
  have hz569 : ∀ j, V561 o225 j = .int 0 := fun j => (congrFun (hV560 _ (K_old kz537 hq556)) j).trans (hz550 j)
  have kz572 := hE558.arr kz539
  have hz571 : ∀ j, V561 o248 j = .int 0 := fun j => (congrFun (hV560 _ (K_old kz539 hq556)) j).trans (hz551 j)
  have kz574 := hE558.arr kz541
  have hz573 : ∀ j, V561 o274 j = .int 0 := fun j => (congrFun (hV560 _ (K_old kz541 hq556)) j).trans (hz552 j)
  have kz576 := hE558.arr kz543
  have hz575 : ∀ j, V561 o423 j = .int 0 := fun j => (congrFun (hV560 _ (K_old kz543 hq556)) j).trans (hz553 j)
  have h577 := KE.nw (KE.new (KE.new (KE.new (KE.new (KE.new (KE.new (KE.new (KE.new (KE.new (KE.new (KE.new (KE.new (KE.new (KE.new (KE.new (KE.new (KE.new (KE.new (KE.new (KE.new (KE.new (KE.new (KE.new (KE.new (KE.new KE.rf hq10 hK11) hq25 hK26) hq40 hK41) hq55 hK56) hq70 hK71) hq85 hK86) hq100 hK101) hq115 hK116) hq130 hK131) hq145 hK146) hq160 hK161) hq175 hK176) hq190 hK191) hq207 hK208) hq227 hK228) hq250 hK251) hq276 hK277) hq305 hK306) hq335 hK336) hq365 hK366) hq395 hK396) hq425 hK426) hq457 hK458) hq490 hK491) hq523 hK524) h530 hq556
  clear pf547 kz533 hz548 kz535 hz549 kz537 hz550 kz539 hz551 kz541 hz552 kz543 hz553
  refine GO.putRF rfl rfl (by decide +kernel) h563 fp_raw_fp_RX12_94 rfl rfl dX12_init_232 (fun V579 e578 => ?_)
  have pf580 := PF.put pf564 e578 rfl
  have hz581 : ∀ j, V579 o188 j = .int 0 := fun j => (uq_ne e578 (Or.inl (K_ne kz566 h563 (by decide)))).trans (hz565 j)
  have hz582 : ∀ j, V579 o205 j = .int 0 := fun j => (uq_ne e578 (Or.inl (K_ne kz568 h563 (by decide)))).trans (hz567 j)
  have hz583 : ∀ j, V579 o225 j = .int 0 := fun j => (uq_ne e578 (Or.inl (K_ne kz570 h563 (by decide)))).trans (hz569 j)
  have hz584 : ∀ j, V579 o248 j = .int 0 := fun j => (uq_ne e578 (Or.inl (K_ne kz572 h563 (by decide)))).trans (hz571 j)
  have hz585 : ∀ j, V579 o274 j = .int 0 := fun j => (uq_ne e578 (Or.inl (K_ne kz574 h563 (by decide)))).trans (hz573 j)
  have hz586 : ∀ j, V579 o423 j = .int 0 := fun j => (uq_ne e578 (Or.inl (K_ne kz576 h563 (by decide)))).trans (hz575 j)
  clear pf564 hz565 hz567 hz569 hz571 hz573 hz575
  refine GO.aload_n dX12_init_235 rfl rfl ?_
  refine GO.bipush dX12_init_236 rfl ?_
  refine GO.newT (atype := .int) 35 12 gw_89 rfl rfl (fun _ _ h => h) rfl rfl rfl (Or.inr rfl) (fun _ => okv_df rfl rfl rfl) rfl rfl dX12_init_238 (fun o587 K588 V594 hq589 hK590 hE591 h592 hz595 hV593 => ?_)
  have h596 := (by rw [hK590, updK_ne (K_old h563 hq589)]; exact h563 : K588 x = some (0, 23))
  have pf597 := PF.nw pf580 hV593 (K_old h563 hq589)
  have kz599 := hE591.arr kz566
  have hz598 : ∀ j, V594 o188 j = .int 0 := fun j => (congrFun (hV593 _ (K_old kz566 hq589)) j).trans (hz581 j)
  have kz601 := hE591.arr kz568
  have hz600 : ∀ j, V594 o205 j = .int 0 := fun j => (congrFun (hV593 _ (K_old kz568 hq589)) j).trans (hz582 j)
  have kz603 := hE591.arr kz570
  have hz602 : ∀ j, V594 o225 j = .int 0 := fun j => (congrFun (hV593 _ (K_old kz570 hq589)) j).trans (hz583 j)
  have kz605 := hE591.arr kz572
  have hz604 : ∀ j, V594 o248 j = .int 0 := fun j => (congrFun (hV593 _ (K_old kz572 hq589)) j).trans (hz584 j)
  have kz607 := hE591.arr kz574
  have hz606 : ∀ j, V594 o274 j = .int 0 := fun j => (congrFun (hV593 _ (K_old kz574 hq589)) j).trans (hz585 j)
  have kz609 := hE591.arr kz576
  have hz608 : ∀ j, V594 o423 j = .int 0 := fun j => (congrFun (hV593 _ (K_old kz576 hq589)) j).trans (hz586 j)
  have h610 := KE.nw (KE.new (KE.new (KE.new (KE.new (KE.new (KE.new (KE.new (KE.new (KE.new (KE.new (KE.new (KE.new (KE.new (KE.new (KE.new (KE.new (KE.new (KE.new (KE.new (KE.new (KE.new (KE.new (KE.new (KE.new (KE.new (KE.new KE.rf hq10 hK11) hq25 hK26) hq40 hK41) hq55 hK56) hq70 hK71) hq85 hK86) hq100 hK101) hq115 hK116) hq130 hK131) hq145 hK146) hq160 hK161) hq175 hK176) hq190 hK191) hq207 hK208) hq227 hK228) hq250 hK251) hq276 hK277) hq305 hK306) hq335 hK336) hq365 hK366) hq395 hK396) hq425 hK426) hq457 hK458) hq490 hK491) hq523 hK524) hq556 hK557) h563 hq589
  clear pf580 kz566 hz581 kz568 hz582 kz570 hz583 kz572 hz584 kz574 hz585 kz576 hz586
  refine GO.putRF rfl rfl (by decide +kernel) h596 fp_raw_fp_RX12_97 rfl rfl dX12_init_240 (fun V612 e611 => ?_)
  have pf613 := PF.put pf597 e611 rfl
  have hz614 : ∀ j, V612 o188 j = .int 0 := fun j => (uq_ne e611 (Or.inl (K_ne kz599 h596 (by decide)))).trans (hz598 j)
  have hz615 : ∀ j, V612 o205 j = .int 0 := fun j => (uq_ne e611 (Or.inl (K_ne kz601 h596 (by decide)))).trans (hz600 j)
  have hz616 : ∀ j, V612 o225 j = .int 0 := fun j => (uq_ne e611 (Or.inl (K_ne kz603 h596 (by decide)))).trans (hz602 j)
  have hz617 : ∀ j, V612 o248 j = .int 0 := fun j => (uq_ne e611 (Or.inl (K_ne kz605 h596 (by decide)))).trans (hz604 j)
  have hz618 : ∀ j, V612 o274 j = .int 0 := fun j => (uq_ne e611 (Or.inl (K_ne kz607 h596 (by decide)))).trans (hz606 j)
  have hz619 : ∀ j, V612 o423 j = .int 0 := fun j => (uq_ne e611 (Or.inl (K_ne kz609 h596 (by decide)))).trans (hz608 j)
  clear pf597 hz598 hz600 hz602 hz604 hz606 hz608
  refine GO.aload_n dX12_init_243 rfl rfl ?_
  refine GO.bipush dX12_init_244 rfl ?_
  refine GO.newT (atype := .int) 36 12 gw_89 rfl rfl (fun _ _ h => h) rfl rfl rfl (Or.inr rfl) (fun _ => okv_df rfl rfl rfl) rfl rfl dX12_init_246 (fun o620 K621 V627 hq622 hK623 hE624 h625 hz628 hV626 => ?_)
  have h629 := (by rw [hK623, updK_ne (K_old h596 hq622)]; exact h596 : K621 x = some (0, 23))
  have pf630 := PF.nw pf613 hV626 (K_old h596 hq622)
  have kz632 := hE624.arr kz599
  have hz631 : ∀ j, V627 o188 j = .int 0 := fun j => (congrFun (hV626 _ (K_old kz599 hq622)) j).trans (hz614 j)
  have kz634 := hE624.arr kz601
  have hz633 : ∀ j, V627 o205 j = .int 0 := fun j => (congrFun (hV626 _ (K_old kz601 hq622)) j).trans (hz615 j)
  have kz636 := hE624.arr kz603
  have hz635 : ∀ j, V627 o225 j = .int 0 := fun j => (congrFun (hV626 _ (K_old kz603 hq622)) j).trans (hz616 j)
  have kz638 := hE624.arr kz605
  have hz637 : ∀ j, V627 o248 j = .int 0 := fun j => (congrFun (hV626 _ (K_old kz605 hq622)) j).trans (hz617 j)
  have kz640 := hE624.arr kz607
  have hz639 : ∀ j, V627 o274 j = .int 0 := fun j => (congrFun (hV626 _ (K_old kz607 hq622)) j).trans (hz618 j)
  have kz642 := hE624.arr kz609
  have hz641 : ∀ j, V627 o423 j = .int 0 := fun j => (congrFun (hV626 _ (K_old kz609 hq622)) j).trans (hz619 j)
  have h643 := KE.nw (KE.new (KE.new (KE.new (KE.new (KE.new (KE.new (KE.new (KE.new (KE.new (KE.new (KE.new (KE.new (KE.new (KE.new (KE.new (KE.new (KE.new (KE.new (KE.new (KE.new (KE.new (KE.new (KE.new (KE.new (KE.new (KE.new (KE.new KE.rf hq10 hK11) hq25 hK26) hq40 hK41) hq55 hK56) hq70 hK71) hq85 hK86) hq100 hK101) hq115 hK116) hq130 hK131) hq145 hK146) hq160 hK161) hq175 hK176) hq190 hK191) hq207 hK208) hq227 hK228) hq250 hK251) hq276 hK277) hq305 hK306) hq335 hK336) hq365 hK366) hq395 hK396) hq425 hK426) hq457 hK458) hq490 hK491) hq523 hK524) hq556 hK557) hq589 hK590) h596 hq622
  clear pf613 kz599 hz614 kz601 hz615 kz603 hz616 kz605 hz617 kz607 hz618 kz609 hz619
  refine GO.putRF rfl rfl (by decide +kernel) h629 fp_raw_fp_RX12_100 rfl rfl dX12_init_248 (fun V645 e644 => ?_)
  have pf646 := PF.put pf630 e644 rfl
  have hz647 : ∀ j, V645 o188 j = .int 0 := fun j => (uq_ne e644 (Or.inl (K_ne kz632 h629 (by decide)))).trans (hz631 j)
  have hz648 : ∀ j, V645 o205 j = .int 0 := fun j => (uq_ne e644 (Or.inl (K_ne kz634 h629 (by decide)))).trans (hz633 j)
  have hz649 : ∀ j, V645 o225 j = .int 0 := fun j => (uq_ne e644 (Or.inl (K_ne kz636 h629 (by decide)))).trans (hz635 j)
  have hz650 : ∀ j, V645 o248 j = .int 0 := fun j => (uq_ne e644 (Or.inl (K_ne kz638 h629 (by decide)))).trans (hz637 j)
  have hz651 : ∀ j, V645 o274 j = .int 0 := fun j => (uq_ne e644 (Or.inl (K_ne kz640 h629 (by decide)))).trans (hz639 j)
  have hz652 : ∀ j, V645 o423 j = .int 0 := fun j => (uq_ne e644 (Or.inl (K_ne kz642 h629 (by decide)))).trans (hz641 j)
  clear pf630 hz631 hz633 hz635 hz637 hz639 hz641
  refine GO.aload_n dX12_init_251 rfl rfl ?_
  refine GO.bipush dX12_init_252 rfl ?_
  refine GO.newT (atype := .int) 37 12 gw_89 rfl rfl (fun _ _ h => h) rfl rfl rfl (Or.inr rfl) (fun _ => okv_df rfl rfl rfl) rfl rfl dX12_init_254 (fun o653 K654 V660 hq655 hK656 hE657 h658 hz661 hV659 => ?_)
  have h662 := (by rw [hK656, updK_ne (K_old h629 hq655)]; exact h629 : K654 x = some (0, 23))
  have pf663 := PF.nw pf646 hV659 (K_old h629 hq655)
  have kz665 := hE657.arr kz632
  have hz664 : ∀ j, V660 o188 j = .int 0 := fun j => (congrFun (hV659 _ (K_old kz632 hq655)) j).trans (hz647 j)
  have kz667 := hE657.arr kz634
  have hz666 : ∀ j, V660 o205 j = .int 0 := fun j => (congrFun (hV659 _ (K_old kz634 hq655)) j).trans (hz648 j)
  have kz669 := hE657.arr kz636
  have hz668 : ∀ j, V660 o225 j = .int 0 := fun j => (congrFun (hV659 _ (K_old kz636 hq655)) j).trans (hz649 j)
  have kz671 := hE657.arr kz638
  have hz670 : ∀ j, V660 o248 j = .int 0 := fun j => (congrFun (hV659 _ (K_old kz638 hq655)) j).trans (hz650 j)
  have kz673 := hE657.arr kz640
  have hz672 : ∀ j, V660 o274 j = .int 0 := fun j => (congrFun (hV659 _ (K_old kz640 hq655)) j).trans (hz651 j)
  have kz675 := hE657.arr kz642
  have hz674 : ∀ j, V660 o423 j = .int 0 := fun j => (congrFun (hV659 _ (K_old kz642 hq655)) j).trans (hz652 j)
  have h676 := KE.nw (KE.new (KE.new (KE.new (KE.new (KE.new (KE.new (KE.new (KE.new (KE.new (KE.new (KE.new (KE.new (KE.new (KE.new (KE.new (KE.new (KE.new (KE.new (KE.new (KE.new (KE.new (KE.new (KE.new (KE.new (KE.new (KE.new (KE.new (KE.new KE.rf hq10 hK11) hq25 hK26) hq40 hK41) hq55 hK56) hq70 hK71) hq85 hK86) hq100 hK101) hq115 hK116) hq130 hK131) hq145 hK146) hq160 hK161) hq175 hK176) hq190 hK191) hq207 hK208) hq227 hK228) hq250 hK251) hq276 hK277) hq305 hK306) hq335 hK336) hq365 hK366) hq395 hK396) hq425 hK426) hq457 hK458) hq490 hK491) hq523 hK524) hq556 hK557) hq589 hK590) hq622 hK623) h629 hq655
  clear pf646 kz632 hz647 kz634 hz648 kz636 hz649 kz638 hz650 kz640 hz651 kz642 hz652
  refine GO.putRF rfl rfl (by decide +kernel) h662 fp_raw_fp_RX12_103 rfl rfl dX12_init_256 (fun V678 e677 => ?_)
  have pf679 := PF.put pf663 e677 rfl
  have hz680 : ∀ j, V678 o188 j = .int 0 := fun j => (uq_ne e677 (Or.inl (K_ne kz665 h662 (by decide)))).trans (hz664 j)
  have hz681 : ∀ j, V678 o205 j = .int 0 := fun j => (uq_ne e677 (Or.inl (K_ne kz667 h662 (by decide)))).trans (hz666 j)
  have hz682 : ∀ j, V678 o225 j = .int 0 := fun j => (uq_ne e677 (Or.inl (K_ne kz669 h662 (by decide)))).trans (hz668 j)
  have hz683 : ∀ j, V678 o248 j = .int 0 := fun j => (uq_ne e677 (Or.inl (K_ne kz671 h662 (by decide)))).trans (hz670 j)
  have hz684 : ∀ j, V678 o274 j = .int 0 := fun j => (uq_ne e677 (Or.inl (K_ne kz673 h662 (by decide)))).trans (hz672 j)
  have hz685 : ∀ j, V678 o423 j = .int 0 := fun j => (uq_ne e677 (Or.inl (K_ne kz675 h662 (by decide)))).trans (hz674 j)
  clear pf663 hz664 hz666 hz668 hz670 hz672 hz674
  refine GO.aload_n dX12_init_259 rfl rfl ?_
  refine GO.bipush dX12_init_260 rfl ?_
  refine GO.newT (atype := .int) 38 12 gw_89 rfl rfl (fun _ _ h => h) rfl rfl rfl (Or.inr rfl) (fun _ => okv_df rfl rfl rfl) rfl rfl dX12_init_262 (fun o686 K687 V693 hq688 hK689 hE690 h691 hz694 hV692 => ?_)
  have h695 := (by rw [hK689, updK_ne (K_old h662 hq688)]; exact h662 : K687 x = some (0, 23))
  have pf696 := PF.nw pf679 hV692 (K_old h662 hq688)
  have kz698 := hE690.arr kz665
  have hz697 : ∀ j, V693 o188 j = .int 0 := fun j => (congrFun (hV692 _ (K_old kz665 hq688)) j).trans (hz680 j)
  have kz700 := hE690.arr kz667
  have hz699 : ∀ j, V693 o205 j = .int 0 := fun j => (congrFun (hV692 _ (K_old kz667 hq688)) j).trans (hz681 j)
  have kz702 := hE690.arr kz669
  have hz701 : ∀ j, V693 o225 j = .int 0 := fun j => (congrFun (hV692 _ (K_old kz669 hq688)) j).trans (hz682 j)
  have kz704 := hE690.arr kz671
  have hz703 : ∀ j, V693 o248 j = .int 0 := fun j => (congrFun (hV692 _ (K_old kz671 hq688)) j).trans (hz683 j)
  have kz706 := hE690.arr kz673
  have hz705 : ∀ j, V693 o274 j = .int 0 := fun j => (congrFun (hV692 _ (K_old kz673 hq688)) j).trans (hz684 j)
  have kz708 := hE690.arr kz675
  have hz707 : ∀ j, V693 o423 j = .int 0 := fun j => (congrFun (hV692 _ (K_old kz675 hq688)) j).trans (hz685 j)
  have h709 := KE.nw (KE.new (KE.new (KE.new (KE.new (KE.new (KE.new (KE.new (KE.new (KE.new (KE.new (KE.new (KE.new (KE.new (KE.new (KE.new (KE.new (KE.new (KE.new (KE.new (KE.new (KE.new (KE.new (KE.new (KE.new (KE.new (KE.new (KE.new (KE.new (KE.new KE.rf hq10 hK11) hq25 hK26) hq40 hK41) hq55 hK56) hq70 hK71) hq85 hK86) hq100 hK101) hq115 hK116) hq130 hK131) hq145 hK146) hq160 hK161) hq175 hK176) hq190 hK191) hq207 hK208) hq227 hK228) hq250 hK251) hq276 hK277) hq305 hK306) hq335 hK336) hq365 hK366) hq395 hK396) hq425 hK426) hq457 hK458) hq490 hK491) hq523 hK524) hq556 hK557) hq589 hK590) hq622 hK623) hq655 hK656) h662 hq688
  clear pf679 kz665 hz680 kz667 hz681 kz669 hz682 kz671 hz683 kz673 hz684 kz675 hz685
  refine GO.putRF rfl rfl (by decide +kernel) h695 fp_raw_fp_RX12_106 rfl rfl dX12_init_264 (fun V711 e710 => ?_)
  have pf712 := PF.put pf696 e710 rfl
  have hz713 : ∀ j, V711 o188 j = .int 0 := fun j => (uq_ne e710 (Or.inl (K_ne kz698 h695 (by decide)))).trans (hz697 j)
  have hz714 : ∀ j, V711 o205 j = .int 0 := fun j => (uq_ne e710 (Or.inl (K_ne kz700 h695 (by decide)))).trans (hz699 j)
  have hz715 : ∀ j, V711 o225 j = .int 0 := fun j => (uq_ne e710 (Or.inl (K_ne kz702 h695 (by decide)))).trans (hz701 j)
  have hz716 : ∀ j, V711 o248 j = .int 0 := fun j => (uq_ne e710 (Or.inl (K_ne kz704 h695 (by decide)))).trans (hz703 j)
  have hz717 : ∀ j, V711 o274 j = .int 0 := fun j => (uq_ne e710 (Or.inl (K_ne kz706 h695 (by decide)))).trans (hz705 j)
  have hz718 : ∀ j, V711 o423 j = .int 0 := fun j => (uq_ne e710 (Or.inl (K_ne kz708 h695 (by decide)))).trans (hz707 j)
  clear pf696 hz697 hz699 hz701 hz703 hz705 hz707
  refine GO.aload_n dX12_init_267 rfl rfl ?_
  refine GO.bipush dX12_init_268 rfl ?_
  refine GO.newT (atype := .int) 39 12 gw_89 rfl rfl (fun _ _ h => h) rfl rfl rfl (Or.inr rfl) (fun _ => okv_df rfl rfl rfl) rfl rfl dX12_init_270 (fun o719 K720 V726 hq721 hK722 hE723 h724 hz727 hV725 => ?_)
  have h728 := (by rw [hK722, updK_ne (K_old h695 hq721)]; exact h695 : K720 x = some (0, 23))
  have pf729 := PF.nw pf712 hV725 (K_old h695 hq721)
  have kz731 := hE723.arr kz698
  have hz730 : ∀ j, V726 o188 j = .int 0 := fun j => (congrFun (hV725 _ (K_old kz698 hq721)) j).trans (hz713 j)
  have kz733 := hE723.arr kz700
  have hz732 : ∀ j, V726 o205 j = .int 0 := fun j => (congrFun (hV725 _ (K_old kz700 hq721)) j).trans (hz714 j)
  have kz735 := hE723.arr kz702
  have hz734 : ∀ j, V726 o225 j = .int 0 := fun j => (congrFun (hV725 _ (K_old kz702 hq721)) j).trans (hz715 j)
  have kz737 := hE723.arr kz704
  have hz736 : ∀ j, V726 o248 j = .int 0 := fun j => (congrFun (hV725 _ (K_old kz704 hq721)) j).trans (hz716 j)
  have kz739 := hE723.arr kz706
  have hz738 : ∀ j, V726 o274 j = .int 0 := fun j => (congrFun (hV725 _ (K_old kz706 hq721)) j).trans (hz717 j)
  have kz741 := hE723.arr kz708
  have hz740 : ∀ j, V726 o423 j = .int 0 := fun j => (congrFun (hV725 _ (K_old kz708 hq721)) j).trans (hz718 j)
  have h742 := KE.nw (KE.new (KE.new (KE.new (KE.new (KE.new (KE.new (KE.new (KE.new (KE.new (KE.new (KE.new (KE.new (KE.new (KE.new (KE.new (KE.new (KE.new (KE.new (KE.new (KE.new (KE.new (KE.new (KE.new (KE.new (KE.new (KE.new (KE.new (KE.new (KE.new (KE.new KE.rf hq10 hK11) hq25 hK26) hq40 hK41) hq55 hK56) hq70 hK71) hq85 hK86) hq100 hK101) hq115 hK116) hq130 hK131) hq145 hK146) hq160 hK161) hq175 hK176) hq190 hK191) hq207 hK208) hq227 hK228) hq250 hK251) hq276 hK277) hq305 hK306) hq335 hK336) hq365 hK366) hq395 hK396) hq425 hK426) hq457 hK458) hq490 hK491) hq523 hK524) hq556 hK557) hq589 hK590) hq622 hK623) hq655 hK656) hq688 hK689) h695 hq721
  clear pf712 kz698 hz713 kz700 hz714 kz702 hz715 kz704 hz716 kz706 hz717 kz708 hz718
  refine GO.putRF rfl rfl (by decide +kernel) h728 fp_raw_fp_RX12_109 rfl rfl dX12_init_272 (fun V744 e743 => ?_)
  have pf745 := PF.put pf729 e743 rfl
  have hz746 : ∀ j, V744 o188 j = .int 0 := fun j => (uq_ne e743 (Or.inl (K_ne kz731 h728 (by decide)))).trans (hz730 j)
  have hz747 : ∀ j, V744 o205 j = .int 0 := fun j => (uq_ne e743 (Or.inl (K_ne kz733 h728 (by decide)))).trans (hz732 j)
  have hz748 : ∀ j, V744 o225 j = .int 0 := fun j => (uq_ne e743 (Or.inl (K_ne kz735 h728 (by decide)))).trans (hz734 j)
  have hz749 : ∀ j, V744 o248 j = .int 0 := fun j => (uq_ne e743 (Or.inl (K_ne kz737 h728 (by decide)))).trans (hz736 j)
  have hz750 : ∀ j, V744 o274 j = .int 0 := fun j => (uq_ne e743 (Or.inl (K_ne kz739 h728 (by decide)))).trans (hz738 j)
  have hz751 : ∀ j, V744 o423 j = .int 0 := fun j => (uq_ne e743 (Or.inl (K_ne kz741 h728 (by decide)))).trans (hz740 j)
  clear pf729 hz730 hz732 hz734 hz736 hz738 hz740
  refine GO.aload_n dX12_init_275 rfl rfl ?_
  refine GO.sipush dX12_init_276 rfl ?_
  refine GO.newT (atype := .int) 40 4400 gw_89 rfl rfl (fun _ _ h => h) rfl rfl rfl (Or.inr rfl) (fun _ => okv_df rfl rfl rfl) rfl rfl dX12_init_279 (fun o752 K753 V759 hq754 hK755 hE756 h757 hz760 hV758 => ?_)
  have h761 := (by rw [hK755, updK_ne (K_old h728 hq754)]; exact h728 : K753 x = some (0, 23))
  have pf762 := PF.nw pf745 hV758 (K_old h728 hq754)
  have kz764 := hE756.arr kz731
  have hz763 : ∀ j, V759 o188 j = .int 0 := fun j => (congrFun (hV758 _ (K_old kz731 hq754)) j).trans (hz746 j)
  have kz766 := hE756.arr kz733
  have hz765 : ∀ j, V759 o205 j = .int 0 := fun j => (congrFun (hV758 _ (K_old kz733 hq754)) j).trans (hz747 j)
  have kz768 := hE756.arr kz735
  have hz767 : ∀ j, V759 o225 j = .int 0 := fun j => (congrFun (hV758 _ (K_old kz735 hq754)) j).trans (hz748 j)
  have kz770 := hE756.arr kz737
  have hz769 : ∀ j, V759 o248 j = .int 0 := fun j => (congrFun (hV758 _ (K_old kz737 hq754)) j).trans (hz749 j)
  have kz772 := hE756.arr kz739
  have hz771 : ∀ j, V759 o274 j = .int 0 := fun j => (congrFun (hV758 _ (K_old kz739 hq754)) j).trans (hz750 j)
  have kz774 := hE756.arr kz741
  have hz773 : ∀ j, V759 o423 j = .int 0 := fun j => (congrFun (hV758 _ (K_old kz741 hq754)) j).trans (hz751 j)
  have h775 := KE.nw (KE.new (KE.new (KE.new (KE.new (KE.new (KE.new (KE.new (KE.new (KE.new (KE.new (KE.new (KE.new (KE.new (KE.new (KE.new (KE.new (KE.new (KE.new (KE.new (KE.new (KE.new (KE.new (KE.new (KE.new (KE.new (KE.new (KE.new (KE.new (KE.new (KE.new (KE.new KE.rf hq10 hK11) hq25 hK26) hq40 hK41) hq55 hK56) hq70 hK71) hq85 hK86) hq100 hK101) hq115 hK116) hq130 hK131) hq145 hK146) hq160 hK161) hq175 hK176) hq190 hK191) hq207 hK208) hq227 hK228) hq250 hK251) hq276 hK277) hq305 hK306) hq335 hK336) hq365 hK366) hq395 hK396) hq425 hK426) hq457 hK458) hq490 hK491) hq523 hK524) hq556 hK557) hq589 hK590) hq622 hK623) hq655 hK656) hq688 hK689) hq721 hK722) h728 hq754
  clear pf745 kz731 hz746 kz733 hz747 kz735 hz748 kz737 hz749 kz739 hz750 kz741 hz751
  refine GO.putRF rfl rfl (by decide +kernel) h761 fp_raw_fp_RX12_112 rfl rfl dX12_init_281 (fun V777 e776 => ?_)
  have pf778 := PF.put pf762 e776 rfl
  have hz779 : ∀ j, V777 o188 j = .int 0 := fun j => (uq_ne e776 (Or.inl (K_ne kz764 h761 (by decide)))).trans (hz763 j)
  have hz780 : ∀ j, V777 o205 j = .int 0 := fun j => (uq_ne e776 (Or.inl (K_ne kz766 h761 (by decide)))).trans (hz765 j)
  have hz781 : ∀ j, V777 o225 j = .int 0 := fun j => (uq_ne e776 (Or.inl (K_ne kz768 h761 (by decide)))).trans (hz767 j)
  have hz782 : ∀ j, V777 o248 j = .int 0 := fun j => (uq_ne e776 (Or.inl (K_ne kz770 h761 (by decide)))).trans (hz769 j)
  have hz783 : ∀ j, V777 o274 j = .int 0 := fun j => (uq_ne e776 (Or.inl (K_ne kz772 h761 (by decide)))).trans (hz771 j)
  have hz784 : ∀ j, V777 o423 j = .int 0 := fun j => (uq_ne e776 (Or.inl (K_ne kz774 h761 (by decide)))).trans (hz773 j)
  clear pf762 hz763 hz765 hz767 hz769 hz771 hz773
  refine GO.aload_n dX12_init_284 rfl rfl ?_
  refine GO.bipush dX12_init_285 rfl ?_
  refine GO.newT (atype := .int) 41 20 gw_89 rfl rfl (fun _ _ h => h) rfl rfl rfl (Or.inr rfl) (fun _ => okv_df rfl rfl rfl) rfl rfl dX12_init_287 (fun o785 K786 V792 hq787 hK788 hE789 h790 hz793 hV791 => ?_)
  have h794 := (by rw [hK788, updK_ne (K_old h761 hq787)]; exact h761 : K786 x = some (0, 23))
  have pf795 := PF.nw pf778 hV791 (K_old h761 hq787)
  have kz797 := hE789.arr kz764
  have hz796 : ∀ j, V792 o188 j = .int 0 := fun j => (congrFun (hV791 _ (K_old kz764 hq787)) j).trans (hz779 j)
  have kz799 := hE789.arr kz766
  have hz798 : ∀ j, V792 o205 j = .int 0 := fun j => (congrFun (hV791 _ (K_old kz766 hq787)) j).trans (hz780 j)
  have kz801 := hE789.arr kz768
  have hz800 : ∀ j, V792 o225 j = .int 0 := fun j => (congrFun (hV791 _ (K_old kz768 hq787)) j).trans (hz781 j)
  have kz803 := hE789.arr kz770
  have hz802 : ∀ j, V792 o248 j = .int 0 := fun j => (congrFun (hV791 _ (K_old kz770 hq787)) j).trans (hz782 j)
  have kz805 := hE789.arr kz772
  have hz804 : ∀ j, V792 o274 j = .int 0 := fun j => (congrFun (hV791 _ (K_old kz772 hq787)) j).trans (hz783 j)
  have kz807 := hE789.arr kz774
  have hz806 : ∀ j, V792 o423 j = .int 0 := fun j => (congrFun (hV791 _ (K_old kz774 hq787)) j).trans (hz784 j)
  have h808 := KE.nw (KE.new (KE.new (KE.new (KE.new (KE.new (KE.new (KE.new (KE.new (KE.new (KE.new (KE.new (KE.new (KE.new (KE.new (KE.new (KE.new (KE.new (KE.new (KE.new (KE.new (KE.new (KE.new (KE.new (KE.new (KE.new (KE.new (KE.new (KE.new (KE.new (KE.new (KE.new (KE.new KE.rf hq10 hK11) hq25 hK26) hq40 hK41) hq55 hK56) hq70 hK71) hq85 hK86) hq100 hK101) hq115 hK116) hq130 hK131) hq145 hK146) hq160 hK161) hq175 hK176) hq190 hK191) hq207 hK208) hq227 hK228) hq250 hK251) hq276 hK277) hq305 hK306) hq335 hK336) hq365 hK366) hq395 hK396) hq425 hK426) hq457 hK458) hq490 hK491) hq523 hK524) hq556 hK557) hq589 hK590) hq622 hK623) hq655 hK656) hq688 hK689) hq721 hK722) hq754 hK755) h761 hq787
  clear pf778 kz764 hz779 kz766 hz780 kz768 hz781 kz770 hz782 kz772 hz783 kz774 hz784
  refine GO.putRF rfl rfl (by decide +kernel) h794 fp_raw_fp_RX12_115 rfl rfl dX12_init_289 (fun V810 e809 => ?_)
  have pf811 := PF.put pf795 e809 rfl
  have hz812 : ∀ j, V810 o188 j = .int 0 := fun j => (uq_ne e809 (Or.inl (K_ne kz797 h794 (by decide)))).trans (hz796 j)
  have hz813 : ∀ j, V810 o205 j = .int 0 := fun j => (uq_ne e809 (Or.inl (K_ne kz799 h794 (by decide)))).trans (hz798 j)
  have hz814 : ∀ j, V810 o225 j = .int 0 := fun j => (uq_ne e809 (Or.inl (K_ne kz801 h794 (by decide)))).trans (hz800 j)
  have hz815 : ∀ j, V810 o248 j = .int 0 := fun j => (uq_ne e809 (Or.inl (K_ne kz803 h794 (by decide)))).trans (hz802 j)
  have hz816 : ∀ j, V810 o274 j = .int 0 := fun j => (uq_ne e809 (Or.inl (K_ne kz805 h794 (by decide)))).trans (hz804 j)
  have hz817 : ∀ j, V810 o423 j = .int 0 := fun j => (uq_ne e809 (Or.inl (K_ne kz807 h794 (by decide)))).trans (hz806 j)
  clear pf795 hz796 hz798 hz800 hz802 hz804 hz806
  refine GO.aload_n dX12_init_292 rfl rfl ?_
  refine GO.bipush dX12_init_293 rfl ?_
  refine GO.newT (atype := .int) 42 20 gw_89 rfl rfl (fun _ _ h => h) rfl rfl rfl (Or.inr rfl) (fun _ => okv_df rfl rfl rfl) rfl rfl dX12_init_295 (fun o818 K819 V825 hq820 hK821 hE822 h823 hz826 hV824 => ?_)
  have h827 := (by rw [hK821, updK_ne (K_old h794 hq820)]; exact h794 : K819 x = some (0, 23))
  have pf828 := PF.nw pf811 hV824 (K_old h794 hq820)
  have kz830 := hE822.arr kz797
  have hz829 : ∀ j, V825 o188 j = .int 0 := fun j => (congrFun (hV824 _ (K_old kz797 hq820)) j).trans (hz812 j)
  have kz832 := hE822.arr kz799
  have hz831 : ∀ j, V825 o205 j = .int 0 := fun j => (congrFun (hV824 _ (K_old kz799 hq820)) j).trans (hz813 j)
  have kz834 := hE822.arr kz801
  have hz833 : ∀ j, V825 o225 j = .int 0 := fun j => (congrFun (hV824 _ (K_old kz801 hq820)) j).trans (hz814 j)
  have kz836 := hE822.arr kz803
  have hz835 : ∀ j, V825 o248 j = .int 0 := fun j => (congrFun (hV824 _ (K_old kz803 hq820)) j).trans (hz815 j)
  have kz838 := hE822.arr kz805
  have hz837 : ∀ j, V825 o274 j = .int 0 := fun j => (congrFun (hV824 _ (K_old kz805 hq820)) j).trans (hz816 j)
  have kz840 := hE822.arr kz807
  have hz839 : ∀ j, V825 o423 j = .int 0 := fun j => (congrFun (hV824 _ (K_old kz807 hq820)) j).trans (hz817 j)
  have h841 := KE.nw (KE.new (KE.new (KE.new (KE.new (KE.new (KE.new (KE.new (KE.new (KE.new (KE.new (KE.new (KE.new (KE.new (KE.new (KE.new (KE.new (KE.new (KE.new (KE.new (KE.new (KE.new (KE.new (KE.new (KE.new (KE.new (KE.new (KE.new (KE.new (KE.new (KE.new (KE.new (KE.new (KE.new KE.rf hq10 hK11) hq25 hK26) hq40 hK41) hq55 hK56) hq70 hK71) hq85 hK86) hq100 hK101) hq115 hK116) hq130 hK131) hq145 hK146) hq160 hK161) hq175 hK176) hq190 hK191) hq207 hK208) hq227 hK228) hq250 hK251) hq276 hK277) hq305 hK306) hq335 hK336) hq365 hK366) hq395 hK396) hq425 hK426) hq457 hK458) hq490 hK491) hq523 hK524) hq556 hK557) hq589 hK590) hq622 hK623) hq655 hK656) hq688 hK689) hq721 hK722) hq754 hK755) hq787 hK788) h794 hq820
  clear pf811 kz797 hz812 kz799 hz813 kz801 hz814 kz803 hz815 kz805 hz816 kz807 hz817
  refine GO.putRF rfl rfl (by decide +kernel) h827 fp_raw_fp_RX12_118 rfl rfl dX12_init_297 (fun V843 e842 => ?_)
  have pf844 := PF.put pf828 e842 rfl
  have hz845 : ∀ j, V843 o188 j = .int 0 := fun j => (uq_ne e842 (Or.inl (K_ne kz830 h827 (by decide)))).trans (hz829 j)
  have hz846 : ∀ j, V843 o205 j = .int 0 := fun j => (uq_ne e842 (Or.inl (K_ne kz832 h827 (by decide)))).trans (hz831 j)
  have hz847 : ∀ j, V843 o225 j = .int 0 := fun j => (uq_ne e842 (Or.inl (K_ne kz834 h827 (by decide)))).trans (hz833 j)
  have hz848 : ∀ j, V843 o248 j = .int 0 := fun j => (uq_ne e842 (Or.inl (K_ne kz836 h827 (by decide)))).trans (hz835 j)
  have hz849 : ∀ j, V843 o274 j = .int 0 := fun j => (uq_ne e842 (Or.inl (K_ne kz838 h827 (by decide)))).trans (hz837 j)
  have hz850 : ∀ j, V843 o423 j = .int 0 := fun j => (uq_ne e842 (Or.inl (K_ne kz840 h827 (by decide)))).trans (hz839 j)
  clear pf828 hz829 hz831 hz833 hz835 hz837 hz839
  refine GO.aload_n dX12_init_300 rfl rfl ?_
  refine GO.bipush dX12_init_301 rfl ?_
  refine GO.newT (atype := .int) 43 20 gw_89 rfl rfl (fun _ _ h => h) rfl rfl rfl (Or.inr rfl) (fun _ => okv_df rfl rfl rfl) rfl rfl dX12_init_303 (fun o851 K852 V858 hq853 hK854 hE855 h856 hz859 hV857 => ?_)
  have h860 := (by rw [hK854, updK_ne (K_old h827 hq853)]; exact h827 : K852 x = some (0, 23))
  have pf861 := PF.nw pf844 hV857 (K_old h827 hq853)
  have kz863 := hE855.arr kz830
  have hz862 : ∀ j, V858 o188 j = .int 0 := fun j => (congrFun (hV857 _ (K_old kz830 hq853)) j).trans (hz845 j)
  have kz865 := hE855.arr kz832
  have hz864 : ∀ j, V858 o205 j = .int 0 := fun j => (congrFun (hV857 _ (K_old kz832 hq853)) j).trans (hz846 j)
  have kz867 := hE855.arr kz834
  have hz866 : ∀ j, V858 o225 j = .int 0 := fun j => (congrFun (hV857 _ (K_old kz834 hq853)) j).trans (hz847 j)
  have kz869 := hE855.arr kz836
  have hz868 : ∀ j, V858 o248 j = .int 0 := fun j => (congrFun (hV857 _ (K_old kz836 hq853)) j).trans (hz848 j)
  have kz871 := hE855.arr kz838
  have hz870 : ∀ j, V858 o274 j = .int 0 := fun j => (congrFun (hV857 _ (K_old kz838 hq853)) j).trans (hz849 j)
  have kz873 := hE855.arr kz840
  have hz872 : ∀ j, V858 o423 j = .int 0 := fun j => (congrFun (hV857 _ (K_old kz840 hq853)) j).trans (hz850 j)
  have h874 := KE.nw (KE.new (KE.new (KE.new (KE.new (KE.new (KE.new (KE.new (KE.new (KE.new (KE.new (KE.new (KE.new (KE.new (KE.new (KE.new (KE.new (KE.new (KE.new (KE.new (KE.new (KE.new (KE.new (KE.new (KE.new (KE.new (KE.new (KE.new (KE.new (KE.new (KE.new (KE.new (KE.new (KE.new (KE.new KE.rf hq10 hK11) hq25 hK26) hq40 hK41) hq55 hK56) hq70 hK71) hq85 hK86) hq100 hK101) hq115 hK116) hq130 hK131) hq145 hK146) hq160 hK161) hq175 hK176) hq190 hK191) hq207 hK208) hq227 hK228) hq250 hK251) hq276 hK277) hq305 hK306) hq335 hK336) hq365 hK366) hq395 hK396) hq425 hK426) hq457 hK458) hq490 hK491) hq523 hK524) hq556 hK557) hq589 hK590) hq622 hK623) hq655 hK656) hq688 hK689) hq721 hK722) hq754 hK755) hq787 hK788) hq820 hK821) h827 hq853
  clear pf844 kz830 hz845 kz832 hz846 kz834 hz847 kz836 hz848 kz838 hz849 kz840 hz850
  refine GO.putRF rfl rfl (by decide +kernel) h860 fp_raw_fp_RX12_121 rfl rfl dX12_init_305 (fun V876 e875 => ?_)
  have pf877 := PF.put pf861 e875 rfl
  have hz878 : ∀ j, V876 o188 j = .int 0 := fun j => (uq_ne e875 (Or.inl (K_ne kz863 h860 (by decide)))).trans (hz862 j)
  have hz879 : ∀ j, V876 o205 j = .int 0 := fun j => (uq_ne e875 (Or.inl (K_ne kz865 h860 (by decide)))).trans (hz864 j)
  have hz880 : ∀ j, V876 o225 j = .int 0 := fun j => (uq_ne e875 (Or.inl (K_ne kz867 h860 (by decide)))).trans (hz866 j)
  have hz881 : ∀ j, V876 o248 j = .int 0 := fun j => (uq_ne e875 (Or.inl (K_ne kz869 h860 (by decide)))).trans (hz868 j)
  have hz882 : ∀ j, V876 o274 j = .int 0 := fun j => (uq_ne e875 (Or.inl (K_ne kz871 h860 (by decide)))).trans (hz870 j)
  have hz883 : ∀ j, V876 o423 j = .int 0 := fun j => (uq_ne e875 (Or.inl (K_ne kz873 h860 (by decide)))).trans (hz872 j)
  clear pf861 hz862 hz864 hz866 hz868 hz870 hz872
  refine GO.aload_n dX12_init_308 rfl rfl ?_
  refine GO.sipush dX12_init_309 rfl ?_
  refine GO.newT (atype := .int) 44 240 gw_89 rfl rfl (fun _ _ h => h) rfl rfl rfl (Or.inr rfl) (fun _ => okv_df rfl rfl rfl) rfl rfl dX12_init_312 (fun o884 K885 V891 hq886 hK887 hE888 h889 hz892 hV890 => ?_)
  have h893 := (by rw [hK887, updK_ne (K_old h860 hq886)]; exact h860 : K885 x = some (0, 23))
  have pf894 := PF.nw pf877 hV890 (K_old h860 hq886)
  have kz896 := hE888.arr kz863
  have hz895 : ∀ j, V891 o188 j = .int 0 := fun j => (congrFun (hV890 _ (K_old kz863 hq886)) j).trans (hz878 j)
  have kz898 := hE888.arr kz865
  have hz897 : ∀ j, V891 o205 j = .int 0 := fun j => (congrFun (hV890 _ (K_old kz865 hq886)) j).trans (hz879 j)
  have kz900 := hE888.arr kz867
  have hz899 : ∀ j, V891 o225 j = .int 0 := fun j => (congrFun (hV890 _ (K_old kz867 hq886)) j).trans (hz880 j)
  have kz902 := hE888.arr kz869
  have hz901 : ∀ j, V891 o248 j = .int 0 := fun j => (congrFun (hV890 _ (K_old kz869 hq886)) j).trans (hz881 j)
  have kz904 := hE888.arr kz871
  have hz903 : ∀ j, V891 o274 j = .int 0 := fun j => (congrFun (hV890 _ (K_old kz871 hq886)) j).trans (hz882 j)
  have kz906 := hE888.arr kz873
  have hz905 : ∀ j, V891 o423 j = .int 0 := fun j => (congrFun (hV890 _ (K_old kz873 hq886)) j).trans (hz883 j)
  have h907 := KE.nw (KE.new (KE.new (KE.new (KE.new (KE.new (KE.new (KE.new (KE.new (KE.new (KE.new (KE.new (KE.new (KE.new (KE.new (KE.new (KE.new (KE.new (KE.new (KE.new (KE.new (KE.new (KE.new (KE.new (KE.new (KE.new (KE.new (KE.new (KE.new (KE.new (KE.new (KE.new (KE.new (KE.new (KE.new (KE.new KE.rf hq10 hK11) hq25 hK26) hq40 hK41) hq55 hK56) hq70 hK71) hq85 hK86) hq100 hK101) hq115 hK116) hq130 hK131) hq145 hK146) hq160 hK161) hq175 hK176) hq190 hK191) hq207 hK208) hq227 hK228) hq250 hK251) hq276 hK277) hq305 hK306) hq335 hK336) hq365 hK366) hq395 hK396) hq425 hK426) hq457 hK458) hq490 hK491) hq523 hK524) hq556 hK557) hq589 hK590) hq622 hK623) hq655 hK656) hq688 hK689) hq721 hK722) hq754 hK755) hq787 hK788) hq820 hK821) hq853 hK854) h860 hq886
  clear pf877 kz863 hz878 kz865 hz879 kz867 hz880 kz869 hz881 kz871 hz882 kz873 hz883
  refine GO.putRF rfl rfl (by decide +kernel) h893 fp_raw_fp_RX12_124 rfl rfl dX12_init_314 (fun V909 e908 => ?_)
  have pf910 := PF.put pf894 e908 rfl
  have hz911 : ∀ j, V909 o188 j = .int 0 := fun j => (uq_ne e908 (Or.inl (K_ne kz896 h893 (by decide)))).trans (hz895 j)
  have hz912 : ∀ j, V909 o205 j = .int 0 := fun j => (uq_ne e908 (Or.inl (K_ne kz898 h893 (by decide)))).trans (hz897 j)
  have hz913 : ∀ j, V909 o225 j = .int 0 := fun j => (uq_ne e908 (Or.inl (K_ne kz900 h893 (by decide)))).trans (hz899 j)
  have hz914 : ∀ j, V909 o248 j = .int 0 := fun j => (uq_ne e908 (Or.inl (K_ne kz902 h893 (by decide)))).trans (hz901 j)
  have hz915 : ∀ j, V909 o274 j = .int 0 := fun j => (uq_ne e908 (Or.inl (K_ne kz904 h893 (by decide)))).trans (hz903 j)
  have hz916 : ∀ j, V909 o423 j = .int 0 := fun j => (uq_ne e908 (Or.inl (K_ne kz906 h893 (by decide)))).trans (hz905 j)
  clear pf894 hz895 hz897 hz899 hz901 hz903 hz905
  refine GO.aload_n dX12_init_317 rfl rfl ?_
  refine GO.sipush dX12_init_318 rfl ?_
  refine GO.newT (atype := .int) 45 240 gw_89 rfl rfl (fun _ _ h => h) rfl rfl rfl (Or.inr rfl) (fun _ => okv_df rfl rfl rfl) rfl rfl dX12_init_321 (fun o917 K918 V924 hq919 hK920 hE921 h922 hz925 hV923 => ?_)
  have h926 := (by rw [hK920, updK_ne (K_old h893 hq919)]; exact h893 : K918 x = some (0, 23))
  have pf927 := PF.nw pf910 hV923 (K_old h893 hq919)
  have kz929 := hE921.arr kz896
  have hz928 : ∀ j, V924 o188 j = .int 0 := fun j => (congrFun (hV923 _ (K_old kz896 hq919)) j).trans (hz911 j)
  have kz931 := hE921.arr kz898
  have hz930 : ∀ j, V924 o205 j = .int 0 := fun j => (congrFun (hV923 _ (K_old kz898 hq919)) j).trans (hz912 j)
  have kz933 := hE921.arr kz900
  have hz932 : ∀ j, V924 o225 j = .int 0 := fun j => (congrFun (hV923 _ (K_old kz900 hq919)) j).trans (hz913 j)
  have kz935 := hE921.arr kz902
  have hz934 : ∀ j, V924 o248 j = .int 0 := fun j => (congrFun (hV923 _ (K_old kz902 hq919)) j).trans (hz914 j)
  have kz937 := hE921.arr kz904
  have hz936 : ∀ j, V924 o274 j = .int 0 := fun j => (congrFun (hV923 _ (K_old kz904 hq919)) j).trans (hz915 j)
  have kz939 := hE921.arr kz906
  have hz938 : ∀ j, V924 o423 j = .int 0 := fun j => (congrFun (hV923 _ (K_old kz906 hq919)) j).trans (hz916 j)
  have h940 := KE.nw (KE.new (KE.new (KE.new (KE.new (KE.new (KE.new (KE.new (KE.new (KE.new (KE.new (KE.new (KE.new (KE.new (KE.new (KE.new (KE.new (KE.new (KE.new (KE.new (KE.new (KE.new (KE.new (KE.new (KE.new (KE.new (KE.new (KE.new (KE.new (KE.new (KE.new (KE.new (KE.new (KE.new (KE.new (KE.new (KE.new KE.rf hq10 hK11) hq25 hK26) hq40 hK41) hq55 hK56) hq70 hK71) hq85 hK86) hq100 hK101) hq115 hK116) hq130 hK131) hq145 hK146) hq160 hK161) hq175 hK176) hq190 hK191) hq207 hK208) hq227 hK228) hq250 hK251) hq276 hK277) hq305 hK306) hq335 hK336) hq365 hK366) hq395 hK396) hq425 hK426) hq457 hK458) hq490 hK491) hq523 hK524) hq556 hK557) hq589 hK590) hq622 hK623) hq655 hK656) hq688 hK689) hq721 hK722) hq754 hK755) hq787 hK788) hq820 hK821) hq853 hK854) hq886 hK887) h893 hq919
  clear pf910 kz896 hz911 kz898 hz912 kz900 hz913 kz902 hz914 kz904 hz915 kz906 hz916
  refine GO.putRF rfl rfl (by decide +kernel) h926 fp_raw_fp_RX12_127 rfl rfl dX12_init_323 (fun V942 e941 => ?_)
  have pf943 := PF.put pf927 e941 rfl
  have hz944 : ∀ j, V942 o188 j = .int 0 := fun j => (uq_ne e941 (Or.inl (K_ne kz929 h926 (by decide)))).trans (hz928 j)
  have hz945 : ∀ j, V942 o205 j = .int 0 := fun j => (uq_ne e941 (Or.inl (K_ne kz931 h926 (by decide)))).trans (hz930 j)
  have hz946 : ∀ j, V942 o225 j = .int 0 := fun j => (uq_ne e941 (Or.inl (K_ne kz933 h926 (by decide)))).trans (hz932 j)
  have hz947 : ∀ j, V942 o248 j = .int 0 := fun j => (uq_ne e941 (Or.inl (K_ne kz935 h926 (by decide)))).trans (hz934 j)
  have hz948 : ∀ j, V942 o274 j = .int 0 := fun j => (uq_ne e941 (Or.inl (K_ne kz937 h926 (by decide)))).trans (hz936 j)
  have hz949 : ∀ j, V942 o423 j = .int 0 := fun j => (uq_ne e941 (Or.inl (K_ne kz939 h926 (by decide)))).trans (hz938 j)
  clear pf927 hz928 hz930 hz932 hz934 hz936 hz938
  refine GO.aload_n dX12_init_326 rfl rfl ?_
  refine GO.sipush dX12_init_327 rfl ?_
  refine GO.newT (atype := .int) 46 240 gw_89 rfl rfl (fun _ _ h => h) rfl rfl rfl (Or.inr rfl) (fun _ => okv_df rfl rfl rfl) rfl rfl dX12_init_330 (fun o950 K951 V957 hq952 hK953 hE954 h955 hz958 hV956 => ?_)
  have h959 := (by rw [hK953, updK_ne (K_old h926 hq952)]; exact h926 : K951 x = some (0, 23))
  have pf960 := PF.nw pf943 hV956 (K_old h926 hq952)
  have kz962 := hE954.arr kz929
  have hz961 : ∀ j, V957 o188 j = .int 0 := fun j => (congrFun (hV956 _ (K_old kz929 hq952)) j).trans (hz944 j)
  have kz964 := hE954.arr kz931
  have hz963 : ∀ j, V957 o205 j = .int 0 := fun j => (congrFun (hV956 _ (K_old kz931 hq952)) j).trans (hz945 j)
  have kz966 := hE954.arr kz933
  have hz965 : ∀ j, V957 o225 j = .int 0 := fun j => (congrFun (hV956 _ (K_old kz933 hq952)) j).trans (hz946 j)
  have kz968 := hE954.arr kz935
  have hz967 : ∀ j, V957 o248 j = .int 0 := fun j => (congrFun (hV956 _ (K_old kz935 hq952)) j).trans (hz947 j)
  have kz970 := hE954.arr kz937
  have hz969 : ∀ j, V957 o274 j = .int 0 := fun j => (congrFun (hV956 _ (K_old kz937 hq952)) j).trans (hz948 j)
  have kz972 := hE954.arr kz939
  have hz971 : ∀ j, V957 o423 j = .int 0 := fun j => (congrFun (hV956 _ (K_old kz939 hq952)) j).trans (hz949 j)
  have h973 := KE.nw (KE.new (KE.new (KE.new (KE.new (KE.new (KE.new (KE.new (KE.new (KE.new (KE.new (KE.new (KE.new (KE.new (KE.new (KE.new (KE.new (KE.new (KE.new (KE.new (KE.new (KE.new (KE.new (KE.new (KE.new (KE.new (KE.new (KE.new (KE.new (KE.new (KE.new (KE.new (KE.new (KE.new (KE.new (KE.new (KE.new (KE.new KE.rf hq10 hK11) hq25 hK26) hq40 hK41) hq55 hK56) hq70 hK71) hq85 hK86) hq100 hK101) hq115 hK116) hq130 hK131) hq145 hK146) hq160 hK161) hq175 hK176) hq190 hK191) hq207 hK208) hq227 hK228) hq250 hK251) hq276 hK277) hq305 hK306) hq335 hK336) hq365 hK366) hq395 hK396) hq425 hK426) hq457 hK458) hq490 hK491) hq523 hK524) hq556 hK557) hq589 hK590) hq622 hK623) hq655 hK656) hq688 hK689) hq721 hK722) hq754 hK755) hq787 hK788) hq820 hK821) hq853 hK854) hq886 hK887) hq919 hK920) h926 hq952
  clear pf943 kz929 hz944 kz931 hz945 kz933 hz946 kz935 hz947 kz937 hz948 kz939 hz949
  refine GO.putRF rfl rfl (by decide +kernel) h959 fp_raw_fp_RX12_130 rfl rfl dX12_init_332 (fun V975 e974 => ?_)
  have pf976 := PF.put pf960 e974 rfl
  have hz977 : ∀ j, V975 o188 j = .int 0 := fun j => (uq_ne e974 (Or.inl (K_ne kz962 h959 (by decide)))).trans (hz961 j)
  have hz978 : ∀ j, V975 o205 j = .int 0 := fun j => (uq_ne e974 (Or.inl (K_ne kz964 h959 (by decide)))).trans (hz963 j)
  have hz979 : ∀ j, V975 o225 j = .int 0 := fun j => (uq_ne e974 (Or.inl (K_ne kz966 h959 (by decide)))).trans (hz965 j)
  have hz980 : ∀ j, V975 o248 j = .int 0 := fun j => (uq_ne e974 (Or.inl (K_ne kz968 h959 (by decide)))).trans (hz967 j)
  have hz981 : ∀ j, V975 o274 j = .int 0 := fun j => (uq_ne e974 (Or.inl (K_ne kz970 h959 (by decide)))).trans (hz969 j)
  have hz982 : ∀ j, V975 o423 j = .int 0 := fun j => (uq_ne e974 (Or.inl (K_ne kz972 h959 (by decide)))).trans (hz971 j)
  clear pf960 hz961 hz963 hz965 hz967 hz969 hz971
  refine GO.aload_n dX12_init_335 rfl rfl ?_
  refine GO.sipush dX12_init_336 rfl ?_
  refine GO.newT (atype := .int) 47 240 gw_89 rfl rfl (fun _ _ h => h) rfl rfl rfl (Or.inr rfl) (fun _ => okv_df rfl rfl rfl) rfl rfl dX12_init_339 (fun o983 K984 V990 hq985 hK986 hE987 h988 hz991 hV989 => ?_)
  have h992 := (by rw [hK986, updK_ne (K_old h959 hq985)]; exact h959 : K984 x = some (0, 23))
  have pf993 := PF.nw pf976 hV989 (K_old h959 hq985)
  have kz995 := hE987.arr kz962
  have hz994 : ∀ j, V990 o188 j = .int 0 := fun j => (congrFun (hV989 _ (K_old kz962 hq985)) j).trans (hz977 j)
  have kz997 := hE987.arr kz964
  have hz996 : ∀ j, V990 o205 j = .int 0 := fun j => (congrFun (hV989 _ (K_old kz964 hq985)) j).trans (hz978 j)
  have kz999 := hE987.arr kz966
  have hz998 : ∀ j, V990 o225 j = .int 0 := fun j => (congrFun (hV989 _ (K_old kz966 hq985)) j).trans (hz979 j)
  have kz1001 := hE987.arr kz968
  have hz1000 : ∀ j, V990 o248 j = .int 0 := fun j => (congrFun (hV989 _ (K_old kz968 hq985)) j).trans (hz980 j)
  have kz1003 := hE987.arr kz970
  have hz1002 : ∀ j, V990 o274 j = .int 0 := fun j => (congrFun (hV989 _ (K_old kz970 hq985)) j).trans (hz981 j)
  have kz1005 := hE987.arr kz972
  have hz1004 : ∀ j, V990 o423 j = .int 0 := fun j => (congrFun (hV989 _ (K_old kz972 hq985)) j).trans (hz982 j)
  have h1006 := KE.nw (KE.new (KE.new (KE.new (KE.new (KE.new (KE.new (KE.new (KE.new (KE.new (KE.new (KE.new (KE.new (KE.new (KE.new (KE.new (KE.new (KE.new (KE.new (KE.new (KE.new (KE.new (KE.new (KE.new (KE.new (KE.new (KE.new (KE.new (KE.new (KE.new (KE.new (KE.new (KE.new (KE.new (KE.new (KE.new (KE.new (KE.new (KE.new KE.rf hq10 hK11) hq25 hK26) hq40 hK41) hq55 hK56) hq70 hK71) hq85 hK86) hq100 hK101) hq115 hK116) hq130 hK131) hq145 hK146) hq160 hK161) hq175 hK176) hq190 hK191) hq207 hK208) hq227 hK228) hq250 hK251) hq276 hK277) hq305 hK306) hq335 hK336) hq365 hK366) hq395 hK396) hq425 hK426) hq457 hK458) hq490 hK491) hq523 hK524) hq556 hK557) hq589 hK590) hq622 hK623) hq655 hK656) hq688 hK689) hq721 hK722) hq754 hK755) hq787 hK788) hq820 hK821) hq853 hK854) hq886 hK887) hq919 hK920) hq952 hK953) h959 hq985
  clear pf976 kz962 hz977 kz964 hz978 kz966 hz979 kz968 hz980 kz970 hz981 kz972 hz982
  refine GO.putRF rfl rfl (by decide +kernel) h992 fp_raw_fp_RX12_133 rfl rfl dX12_init_341 (fun V1008 e1007 => ?_)
  have pf1009 := PF.put pf993 e1007 rfl
  have hz1010 : ∀ j, V1008 o188 j = .int 0 := fun j => (uq_ne e1007 (Or.inl (K_ne kz995 h992 (by decide)))).trans (hz994 j)
  have hz1011 : ∀ j, V1008 o205 j = .int 0 := fun j => (uq_ne e1007 (Or.inl (K_ne kz997 h992 (by decide)))).trans (hz996 j)
  have hz1012 : ∀ j, V1008 o225 j = .int 0 := fun j => (uq_ne e1007 (Or.inl (K_ne kz999 h992 (by decide)))).trans (hz998 j)
  have hz1013 : ∀ j, V1008 o248 j = .int 0 := fun j => (uq_ne e1007 (Or.inl (K_ne kz1001 h992 (by decide)))).trans (hz1000 j)
  have hz1014 : ∀ j, V1008 o274 j = .int 0 := fun j => (uq_ne e1007 (Or.inl (K_ne kz1003 h992 (by decide)))).trans (hz1002 j)
  have hz1015 : ∀ j, V1008 o423 j = .int 0 := fun j => (uq_ne e1007 (Or.inl (K_ne kz1005 h992 (by decide)))).trans (hz1004 j)
  clear pf993 hz994 hz996 hz998 hz1000 hz1002 hz1004
  refine GO.aload_n dX12_init_344 rfl rfl ?_
  refine GO.sipush dX12_init_345 rfl ?_
  refine GO.newT (atype := .int) 48 240 gw_89 rfl rfl (fun _ _ h => h) rfl rfl rfl (Or.inr rfl) (fun _ => okv_df rfl rfl rfl) rfl rfl dX12_init_348 (fun o1016 K1017 V1023 hq1018 hK1019 hE1020 h1021 hz1024 hV1022 => ?_)
  have h1025 := (by rw [hK1019, updK_ne (K_old h992 hq1018)]; exact h992 : K1017 x = some (0, 23))
  have pf1026 := PF.nw pf1009 hV1022 (K_old h992 hq1018)
  have kz1028 := hE1020.arr kz995
  have hz1027 : ∀ j, V1023 o188 j = .int 0 := fun j => (congrFun (hV1022 _ (K_old kz995 hq1018)) j).trans (hz1010 j)
  have kz1030 := hE1020.arr kz997
  have hz1029 : ∀ j, V1023 o205 j = .int 0 := fun j => (congrFun (hV1022 _ (K_old kz997 hq1018)) j).trans (hz1011 j)
  have kz1032 := hE1020.arr kz999
  have hz1031 : ∀ j, V1023 o225 j = .int 0 := fun j => (congrFun (hV1022 _ (K_old kz999 hq1018)) j).trans (hz1012 j)
  have kz1034 := hE1020.arr kz1001
  have hz1033 : ∀ j, V1023 o248 j = .int 0 := fun j => (congrFun (hV1022 _ (K_old kz1001 hq1018)) j).trans (hz1013 j)
  have kz1036 := hE1020.arr kz1003
  have hz1035 : ∀ j, V1023 o274 j = .int 0 := fun j => (congrFun (hV1022 _ (K_old kz1003 hq1018)) j).trans (hz1014 j)
  have kz1038 := hE1020.arr kz1005
  have hz1037 : ∀ j, V1023 o423 j = .int 0 := fun j => (congrFun (hV1022 _ (K_old kz1005 hq1018)) j).trans (hz1015 j)
  have h1039 := KE.nw (KE.new (KE.new (KE.new (KE.new (KE.new (KE.new (KE.new (KE.new (KE.new (KE.new (KE.new (KE.new (KE.new (KE.new (KE.new (KE.new (KE.new (KE.new (KE.new (KE.new (KE.new (KE.new (KE.new (KE.new (KE.new (KE.new (KE.new (KE.new (KE.new (KE.new (KE.new (KE.new (KE.new (KE.new (KE.new (KE.new (KE.new (KE.new (KE.new KE.rf hq10 hK11) hq25 hK26) hq40 hK41) hq55 hK56) hq70 hK71) hq85 hK86) hq100 hK101) hq115 hK116) hq130 hK131) hq145 hK146) hq160 hK161) hq175 hK176) hq190 hK191) hq207 hK208) hq227 hK228) hq250 hK251) hq276 hK277) hq305 hK306) hq335 hK336) hq365 hK366) hq395 hK396) hq425 hK426) hq457 hK458) hq490 hK491) hq523 hK524) hq556 hK557) hq589 hK590) hq622 hK623) hq655 hK656) hq688 hK689) hq721 hK722) hq754 hK755) hq787 hK788) hq820 hK821) hq853 hK854) hq886 hK887) hq919 hK920) hq952 hK953) hq985 hK986) h992 hq1018
  clear pf1009 kz995 hz1010 kz997 hz1011 kz999 hz1012 kz1001 hz1013 kz1003 hz1014 kz1005 hz1015
  refine GO.putRF rfl rfl (by decide +kernel) h1025 fp_raw_fp_RX12_136 rfl rfl dX12_init_350 (fun V1041 e1040 => ?_)
  have pf1042 := PF.put pf1026 e1040 rfl
  have hz1043 : ∀ j, V1041 o188 j = .int 0 := fun j => (uq_ne e1040 (Or.inl (K_ne kz1028 h1025 (by decide)))).trans (hz1027 j)
  have hz1044 : ∀ j, V1041 o205 j = .int 0 := fun j => (uq_ne e1040 (Or.inl (K_ne kz1030 h1025 (by decide)))).trans (hz1029 j)
  have hz1045 : ∀ j, V1041 o225 j = .int 0 := fun j => (uq_ne e1040 (Or.inl (K_ne kz1032 h1025 (by decide)))).trans (hz1031 j)
  have hz1046 : ∀ j, V1041 o248 j = .int 0 := fun j => (uq_ne e1040 (Or.inl (K_ne kz1034 h1025 (by decide)))).trans (hz1033 j)
  have hz1047 : ∀ j, V1041 o274 j = .int 0 := fun j => (uq_ne e1040 (Or.inl (K_ne kz1036 h1025 (by decide)))).trans (hz1035 j)
  have hz1048 : ∀ j, V1041 o423 j = .int 0 := fun j => (uq_ne e1040 (Or.inl (K_ne kz1038 h1025 (by decide)))).trans (hz1037 j)
  clear pf1026 hz1027 hz1029 hz1031 hz1033 hz1035 hz1037
  refine GO.aload_n dX12_init_353 rfl rfl ?_
  refine GO.sipush dX12_init_354 rfl ?_
  refine GO.newT (atype := .int) 49 240 gw_89 rfl rfl (fun _ _ h => h) rfl rfl rfl (Or.inr rfl) (fun _ => okv_df rfl rfl rfl) rfl rfl dX12_init_357 (fun o1049 K1050 V1056 hq1051 hK1052 hE1053 h1054 hz1057 hV1055 => ?_)
  have h1058 := (by rw [hK1052, updK_ne (K_old h1025 hq1051)]; exact h1025 : K1050 x = some (0, 23))
  have pf1059 := PF.nw pf1042 hV1055 (K_old h1025 hq1051)
  have kz1061 := hE1053.arr kz1028
  have hz1060 : ∀ j, V1056 o188 j = .int 0 := fun j => (congrFun (hV1055 _ (K_old kz1028 hq1051)) j).trans (hz1043 j)
  have kz1063 := hE1053.arr kz1030
  have hz1062 : ∀ j, V1056 o205 j = .int 0 := fun j => (congrFun (hV1055 _ (K_old kz1030 hq1051)) j).trans (hz1044 j)
  have kz1065 := hE1053.arr kz1032
  have hz1064 : ∀ j, V1056 o225 j = .int 0 := fun j => (congrFun (hV1055 _ (K_old kz1032 hq1051)) j).trans (hz1045 j)
  have kz1067 := hE1053.arr kz1034
  have hz1066 : ∀ j, V1056 o248 j = .int 0 := fun j => (congrFun (hV1055 _ (K_old kz1034 hq1051)) j).trans (hz1046 j)
  have kz1069 := hE1053.arr kz1036
  have hz1068 : ∀ j, V1056 o274 j = .int 0 := fun j => (congrFun (hV1055 _ (K_old kz1036 hq1051)) j).trans (hz1047 j)
  have kz1071 := hE1053.arr kz1038
  have hz1070 : ∀ j, V1056 o423 j = .int 0 := fun j => (congrFun (hV1055 _ (K_old kz1038 hq1051)) j).trans (hz1048 j)
  have h1072 := KE.nw (KE.new (KE.new (KE.new (KE.new (KE.new (KE.new (KE.new (KE.new (KE.new (KE.new (KE.new (KE.new (KE.new (KE.new (KE.new (KE.new (KE.new (KE.new (KE.new (KE.new (KE.new (KE.new (KE.new (KE.new (KE.new (KE.new (KE.new (KE.new (KE.new (KE.new (KE.new (KE.new (KE.new (KE.new (KE.new (KE.new (KE.new (KE.new (KE.new (KE.new KE.rf hq10 hK11) hq25 hK26) hq40 hK41) hq55 hK56) hq70 hK71) hq85 hK86) hq100 hK101) hq115 hK116) hq130 hK131) hq145 hK146) hq160 hK161) hq175 hK176) hq190 hK191) hq207 hK208) hq227 hK228) hq250 hK251) hq276 hK277) hq305 hK306) hq335 hK336) hq365 hK366) hq395 hK396) hq425 hK426) hq457 hK458) hq490 hK491) hq523 hK524) hq556 hK557) hq589 hK590) hq622 hK623) hq655 hK656) hq688 hK689) hq721 hK722) hq754 hK755) hq787 hK788) hq820 hK821) hq853 hK854) hq886 hK887) hq919 hK920) hq952 hK953) hq985 hK986) hq1018 hK1019) h1025 hq1051
  clear pf1042 kz1028 hz1043 kz1030 hz1044 kz1032 hz1045 kz1034 hz1046 kz1036 hz1047 kz1038 hz1048
  refine GO.putRF rfl rfl (by decide +kernel) h1058 fp_raw_fp_RX12_139 rfl rfl dX12_init_359 (fun V1074 e1073 => ?_)
  have pf1075 := PF.put pf1059 e1073 rfl
  have hz1076 : ∀ j, V1074 o188 j = .int 0 := fun j => (uq_ne e1073 (Or.inl (K_ne kz1061 h1058 (by decide)))).trans (hz1060 j)
  have hz1077 : ∀ j, V1074 o205 j = .int 0 := fun j => (uq_ne e1073 (Or.inl (K_ne kz1063 h1058 (by decide)))).trans (hz1062 j)
  have hz1078 : ∀ j, V1074 o225 j = .int 0 := fun j => (uq_ne e1073 (Or.inl (K_ne kz1065 h1058 (by decide)))).trans (hz1064 j)
  have hz1079 : ∀ j, V1074 o248 j = .int 0 := fun j => (uq_ne e1073 (Or.inl (K_ne kz1067 h1058 (by decide)))).trans (hz1066 j)
  have hz1080 : ∀ j, V1074 o274 j = .int 0 := fun j => (uq_ne e1073 (Or.inl (K_ne kz1069 h1058 (by decide)))).trans (hz1068 j)
  have hz1081 : ∀ j, V1074 o423 j = .int 0 := fun j => (uq_ne e1073 (Or.inl (K_ne kz1071 h1058 (by decide)))).trans (hz1070 j)
  clear pf1059 hz1060 hz1062 hz1064 hz1066 hz1068 hz1070
  refine GO.aload_n dX12_init_362 rfl rfl ?_
  refine GO.sipush dX12_init_363 rfl ?_
  refine GO.newT (atype := .int) 50 180 gw_89 rfl rfl (fun _ _ h => h) rfl rfl rfl (Or.inr rfl) (fun _ => okv_df rfl rfl rfl) rfl rfl dX12_init_366 (fun o1082 K1083 V1089 hq1084 hK1085 hE1086 h1087 hz1090 hV1088 => ?_)
  have h1091 := (by rw [hK1085, updK_ne (K_old h1058 hq1084)]; exact h1058 : K1083 x = some (0, 23))
  have pf1092 := PF.nw pf1075 hV1088 (K_old h1058 hq1084)
  have kz1094 := hE1086.arr kz1061
  have hz1093 : ∀ j, V1089 o188 j = .int 0 := fun j => (congrFun (hV1088 _ (K_old kz1061 hq1084)) j).trans (hz1076 j)
  have kz1096 := hE1086.arr kz1063
  have hz1095 : ∀ j, V1089 o205 j = .int 0 := fun j => (congrFun (hV1088 _ (K_old kz1063 hq1084)) j).trans (hz1077 j)
  have kz1098 := hE1086.arr kz1065
  have hz1097 : ∀ j, V1089 o225 j = .int 0 := fun j => (congrFun (hV1088 _ (K_old kz1065 hq1084)) j).trans (hz1078 j)
  have kz1100 := hE1086.arr kz1067
  have hz1099 : ∀ j, V1089 o248 j = .int 0 := fun j => (congrFun (hV1088 _ (K_old kz1067 hq1084)) j).trans (hz1079 j)
  have kz1102 := hE1086.arr kz1069
  have hz1101 : ∀ j, V1089 o274 j = .int 0 := fun j => (congrFun (hV1088 _ (K_old kz1069 hq1084)) j).trans (hz1080 j)
  have kz1104 := hE1086.arr kz1071
  have hz1103 : ∀ j, V1089 o423 j = .int 0 := fun j => (congrFun (hV1088 _ (K_old kz1071 hq1084)) j).trans (hz1081 j)
  have h1105 := KE.nw (KE.new (KE.new (KE.new (KE.new (KE.new (KE.new (KE.new (KE.new (KE.new (KE.new (KE.new (KE.new (KE.new (KE.new (KE.new (KE.new (KE.new (KE.new (KE.new (KE.new (KE.new (KE.new (KE.new (KE.new (KE.new (KE.new (KE.new (KE.new (KE.new (KE.new (KE.new (KE.new (KE.new (KE.new (KE.new (KE.new (KE.new (KE.new (KE.new (KE.new (KE.new KE.rf hq10 hK11) hq25 hK26) hq40 hK41) hq55 hK56) hq70 hK71) hq85 hK86) hq100 hK101) hq115 hK116) hq130 hK131) hq145 hK146) hq160 hK161) hq175 hK176) hq190 hK191) hq207 hK208) hq227 hK228) hq250 hK251) hq276 hK277) hq305 hK306) hq335 hK336) hq365 hK366) hq395 hK396) hq425 hK426) hq457 hK458) hq490 hK491) hq523 hK524) hq556 hK557) hq589 hK590) hq622 hK623) hq655 hK656) hq688 hK689) hq721 hK722) hq754 hK755) hq787 hK788) hq820 hK821) hq853 hK854) hq886 hK887) hq919 hK920) hq952 hK953) hq985 hK986) hq1018 hK1019) hq1051 hK1052) h1058 hq1084
  clear pf1075 kz1061 hz1076 kz1063 hz1077 kz1065 hz1078 kz1067 hz1079 kz1069 hz1080 kz1071 hz1081
  refine GO.putRF rfl rfl (by decide +kernel) h1091 fp_raw_fp_RX12_142 rfl rfl dX12_init_368 (fun V1107 e1106 => ?_)
  have pf1108 := PF.put pf1092 e1106 rfl
  have hz1109 : ∀ j, V1107 o188 j = .int 0 := fun j => (uq_ne e1106 (Or.inl (K_ne kz1094 h1091 (by decide)))).trans (hz1093 j)
  have hz1110 : ∀ j, V1107 o205 j = .int 0 := fun j => (uq_ne e1106 (Or.inl (K_ne kz1096 h1091 (by decide)))).trans (hz1095 j)
  have hz1111 : ∀ j, V1107 o225 j = .int 0 := fun j => (uq_ne e1106 (Or.inl (K_ne kz1098 h1091 (by decide)))).trans (hz1097 j)
  have hz1112 : ∀ j, V1107 o248 j = .int 0 := fun j => (uq_ne e1106 (Or.inl (K_ne kz1100 h1091 (by decide)))).trans (hz1099 j)
  have hz1113 : ∀ j, V1107 o274 j = .int 0 := fun j => (uq_ne e1106 (Or.inl (K_ne kz1102 h1091 (by decide)))).trans (hz1101 j)
  have hz1114 : ∀ j, V1107 o423 j = .int 0 := fun j => (uq_ne e1106 (Or.inl (K_ne kz1104 h1091 (by decide)))).trans (hz1103 j)
  clear pf1092 hz1093 hz1095 hz1097 hz1099 hz1101 hz1103
  refine GO.aload_n dX12_init_371 rfl rfl ?_
  refine GO.sipush dX12_init_372 rfl ?_
  refine GO.newT (atype := .int) 51 2200 gw_89 rfl rfl (fun _ _ h => h) rfl rfl rfl (Or.inr rfl) (fun _ => okv_df rfl rfl rfl) rfl rfl dX12_init_375 (fun o1115 K1116 V1122 hq1117 hK1118 hE1119 h1120 hz1123 hV1121 => ?_)
  have h1124 := (by rw [hK1118, updK_ne (K_old h1091 hq1117)]; exact h1091 : K1116 x = some (0, 23))
  have pf1125 := PF.nw pf1108 hV1121 (K_old h1091 hq1117)
  have kz1127 := hE1119.arr kz1094
  have hz1126 : ∀ j, V1122 o188 j = .int 0 := fun j => (congrFun (hV1121 _ (K_old kz1094 hq1117)) j).trans (hz1109 j)
  have kz1129 := hE1119.arr kz1096
  have hz1128 : ∀ j, V1122 o205 j = .int 0 := fun j => (congrFun (hV1121 _ (K_old kz1096 hq1117)) j).trans (hz1110 j)
  have kz1131 := hE1119.arr kz1098
  have hz1130 : ∀ j, V1122 o225 j = .int 0 := fun j => (congrFun (hV1121 _ (K_old kz1098 hq1117)) j).trans (hz1111 j)
  have kz1133 := hE1119.arr kz1100
  have hz1132 : ∀ j, V1122 o248 j = .int 0 := fun j => (congrFun (hV1121 _ (K_old kz1100 hq1117)) j).trans (hz1112 j)
  have kz1135 := hE1119.arr kz1102
  have hz1134 : ∀ j, V1122 o274 j = .int 0 := fun j => (congrFun (hV1121 _ (K_old kz1102 hq1117)) j).trans (hz1113 j)
  have kz1137 := hE1119.arr kz1104
  have hz1136 : ∀ j, V1122 o423 j = .int 0 := fun j => (congrFun (hV1121 _ (K_old kz1104 hq1117)) j).trans (hz1114 j)
  have h1138 := KE.nw (KE.new (KE.new (KE.new (KE.new (KE.new (KE.new (KE.new (KE.new (KE.new (KE.new (KE.new (KE.new (KE.new (KE.new (KE.new (KE.new (KE.new (KE.new (KE.new (KE.new (KE.new (KE.new (KE.new (KE.new (KE.new (KE.new (KE.new (KE.new (KE.new (KE.new (KE.new (KE.new (KE.new (KE.new (KE.new (KE.new (KE.new (KE.new (KE.new (KE.new (KE.new (KE.new KE.rf hq10 hK11) hq25 hK26) hq40 hK41) hq55 hK56) hq70 hK71) hq85 hK86) hq100 hK101) hq115 hK116) hq130 hK131) hq145 hK146) hq160 hK161) hq175 hK176) hq190 hK191) hq207 hK208) hq227 hK228) hq250 hK251) hq276 hK277) hq305 hK306) hq335 hK336) hq365 hK366) hq395 hK396) hq425 hK426) hq457 hK458) hq490 hK491) hq523 hK524) hq556 hK557) hq589 hK590) hq622 hK623) hq655 hK656) hq688 hK689) hq721 hK722) hq754 hK755) hq787 hK788) hq820 hK821) hq853 hK854) hq886 hK887) hq919 hK920) hq952 hK953) hq985 hK986) hq1018 hK1019) hq1051 hK1052) hq1084 hK1085) h1091 hq1117
  clear pf1108 kz1094 hz1109 kz1096 hz1110 kz1098 hz1111 kz1100 hz1112 kz1102 hz1113 kz1104 hz1114
  refine GO.putRF rfl rfl (by decide +kernel) h1124 fp_raw_fp_RX12_145 rfl rfl dX12_init_377 (fun V1140 e1139 => ?_)
  have pf1141 := PF.put pf1125 e1139 rfl
  have hz1142 : ∀ j, V1140 o188 j = .int 0 := fun j => (uq_ne e1139 (Or.inl (K_ne kz1127 h1124 (by decide)))).trans (hz1126 j)
  have hz1143 : ∀ j, V1140 o205 j = .int 0 := fun j => (uq_ne e1139 (Or.inl (K_ne kz1129 h1124 (by decide)))).trans (hz1128 j)
  have hz1144 : ∀ j, V1140 o225 j = .int 0 := fun j => (uq_ne e1139 (Or.inl (K_ne kz1131 h1124 (by decide)))).trans (hz1130 j)
  have hz1145 : ∀ j, V1140 o248 j = .int 0 := fun j => (uq_ne e1139 (Or.inl (K_ne kz1133 h1124 (by decide)))).trans (hz1132 j)
  have hz1146 : ∀ j, V1140 o274 j = .int 0 := fun j => (uq_ne e1139 (Or.inl (K_ne kz1135 h1124 (by decide)))).trans (hz1134 j)
  have hz1147 : ∀ j, V1140 o423 j = .int 0 := fun j => (uq_ne e1139 (Or.inl (K_ne kz1137 h1124 (by decide)))).trans (hz1136 j)
  clear pf1125 hz1126 hz1128 hz1130 hz1132 hz1134 hz1136
  refine GO.aload_n dX12_init_380 rfl rfl ?_
  refine GO.bipush dX12_init_381 rfl ?_
  refine GO.newT (atype := .int) 52 20 gw_89 rfl rfl (fun _ _ h => h) rfl rfl rfl (Or.inr rfl) (fun _ => okv_df rfl rfl rfl) rfl rfl dX12_init_383 (fun o1148 K1149 V1155 hq1150 hK1151 hE1152 h1153 hz1156 hV1154 => ?_)
  have h1157 := (by rw [hK1151, updK_ne (K_old h1124 hq1150)]; exact h1124 : K1149 x = some (0, 23))
  have pf1158 := PF.nw pf1141 hV1154 (K_old h1124 hq1150)
  have kz1160 := hE1152.arr kz1127
  have hz1159 : ∀ j, V1155 o188 j = .int 0 := fun j => (congrFun (hV1154 _ (K_old kz1127 hq1150)) j).trans (hz1142 j)
  have kz1162 := hE1152.arr kz1129
  have hz1161 : ∀ j, V1155 o205 j = .int 0 := fun j => (congrFun (hV1154 _ (K_old kz1129 hq1150)) j).trans (hz1143 j)
  have kz1164 := hE1152.arr kz1131
  have hz1163 : ∀ j, V1155 o225 j = .int 0 := fun j => (congrFun (hV1154 _ (K_old kz1131 hq1150)) j).trans (hz1144 j)
  have kz1166 := hE1152.arr kz1133
  have hz1165 : ∀ j, V1155 o248 j = .int 0 := fun j => (congrFun (hV1154 _ (K_old kz1133 hq1150)) j).trans (hz1145 j)
  have kz1168 := hE1152.arr kz1135
  have hz1167 : ∀ j, V1155 o274 j = .int 0 := fun j => (congrFun (hV1154 _ (K_old kz1135 hq1150)) j).trans (hz1146 j)
  have kz1170 := hE1152.arr kz1137
  have hz1169 : ∀ j, V1155 o423 j = .int 0 := fun j => (congrFun (hV1154 _ (K_old kz1137 hq1150)) j).trans (hz1147 j)
  have h1171 := KE.nw (KE.new (KE.new (KE.new (KE.new (KE.new (KE.new (KE.new (KE.new (KE.new (KE.new (KE.new (KE.new (KE.new (KE.new (KE.new (KE.new (KE.new (KE.new (KE.new (KE.new (KE.new (KE.new (KE.new (KE.new (KE.new (KE.new (KE.new (KE.new (KE.new (KE.new (KE.new (KE.new (KE.new (KE.new (KE.new (KE.new (KE.new (KE.new (KE.new (KE.new (KE.new (KE.new (KE.new KE.rf hq10 hK11) hq25 hK26) hq40 hK41) hq55 hK56) hq70 hK71) hq85 hK86) hq100 hK101) hq115 hK116) hq130 hK131) hq145 hK146) hq160 hK161) hq175 hK176) hq190 hK191) hq207 hK208) hq227 hK228) hq250 hK251) hq276 hK277) hq305 hK306) hq335 hK336) hq365 hK366) hq395 hK396) hq425 hK426) hq457 hK458) hq490 hK491) hq523 hK524) hq556 hK557) hq589 hK590) hq622 hK623) hq655 hK656) hq688 hK689) hq721 hK722) hq754 hK755) hq787 hK788) hq820 hK821) hq853 hK854) hq886 hK887) hq919 hK920) hq952 hK953) hq985 hK986) hq1018 hK1019) hq1051 hK1052) hq1084 hK1085) hq1117 hK1118) h1124 hq1150
  clear pf1141 kz1127 hz1142 kz1129 hz1143 kz1131 hz1144 kz1133 hz1145 kz1135 hz1146 kz1137 hz1147
  refine GO.putRF rfl rfl (by decide +kernel) h1157 fp_raw_fp_RX12_148 rfl rfl dX12_init_385 (fun V1173 e1172 => ?_)
  have pf1174 := PF.put pf1158 e1172 rfl
  have hz1175 : ∀ j, V1173 o188 j = .int 0 := fun j => (uq_ne e1172 (Or.inl (K_ne kz1160 h1157 (by decide)))).trans (hz1159 j)
  have hz1176 : ∀ j, V1173 o205 j = .int 0 := fun j => (uq_ne e1172 (Or.inl (K_ne kz1162 h1157 (by decide)))).trans (hz1161 j)
  have hz1177 : ∀ j, V1173 o225 j = .int 0 := fun j => (uq_ne e1172 (Or.inl (K_ne kz1164 h1157 (by decide)))).trans (hz1163 j)
  have hz1178 : ∀ j, V1173 o248 j = .int 0 := fun j => (uq_ne e1172 (Or.inl (K_ne kz1166 h1157 (by decide)))).trans (hz1165 j)
  have hz1179 : ∀ j, V1173 o274 j = .int 0 := fun j => (uq_ne e1172 (Or.inl (K_ne kz1168 h1157 (by decide)))).trans (hz1167 j)
  have hz1180 : ∀ j, V1173 o423 j = .int 0 := fun j => (uq_ne e1172 (Or.inl (K_ne kz1170 h1157 (by decide)))).trans (hz1169 j)
  clear pf1158 hz1159 hz1161 hz1163 hz1165 hz1167 hz1169
  refine GO.aload_n dX12_init_388 rfl rfl ?_
  refine GO.bipush dX12_init_389 rfl ?_
  refine GO.newT (atype := .int) 53 20 gw_89 rfl rfl (fun _ _ h => h) rfl rfl rfl (Or.inr rfl) (fun _ => okv_df rfl rfl rfl) rfl rfl dX12_init_391 (fun o1181 K1182 V1188 hq1183 hK1184 hE1185 h1186 hz1189 hV1187 => ?_)
  have h1190 := (by rw [hK1184, updK_ne (K_old h1157 hq1183)]; exact h1157 : K1182 x = some (0, 23))
  have pf1191 := PF.nw pf1174 hV1187 (K_old h1157 hq1183)
  have kz1193 := hE1185.arr kz1160
  have hz1192 : ∀ j, V1188 o188 j = .int 0 := fun j => (congrFun (hV1187 _ (K_old kz1160 hq1183)) j).trans (hz1175 j)
  have kz1195 := hE1185.arr kz1162
  have hz1194 : ∀ j, V1188 o205 j = .int 0 := fun j => (congrFun (hV1187 _ (K_old kz1162 hq1183)) j).trans (hz1176 j)
  have kz1197 := hE1185.arr kz1164
  have hz1196 : ∀ j, V1188 o225 j = .int 0 := fun j => (congrFun (hV1187 _ (K_old kz1164 hq1183)) j).trans (hz1177 j)
  have kz1199 := hE1185.arr kz1166
  have hz1198 : ∀ j, V1188 o248 j = .int 0 := fun j => (congrFun (hV1187 _ (K_old kz1166 hq1183)) j).trans (hz1178 j)
  have kz1201 := hE1185.arr kz1168
  have hz1200 : ∀ j, V1188 o274 j = .int 0 := fun j => (congrFun (hV1187 _ (K_old kz1168 hq1183)) j).trans (hz1179 j)
  have kz1203 := hE1185.arr kz1170
  have hz1202 : ∀ j, V1188 o423 j = .int 0 := fun j => (congrFun (hV1187 _ (K_old kz1170 hq1183)) j).trans (hz1180 j)
  have h1204 := KE.nw (KE.new (KE.new (KE.new (KE.new (KE.new (KE.new (KE.new (KE.new (KE.new (KE.new (KE.new (KE.new (KE.new (KE.new (KE.new (KE.new (KE.new (KE.new (KE.new (KE.new (KE.new (KE.new (KE.new (KE.new (KE.new (KE.new (KE.new (KE.new (KE.new (KE.new (KE.new (KE.new (KE.new (KE.new (KE.new (KE.new (KE.new (KE.new (KE.new (KE.new (KE.new (KE.new (KE.new (KE.new KE.rf hq10 hK11) hq25 hK26) hq40 hK41) hq55 hK56) hq70 hK71) hq85 hK86) hq100 hK101) hq115 hK116) hq130 hK131) hq145 hK146) hq160 hK161) hq175 hK176) hq190 hK191) hq207 hK208) hq227 hK228) hq250 hK251) hq276 hK277) hq305 hK306) hq335 hK336) hq365 hK366) hq395 hK396) hq425 hK426) hq457 hK458) hq490 hK491) hq523 hK524) hq556 hK557) hq589 hK590) hq622 hK623) hq655 hK656) hq688 hK689) hq721 hK722) hq754 hK755) hq787 hK788) hq820 hK821) hq853 hK854) hq886 hK887) hq919 hK920) hq952 hK953) hq985 hK986) hq1018 hK1019) hq1051 hK1052) hq1084 hK1085) hq1117 hK1118) hq1150 hK1151) h1157 hq1183
  clear pf1174 kz1160 hz1175 kz1162 hz1176 kz1164 hz1177 kz1166 hz1178 kz1168 hz1179 kz1170 hz1180
  refine GO.putRF rfl rfl (by decide +kernel) h1190 fp_raw_fp_RX12_151 rfl rfl dX12_init_393 (fun V1206 e1205 => ?_)
  have pf1207 := PF.put pf1191 e1205 rfl
  have hz1208 : ∀ j, V1206 o188 j = .int 0 := fun j => (uq_ne e1205 (Or.inl (K_ne kz1193 h1190 (by decide)))).trans (hz1192 j)
  have hz1209 : ∀ j, V1206 o205 j = .int 0 := fun j => (uq_ne e1205 (Or.inl (K_ne kz1195 h1190 (by decide)))).trans (hz1194 j)
  have hz1210 : ∀ j, V1206 o225 j = .int 0 := fun j => (uq_ne e1205 (Or.inl (K_ne kz1197 h1190 (by decide)))).trans (hz1196 j)
  have hz1211 : ∀ j, V1206 o248 j = .int 0 := fun j => (uq_ne e1205 (Or.inl (K_ne kz1199 h1190 (by decide)))).trans (hz1198 j)
  have hz1212 : ∀ j, V1206 o274 j = .int 0 := fun j => (uq_ne e1205 (Or.inl (K_ne kz1201 h1190 (by decide)))).trans (hz1200 j)
  have hz1213 : ∀ j, V1206 o423 j = .int 0 := fun j => (uq_ne e1205 (Or.inl (K_ne kz1203 h1190 (by decide)))).trans (hz1202 j)
  clear pf1191 hz1192 hz1194 hz1196 hz1198 hz1200 hz1202
  refine GO.aload_n dX12_init_396 rfl rfl ?_
  refine GO.bipush dX12_init_397 rfl ?_
  refine GO.newT (atype := .int) 54 20 gw_89 rfl rfl (fun _ _ h => h) rfl rfl rfl (Or.inr rfl) (fun _ => okv_df rfl rfl rfl) rfl rfl dX12_init_399 (fun o1214 K1215 V1221 hq1216 hK1217 hE1218 h1219 hz1222 hV1220 => ?_)
  have h1223 := (by rw [hK1217, updK_ne (K_old h1190 hq1216)]; exact h1190 : K1215 x = some (0, 23))
  have pf1224 := PF.nw pf1207 hV1220 (K_old h1190 hq1216)
  have kz1226 := hE1218.arr kz1193
  have hz1225 : ∀ j, V1221 o188 j = .int 0 := fun j => (congrFun (hV1220 _ (K_old kz1193 hq1216)) j).trans (hz1208 j)
  have kz1228 := hE1218.arr kz1195
  have hz1227 : ∀ j, V1221 o205 j = .int 0 := fun j => (congrFun (hV1220 _ (K_old kz1195 hq1216)) j).trans (hz1209 j)
  have kz1230 := hE1218.arr kz1197
  have hz1229 : ∀ j, V1221 o225 j = .int 0 := fun j => (congrFun (hV1220 _ (K_old kz1197 hq1216)) j).trans (hz1210 j)
  have kz1232 := hE1218.arr kz1199
  have hz1231 : ∀ j, V1221 o248 j = .int 0 := fun j => (congrFun (hV1220 _ (K_old kz1199 hq1216)) j).trans (hz1211 j)
  have kz1234 := hE1218.arr kz1201
  have hz1233 : ∀ j, V1221 o274 j = .int 0 := fun j => (congrFun (hV1220 _ (K_old kz1201 hq1216)) j).trans (hz1212 j)
  have kz1236 := hE1218.arr kz1203
  have hz1235 : ∀ j, V1221 o423 j = .int 0 := fun j => (congrFun (hV1220 _ (K_old kz1203 hq1216)) j).trans (hz1213 j)
  have h1237 := KE.nw (KE.new (KE.new (KE.new (KE.new (KE.new (KE.new (KE.new (KE.new (KE.new (KE.new (KE.new (KE.new (KE.new (KE.new (KE.new (KE.new (KE.new (KE.new (KE.new (KE.new (KE.new (KE.new (KE.new (KE.new (KE.new (KE.new (KE.new (KE.new (KE.new (KE.new (KE.new (KE.new (KE.new (KE.new (KE.new (KE.new (KE.new (KE.new (KE.new (KE.new (KE.new (KE.new (KE.new (KE.new (KE.new KE.rf hq10 hK11) hq25 hK26) hq40 hK41) hq55 hK56) hq70 hK71) hq85 hK86) hq100 hK101) hq115 hK116) hq130 hK131) hq145 hK146) hq160 hK161) hq175 hK176) hq190 hK191) hq207 hK208) hq227 hK228) hq250 hK251) hq276 hK277) hq305 hK306) hq335 hK336) hq365 hK366) hq395 hK396) hq425 hK426) hq457 hK458) hq490 hK491) hq523 hK524) hq556 hK557) hq589 hK590) hq622 hK623) hq655 hK656) hq688 hK689) hq721 hK722) hq754 hK755) hq787 hK788) hq820 hK821) hq853 hK854) hq886 hK887) hq919 hK920) hq952 hK953) hq985 hK986) hq1018 hK1019) hq1051 hK1052) hq1084 hK1085) hq1117 hK1118) hq1150 hK1151) hq1183 hK1184) h1190 hq1216
  clear pf1207 kz1193 hz1208 kz1195 hz1209 kz1197 hz1210 kz1199 hz1211 kz1201 hz1212 kz1203 hz1213
  refine GO.putRF rfl rfl (by decide +kernel) h1223 fp_raw_fp_RX12_154 rfl rfl dX12_init_401 (fun V1239 e1238 => ?_)
  have pf1240 := PF.put pf1224 e1238 rfl
  have hz1241 : ∀ j, V1239 o188 j = .int 0 := fun j => (uq_ne e1238 (Or.inl (K_ne kz1226 h1223 (by decide)))).trans (hz1225 j)
  have hz1242 : ∀ j, V1239 o205 j = .int 0 := fun j => (uq_ne e1238 (Or.inl (K_ne kz1228 h1223 (by decide)))).trans (hz1227 j)
  have hz1243 : ∀ j, V1239 o225 j = .int 0 := fun j => (uq_ne e1238 (Or.inl (K_ne kz1230 h1223 (by decide)))).trans (hz1229 j)
  have hz1244 : ∀ j, V1239 o248 j = .int 0 := fun j => (uq_ne e1238 (Or.inl (K_ne kz1232 h1223 (by decide)))).trans (hz1231 j)
  have hz1245 : ∀ j, V1239 o274 j = .int 0 := fun j => (uq_ne e1238 (Or.inl (K_ne kz1234 h1223 (by decide)))).trans (hz1233 j)
  have hz1246 : ∀ j, V1239 o423 j = .int 0 := fun j => (uq_ne e1238 (Or.inl (K_ne kz1236 h1223 (by decide)))).trans (hz1235 j)
  clear pf1224 hz1225 hz1227 hz1229 hz1231 hz1233 hz1235
  refine GO.aload_n dX12_init_404 rfl rfl ?_
  refine GO.bipush dX12_init_405 rfl ?_
  refine GO.newT (atype := .boolean) 55 20 gw_1936 rfl rfl (fun _ _ h => h) rfl rfl rfl (Or.inr rfl) (fun _ => okv_df rfl rfl rfl) rfl rfl dX12_init_407 (fun o1247 K1248 V1254 hq1249 hK1250 hE1251 h1252 hz1255 hV1253 => ?_)
  have h1256 := (by rw [hK1250, updK_ne (K_old h1223 hq1249)]; exact h1223 : K1248 x = some (0, 23))
  have pf1257 := PF.nw pf1240 hV1253 (K_old h1223 hq1249)
  have kz1259 := hE1251.arr kz1226
  have hz1258 : ∀ j, V1254 o188 j = .int 0 := fun j => (congrFun (hV1253 _ (K_old kz1226 hq1249)) j).trans (hz1241 j)
  have kz1261 := hE1251.arr kz1228
  have hz1260 : ∀ j, V1254 o205 j = .int 0 := fun j => (congrFun (hV1253 _ (K_old kz1228 hq1249)) j).trans (hz1242 j)
  have kz1263 := hE1251.arr kz1230
  have hz1262 : ∀ j, V1254 o225 j = .int 0 := fun j => (congrFun (hV1253 _ (K_old kz1230 hq1249)) j).trans (hz1243 j)
  have kz1265 := hE1251.arr kz1232
  have hz1264 : ∀ j, V1254 o248 j = .int 0 := fun j => (congrFun (hV1253 _ (K_old kz1232 hq1249)) j).trans (hz1244 j)
  have kz1267 := hE1251.arr kz1234
  have hz1266 : ∀ j, V1254 o274 j = .int 0 := fun j => (congrFun (hV1253 _ (K_old kz1234 hq1249)) j).trans (hz1245 j)
  have kz1269 := hE1251.arr kz1236
  have hz1268 : ∀ j, V1254 o423 j = .int 0 := fun j => (congrFun (hV1253 _ (K_old kz1236 hq1249)) j).trans (hz1246 j)
  have h1270 := KE.nw (KE.new (KE.new (KE.new (KE.new (KE.new (KE.new (KE.new (KE.new (KE.new (KE.new (KE.new (KE.new (KE.new (KE.new (KE.new (KE.new (KE.new (KE.new (KE.new (KE.new (KE.new (KE.new (KE.new (KE.new (KE.new (KE.new (KE.new (KE.new (KE.new (KE.new (KE.new (KE.new (KE.new (KE.new (KE.new (KE.new (KE.new (KE.new (KE.new (KE.new (KE.new (KE.new (KE.new (KE.new (KE.new (KE.new KE.rf hq10 hK11) hq25 hK26) hq40 hK41) hq55 hK56) hq70 hK71) hq85 hK86) hq100 hK101) hq115 hK116) hq130 hK131) hq145 hK146) hq160 hK161) hq175 hK176) hq190 hK191) hq207 hK208) hq227 hK228) hq250 hK251) hq276 hK277) hq305 hK306) hq335 hK336) hq365 hK366) hq395 hK396) hq425 hK426) hq457 hK458) hq490 hK491) hq523 hK524) hq556 hK557) hq589 hK590) hq622 hK623) hq655 hK656) hq688 hK689) hq721 hK722) hq754 hK755) hq787 hK788) hq820 hK821) hq853 hK854) hq886 hK887) hq919 hK920) hq952 hK953) hq985 hK986) hq1018 hK1019) hq1051 hK1052) hq1084 hK1085) hq1117 hK1118) hq1150 hK1151) hq1183 hK1184) hq1216 hK1217) h1223 hq1249
  clear pf1240 kz1226 hz1241 kz1228 hz1242 kz1230 hz1243 kz1232 hz1244 kz1234 hz1245 kz1236 hz1246
  refine GO.putRF rfl rfl (by decide +kernel) h1256 fp_raw_fp_RX12_157 rfl rfl dX12_init_409 (fun V1272 e1271 => ?_)
  have pf1273 := PF.put pf1257 e1271 rfl
  have hz1274 : ∀ j, V1272 o188 j = .int 0 := fun j => (uq_ne e1271 (Or.inl (K_ne kz1259 h1256 (by decide)))).trans (hz1258 j)
  have hz1275 : ∀ j, V1272 o205 j = .int 0 := fun j => (uq_ne e1271 (Or.inl (K_ne kz1261 h1256 (by decide)))).trans (hz1260 j)
  have hz1276 : ∀ j, V1272 o225 j = .int 0 := fun j => (uq_ne e1271 (Or.inl (K_ne kz1263 h1256 (by decide)))).trans (hz1262 j)
  have hz1277 : ∀ j, V1272 o248 j = .int 0 := fun j => (uq_ne e1271 (Or.inl (K_ne kz1265 h1256 (by decide)))).trans (hz1264 j)
  have hz1278 : ∀ j, V1272 o274 j = .int 0 := fun j => (uq_ne e1271 (Or.inl (K_ne kz1267 h1256 (by decide)))).trans (hz1266 j)
  have hz1279 : ∀ j, V1272 o423 j = .int 0 := fun j => (uq_ne e1271 (Or.inl (K_ne kz1269 h1256 (by decide)))).trans (hz1268 j)
  clear pf1257 hz1258 hz1260 hz1262 hz1264 hz1266 hz1268
  refine GO.aload_n dX12_init_412 rfl rfl ?_
  refine GO.sipush dX12_init_413 rfl ?_
  refine GO.newT (atype := .boolean) 56 240 gw_1936 rfl rfl (fun _ _ h => h) rfl rfl rfl (Or.inr rfl) (fun _ => okv_df rfl rfl rfl) rfl rfl dX12_init_416 (fun o1280 K1281 V1287 hq1282 hK1283 hE1284 h1285 hz1288 hV1286 => ?_)
  have h1289 := (by rw [hK1283, updK_ne (K_old h1256 hq1282)]; exact h1256 : K1281 x = some (0, 23))
  have pf1290 := PF.nw pf1273 hV1286 (K_old h1256 hq1282)
  have kz1292 := hE1284.arr kz1259
  have hz1291 : ∀ j, V1287 o188 j = .int 0 := fun j => (congrFun (hV1286 _ (K_old kz1259 hq1282)) j).trans (hz1274 j)
  have kz1294 := hE1284.arr kz1261
  have hz1293 : ∀ j, V1287 o205 j = .int 0 := fun j => (congrFun (hV1286 _ (K_old kz1261 hq1282)) j).trans (hz1275 j)
  have kz1296 := hE1284.arr kz1263
  have hz1295 : ∀ j, V1287 o225 j = .int 0 := fun j => (congrFun (hV1286 _ (K_old kz1263 hq1282)) j).trans (hz1276 j)
  have kz1298 := hE1284.arr kz1265
  have hz1297 : ∀ j, V1287 o248 j = .int 0 := fun j => (congrFun (hV1286 _ (K_old kz1265 hq1282)) j).trans (hz1277 j)
  have kz1300 := hE1284.arr kz1267
  have hz1299 : ∀ j, V1287 o274 j = .int 0 := fun j => (congrFun (hV1286 _ (K_old kz1267 hq1282)) j).trans (hz1278 j)
  have kz1302 := hE1284.arr kz1269
  have hz1301 : ∀ j, V1287 o423 j = .int 0 := fun j => (congrFun (hV1286 _ (K_old kz1269 hq1282)) j).trans (hz1279 j)
  have h1303 := KE.nw (KE.new (KE.new (KE.new (KE.new (KE.new (KE.new (KE.new (KE.new (KE.new (KE.new (KE.new (KE.new (KE.new (KE.new (KE.new (KE.new (KE.new (KE.new (KE.new (KE.new (KE.new (KE.new (KE.new (KE.new (KE.new (KE.new (KE.new (KE.new (KE.new (KE.new (KE.new (KE.new (KE.new (KE.new (KE.new (KE.new (KE.new (KE.new (KE.new (KE.new (KE.new (KE.new (KE.new (KE.new (KE.new (KE.new (KE.new KE.rf hq10 hK11) hq25 hK26) hq40 hK41) hq55 hK56) hq70 hK71) hq85 hK86) hq100 hK101) hq115 hK116) hq130 hK131) hq145 hK146) hq160 hK161) hq175 hK176) hq190 hK191) hq207 hK208) hq227 hK228) hq250 hK251) hq276 hK277) hq305 hK306) hq335 hK336) hq365 hK366) hq395 hK396) hq425 hK426) hq457 hK458) hq490 hK491) hq523 hK524) hq556 hK557) hq589 hK590) hq622 hK623) hq655 hK656) hq688 hK689) hq721 hK722) hq754 hK755) hq787 hK788) hq820 hK821) hq853 hK854) hq886 hK887) hq919 hK920) hq952 hK953) hq985 hK986) hq1018 hK1019) hq1051 hK1052) hq1084 hK1085) hq1117 hK1118) hq1150 hK1151) hq1183 hK1184) hq1216 hK1217) hq1249 hK1250) h1256 hq1282
  clear pf1273 kz1259 hz1274 kz1261 hz1275 kz1263 hz1276 kz1265 hz1277 kz1267 hz1278 kz1269 hz1279
  refine GO.putRF rfl rfl (by decide +kernel) h1289 fp_raw_fp_RX12_160 rfl rfl dX12_init_418 (fun V1305 e1304 => ?_)
  have pf1306 := PF.put pf1290 e1304 rfl
  have hz1307 : ∀ j, V1305 o188 j = .int 0 := fun j => (uq_ne e1304 (Or.inl (K_ne kz1292 h1289 (by decide)))).trans (hz1291 j)
  have hz1308 : ∀ j, V1305 o205 j = .int 0 := fun j => (uq_ne e1304 (Or.inl (K_ne kz1294 h1289 (by decide)))).trans (hz1293 j)
  have hz1309 : ∀ j, V1305 o225 j = .int 0 := fun j => (uq_ne e1304 (Or.inl (K_ne kz1296 h1289 (by decide)))).trans (hz1295 j)
  have hz1310 : ∀ j, V1305 o248 j = .int 0 := fun j => (uq_ne e1304 (Or.inl (K_ne kz1298 h1289 (by decide)))).trans (hz1297 j)
  have hz1311 : ∀ j, V1305 o274 j = .int 0 := fun j => (uq_ne e1304 (Or.inl (K_ne kz1300 h1289 (by decide)))).trans (hz1299 j)
  have hz1312 : ∀ j, V1305 o423 j = .int 0 := fun j => (uq_ne e1304 (Or.inl (K_ne kz1302 h1289 (by decide)))).trans (hz1301 j)
  clear pf1290 hz1291 hz1293 hz1295 hz1297 hz1299 hz1301
  refine GO.aload_n dX12_init_421 rfl rfl ?_
  refine GO.bipush dX12_init_422 rfl ?_
  refine GO.newT (atype := .int) 57 100 gw_89 rfl rfl (fun _ _ h => h) rfl rfl rfl (Or.inr rfl) (fun _ => okv_df rfl rfl rfl) rfl rfl dX12_init_424 (fun o1313 K1314 V1320 hq1315 hK1316 hE1317 h1318 hz1321 hV1319 => ?_)
  have h1322 := (by rw [hK1316, updK_ne (K_old h1289 hq1315)]; exact h1289 : K1314 x = some (0, 23))
  have pf1323 := PF.nw pf1306 hV1319 (K_old h1289 hq1315)
  have kz1325 := hE1317.arr kz1292
  have hz1324 : ∀ j, V1320 o188 j = .int 0 := fun j => (congrFun (hV1319 _ (K_old kz1292 hq1315)) j).trans (hz1307 j)
  have kz1327 := hE1317.arr kz1294
  have hz1326 : ∀ j, V1320 o205 j = .int 0 := fun j => (congrFun (hV1319 _ (K_old kz1294 hq1315)) j).trans (hz1308 j)
  have kz1329 := hE1317.arr kz1296
  have hz1328 : ∀ j, V1320 o225 j = .int 0 := fun j => (congrFun (hV1319 _ (K_old kz1296 hq1315)) j).trans (hz1309 j)
  have kz1331 := hE1317.arr kz1298
  have hz1330 : ∀ j, V1320 o248 j = .int 0 := fun j => (congrFun (hV1319 _ (K_old kz1298 hq1315)) j).trans (hz1310 j)
  have kz1333 := hE1317.arr kz1300
  have hz1332 : ∀ j, V1320 o274 j = .int 0 := fun j => (congrFun (hV1319 _ (K_old kz1300 hq1315)) j).trans (hz1311 j)
  have kz1335 := hE1317.arr kz1302
  have hz1334 : ∀ j, V1320 o423 j = .int 0 := fun j => (congrFun (hV1319 _ (K_old kz1302 hq1315)) j).trans (hz1312 j)
  have h1336 := KE.nw (KE.new (KE.new (KE.new (KE.new (KE.new (KE.new (KE.new (KE.new (KE.new (KE.new (KE.new (KE.new (KE.new (KE.new (KE.new (KE.new (KE.new (KE.new (KE.new (KE.new (KE.new (KE.new (KE.new (KE.new (KE.new (KE.new (KE.new (KE.new (KE.new (KE.new (KE.new (KE.new (KE.new (KE.new (KE.new (KE.new (KE.new (KE.new (KE.new (KE.new (KE.new (KE.new (KE.new (KE.new (KE.new (KE.new (KE.new (KE.new KE.rf hq10 hK11) hq25 hK26) hq40 hK41) hq55 hK56) hq70 hK71) hq85 hK86) hq100 hK101) hq115 hK116) hq130 hK131) hq145 hK146) hq160 hK161) hq175 hK176) hq190 hK191) hq207 hK208) hq227 hK228) hq250 hK251) hq276 hK277) hq305 hK306) hq335 hK336) hq365 hK366) hq395 hK396) hq425 hK426) hq457 hK458) hq490 hK491) hq523 hK524) hq556 hK557) hq589 hK590) hq622 hK623) hq655 hK656) hq688 hK689) hq721 hK722) hq754 hK755) hq787 hK788) hq820 hK821) hq853 hK854) hq886 hK887) hq919 hK920) hq952 hK953) hq985 hK986) hq1018 hK1019) hq1051 hK1052) hq1084 hK1085) hq1117 hK1118) hq1150 hK1151) hq1183 hK1184) hq1216 hK1217) hq1249 hK1250) hq1282 hK1283) h1289 hq1315
  clear pf1306 kz1292 hz1307 kz1294 hz1308 kz1296 hz1309 kz1298 hz1310 kz1300 hz1311 kz1302 hz1312
  refine GO.putRF rfl rfl (by decide +kernel) h1322 fp_raw_fp_RX12_163 rfl rfl dX12_init_426 (fun V1338 e1337 => ?_)
  have pf1339 := PF.put pf1323 e1337 rfl
  have hz1340 : ∀ j, V1338 o188 j = .int 0 := fun j => (uq_ne e1337 (Or.inl (K_ne kz1325 h1322 (by decide)))).trans (hz1324 j)
  have hz1341 : ∀ j, V1338 o205 j = .int 0 := fun j => (uq_ne e1337 (Or.inl (K_ne kz1327 h1322 (by decide)))).trans (hz1326 j)
  have hz1342 : ∀ j, V1338 o225 j = .int 0 := fun j => (uq_ne e1337 (Or.inl (K_ne kz1329 h1322 (by decide)))).trans (hz1328 j)
  have hz1343 : ∀ j, V1338 o248 j = .int 0 := fun j => (uq_ne e1337 (Or.inl (K_ne kz1331 h1322 (by decide)))).trans (hz1330 j)
  have hz1344 : ∀ j, V1338 o274 j = .int 0 := fun j => (uq_ne e1337 (Or.inl (K_ne kz1333 h1322 (by decide)))).trans (hz1332 j)
  have hz1345 : ∀ j, V1338 o423 j = .int 0 := fun j => (uq_ne e1337 (Or.inl (K_ne kz1335 h1322 (by decide)))).trans (hz1334 j)
  clear pf1323 hz1324 hz1326 hz1328 hz1330 hz1332 hz1334
  refine GO.aload_n dX12_init_429 rfl rfl ?_
  refine GO.bipush dX12_init_430 rfl ?_
  refine GO.newT (atype := .int) 58 100 gw_89 rfl rfl (fun _ _ h => h) rfl rfl rfl (Or.inr rfl) (fun _ => okv_df rfl rfl rfl) rfl rfl dX12_init_432 (fun o1346 K1347 V1353 hq1348 hK1349 hE1350 h1351 hz1354 hV1352 => ?_)
  have h1355 := (by rw [hK1349, updK_ne (K_old h1322 hq1348)]; exact h1322 : K1347 x = some (0, 23))
  have pf1356 := PF.nw pf1339 hV1352 (K_old h1322 hq1348)
  have kz1358 := hE1350.arr kz1325
  have hz1357 : ∀ j, V1353 o188 j = .int 0 := fun j => (congrFun (hV1352 _ (K_old kz1325 hq1348)) j).trans (hz1340 j)
  have kz1360 := hE1350.arr kz1327
  have hz1359 : ∀ j, V1353 o205 j = .int 0 := fun j => (congrFun (hV1352 _ (K_old kz1327 hq1348)) j).trans (hz1341 j)
  have kz1362 := hE1350.arr kz1329
  have hz1361 : ∀ j, V1353 o225 j = .int 0 := fun j => (congrFun (hV1352 _ (K_old kz1329 hq1348)) j).trans (hz1342 j)
  have kz1364 := hE1350.arr kz1331
  have hz1363 : ∀ j, V1353 o248 j = .int 0 := fun j => (congrFun (hV1352 _ (K_old kz1331 hq1348)) j).trans (hz1343 j)
  have kz1366 := hE1350.arr kz1333
  have hz1365 : ∀ j, V1353 o274 j = .int 0 := fun j => (congrFun (hV1352 _ (K_old kz1333 hq1348)) j).trans (hz1344 j)
  have kz1368 := hE1350.arr kz1335
  have hz1367 : ∀ j, V1353 o423 j = .int 0 := fun j => (congrFun (hV1352 _ (K_old kz1335 hq1348)) j).trans (hz1345 j)
  have h1369 := KE.nw (KE.new (KE.new (KE.new (KE.new (KE.new (KE.new (KE.new (KE.new (KE.new (KE.new (KE.new (KE.new (KE.new (KE.new (KE.new (KE.new (KE.new (KE.new (KE.new (KE.new (KE.new (KE.new (KE.new (KE.new (KE.new (KE.new (KE.new (KE.new (KE.new (KE.new (KE.new (KE.new (KE.new (KE.new (KE.new (KE.new (KE.new (KE.new (KE.new (KE.new (KE.new (KE.new (KE.new (KE.new (KE.new (KE.new (KE.new (KE.new (KE.new KE.rf hq10 hK11) hq25 hK26) hq40 hK41) hq55 hK56) hq70 hK71) hq85 hK86) hq100 hK101) hq115 hK116) hq130 hK131) hq145 hK146) hq160 hK161) hq175 hK176) hq190 hK191) hq207 hK208) hq227 hK228) hq250 hK251) hq276 hK277) hq305 hK306) hq335 hK336) hq365 hK366) hq395 hK396) hq425 hK426) hq457 hK458) hq490 hK491) hq523 hK524) hq556 hK557) hq589 hK590) hq622 hK623) hq655 hK656) hq688 hK689) hq721 hK722) hq754 hK755) hq787 hK788) hq820 hK821) hq853 hK854) hq886 hK887) hq919 hK920) hq952 hK953) hq985 hK986) hq1018 hK1019) hq1051 hK1052) hq1084 hK1085) hq1117 hK1118) hq1150 hK1151) hq1183 hK1184) hq1216 hK1217) hq1249 hK1250) hq1282 hK1283) hq1315 hK1316) h1322 hq1348
  clear pf1339 kz1325 hz1340 kz1327 hz1341 kz1329 hz1342 kz1331 hz1343 kz1333 hz1344 kz1335 hz1345
  refine GO.putRF rfl rfl (by decide +kernel) h1355 fp_raw_fp_RX12_166 rfl rfl dX12_init_434 (fun V1371 e1370 => ?_)
  have pf1372 := PF.put pf1356 e1370 rfl
  have hz1373 : ∀ j, V1371 o188 j = .int 0 := fun j => (uq_ne e1370 (Or.inl (K_ne kz1358 h1355 (by decide)))).trans (hz1357 j)
  have hz1374 : ∀ j, V1371 o205 j = .int 0 := fun j => (uq_ne e1370 (Or.inl (K_ne kz1360 h1355 (by decide)))).trans (hz1359 j)
  have hz1375 : ∀ j, V1371 o225 j = .int 0 := fun j => (uq_ne e1370 (Or.inl (K_ne kz1362 h1355 (by decide)))).trans (hz1361 j)
  have hz1376 : ∀ j, V1371 o248 j = .int 0 := fun j => (uq_ne e1370 (Or.inl (K_ne kz1364 h1355 (by decide)))).trans (hz1363 j)
  have hz1377 : ∀ j, V1371 o274 j = .int 0 := fun j => (uq_ne e1370 (Or.inl (K_ne kz1366 h1355 (by decide)))).trans (hz1365 j)
  have hz1378 : ∀ j, V1371 o423 j = .int 0 := fun j => (uq_ne e1370 (Or.inl (K_ne kz1368 h1355 (by decide)))).trans (hz1367 j)
  clear pf1356 hz1357 hz1359 hz1361 hz1363 hz1365 hz1367
  refine GO.aload_n dX12_init_437 rfl rfl ?_
  refine GO.bipush dX12_init_438 rfl ?_
  refine GO.newT (atype := .int) 59 100 gw_89 rfl rfl (fun _ _ h => h) rfl rfl rfl (Or.inr rfl) (fun _ => okv_df rfl rfl rfl) rfl rfl dX12_init_440 (fun o1379 K1380 V1386 hq1381 hK1382 hE1383 h1384 hz1387 hV1385 => ?_)
  have h1388 := (by rw [hK1382, updK_ne (K_old h1355 hq1381)]; exact h1355 : K1380 x = some (0, 23))
  have pf1389 := PF.nw pf1372 hV1385 (K_old h1355 hq1381)
  have kz1391 := hE1383.arr kz1358
  have hz1390 : ∀ j, V1386 o188 j = .int 0 := fun j => (congrFun (hV1385 _ (K_old kz1358 hq1381)) j).trans (hz1373 j)
  have kz1393 := hE1383.arr kz1360
  have hz1392 : ∀ j, V1386 o205 j = .int 0 := fun j => (congrFun (hV1385 _ (K_old kz1360 hq1381)) j).trans (hz1374 j)
  have kz1395 := hE1383.arr kz1362
  have hz1394 : ∀ j, V1386 o225 j = .int 0 := fun j => (congrFun (hV1385 _ (K_old kz1362 hq1381)) j).trans (hz1375 j)
  have kz1397 := hE1383.arr kz1364
  have hz1396 : ∀ j, V1386 o248 j = .int 0 := fun j => (congrFun (hV1385 _ (K_old kz1364 hq1381)) j).trans (hz1376 j)
  have kz1399 := hE1383.arr kz1366
  have hz1398 : ∀ j, V1386 o274 j = .int 0 := fun j => (congrFun (hV1385 _ (K_old kz1366 hq1381)) j).trans (hz1377 j)
  have kz1401 := hE1383.arr kz1368
  have hz1400 : ∀ j, V1386 o423 j = .int 0 := fun j => (congrFun (hV1385 _ (K_old kz1368 hq1381)) j).trans (hz1378 j)
  have h1402 := KE.nw (KE.new (KE.new (KE.new (KE.new (KE.new (KE.new (KE.new (KE.new (KE.new (KE.new (KE.new (KE.new (KE.new (KE.new (KE.new (KE.new (KE.new (KE.new (KE.new (KE.new (KE.new (KE.new (KE.new (KE.new (KE.new (KE.new (KE.new (KE.new (KE.new (KE.new (KE.new (KE.new (KE.new (KE.new (KE.new (KE.new (KE.new (KE.new (KE.new (KE.new (KE.new (KE.new (KE.new (KE.new (KE.new (KE.new (KE.new (KE.new (KE.new (KE.new KE.rf hq10 hK11) hq25 hK26) hq40 hK41) hq55 hK56) hq70 hK71) hq85 hK86) hq100 hK101) hq115 hK116) hq130 hK131) hq145 hK146) hq160 hK161) hq175 hK176) hq190 hK191) hq207 hK208) hq227 hK228) hq250 hK251) hq276 hK277) hq305 hK306) hq335 hK336) hq365 hK366) hq395 hK396) hq425 hK426) hq457 hK458) hq490 hK491) hq523 hK524) hq556 hK557) hq589 hK590) hq622 hK623) hq655 hK656) hq688 hK689) hq721 hK722) hq754 hK755) hq787 hK788) hq820 hK821) hq853 hK854) hq886 hK887) hq919 hK920) hq952 hK953) hq985 hK986) hq1018 hK1019) hq1051 hK1052) hq1084 hK1085) hq1117 hK1118) hq1150 hK1151) hq1183 hK1184) hq1216 hK1217) hq1249 hK1250) hq1282 hK1283) hq1315 hK1316) hq1348 hK1349) h1355 hq1381
  clear pf1372 kz1358 hz1373 kz1360 hz1374 kz1362 hz1375 kz1364 hz1376 kz1366 hz1377 kz1368 hz1378
  refine GO.putRF rfl rfl (by decide +kernel) h1388 fp_raw_fp_RX12_169 rfl rfl dX12_init_442 (fun V1404 e1403 => ?_)
  have pf1405 := PF.put pf1389 e1403 rfl
  have hz1406 : ∀ j, V1404 o188 j = .int 0 := fun j => (uq_ne e1403 (Or.inl (K_ne kz1391 h1388 (by decide)))).trans (hz1390 j)
  have hz1407 : ∀ j, V1404 o205 j = .int 0 := fun j => (uq_ne e1403 (Or.inl (K_ne kz1393 h1388 (by decide)))).trans (hz1392 j)
  have hz1408 : ∀ j, V1404 o225 j = .int 0 := fun j => (uq_ne e1403 (Or.inl (K_ne kz1395 h1388 (by decide)))).trans (hz1394 j)
  have hz1409 : ∀ j, V1404 o248 j = .int 0 := fun j => (uq_ne e1403 (Or.inl (K_ne kz1397 h1388 (by decide)))).trans (hz1396 j)
  have hz1410 : ∀ j, V1404 o274 j = .int 0 := fun j => (uq_ne e1403 (Or.inl (K_ne kz1399 h1388 (by decide)))).trans (hz1398 j)
  have hz1411 : ∀ j, V1404 o423 j = .int 0 := fun j => (uq_ne e1403 (Or.inl (K_ne kz1401 h1388 (by decide)))).trans (hz1400 j)
  clear pf1389 hz1390 hz1392 hz1394 hz1396 hz1398 hz1400
  refine GO.aload_n dX12_init_445 rfl rfl ?_
  refine GO.bipush dX12_init_446 rfl ?_
  refine GO.newT (atype := .int) 60 100 gw_89 rfl rfl (fun _ _ h => h) rfl rfl rfl (Or.inr rfl) (fun _ => okv_df rfl rfl rfl) rfl rfl dX12_init_448 (fun o1412 K1413 V1419 hq1414 hK1415 hE1416 h1417 hz1420 hV1418 => ?_)
  have h1421 := (by rw [hK1415, updK_ne (K_old h1388 hq1414)]; exact h1388 : K1413 x = some (0, 23))
  have pf1422 := PF.nw pf1405 hV1418 (K_old h1388 hq1414)
  have kz1424 := hE1416.arr kz1391
  have hz1423 : ∀ j, V1419 o188 j = .int 0 := fun j => (congrFun (hV1418 _ (K_old kz1391 hq1414)) j).trans (hz1406 j)
  have kz1426 := hE1416.arr kz1393
  have hz1425 : ∀ j, V1419 o205 j = .int 0 := fun j => (congrFun (hV1418 _ (K_old kz1393 hq1414)) j).trans (hz1407 j)
  have kz1428 := hE1416.arr kz1395
  have hz1427 : ∀ j, V1419 o225 j = .int 0 := fun j => (congrFun (hV1418 _ (K_old kz1395 hq1414)) j).trans (hz1408 j)
  have kz1430 := hE1416.arr kz1397
  have hz1429 : ∀ j, V1419 o248 j = .int 0 := fun j => (congrFun (hV1418 _ (K_old kz1397 hq1414)) j).trans (hz1409 j)
  have kz1432 := hE1416.arr kz1399
  have hz1431 : ∀ j, V1419 o274 j = .int 0 := fun j => (congrFun (hV1418 _ (K_old kz1399 hq1414)) j).trans (hz1410 j)
  have kz1434 := hE1416.arr kz1401
  have hz1433 : ∀ j, V1419 o423 j = .int 0 := fun j => (congrFun (hV1418 _ (K_old kz1401 hq1414)) j).trans (hz1411 j)
  have h1435 := KE.nw (KE.new (KE.new (KE.new (KE.new (KE.new (KE.new (KE.new (KE.new (KE.new (KE.new (KE.new (KE.new (KE.new (KE.new (KE.new (KE.new (KE.new (KE.new (KE.new (KE.new (KE.new (KE.new (KE.new (KE.new (KE.new (KE.new (KE.new (KE.new (KE.new (KE.new (KE.new (KE.new (KE.new (KE.new (KE.new (KE.new (KE.new (KE.new (KE.new (KE.new (KE.new (KE.new (KE.new (KE.new (KE.new (KE.new (KE.new (KE.new (KE.new (KE.new (KE.new KE.rf hq10 hK11) hq25 hK26) hq40 hK41) hq55 hK56) hq70 hK71) hq85 hK86) hq100 hK101) hq115 hK116) hq130 hK131) hq145 hK146) hq160 hK161) hq175 hK176) hq190 hK191) hq207 hK208) hq227 hK228) hq250 hK251) hq276 hK277) hq305 hK306) hq335 hK336) hq365 hK366) hq395 hK396) hq425 hK426) hq457 hK458) hq490 hK491) hq523 hK524) hq556 hK557) hq589 hK590) hq622 hK623) hq655 hK656) hq688 hK689) hq721 hK722) hq754 hK755) hq787 hK788) hq820 hK821) hq853 hK854) hq886 hK887) hq919 hK920) hq952 hK953) hq985 hK986) hq1018 hK1019) hq1051 hK1052) hq1084 hK1085) hq1117 hK1118) hq1150 hK1151) hq1183 hK1184) hq1216 hK1217) hq1249 hK1250) hq1282 hK1283) hq1315 hK1316) hq1348 hK1349) hq1381 hK1382) h1388 hq1414
  clear pf1405 kz1391 hz1406 kz1393 hz1407 kz1395 hz1408 kz1397 hz1409 kz1399 hz1410 kz1401 hz1411
  refine GO.putRF rfl rfl (by decide +kernel) h1421 fp_raw_fp_RX12_172 rfl rfl dX12_init_450 (fun V1437 e1436 => ?_)
  have pf1438 := PF.put pf1422 e1436 rfl
  have hz1439 : ∀ j, V1437 o188 j = .int 0 := fun j => (uq_ne e1436 (Or.inl (K_ne kz1424 h1421 (by decide)))).trans (hz1423 j)
  have hz1440 : ∀ j, V1437 o205 j = .int 0 := fun j => (uq_ne e1436 (Or.inl (K_ne kz1426 h1421 (by decide)))).trans (hz1425 j)
  have hz1441 : ∀ j, V1437 o225 j = .int 0 := fun j => (uq_ne e1436 (Or.inl (K_ne kz1428 h1421 (by decide)))).trans (hz1427 j)
  have hz1442 : ∀ j, V1437 o248 j = .int 0 := fun j => (uq_ne e1436 (Or.inl (K_ne kz1430 h1421 (by decide)))).trans (hz1429 j)
  have hz1443 : ∀ j, V1437 o274 j = .int 0 := fun j => (uq_ne e1436 (Or.inl (K_ne kz1432 h1421 (by decide)))).trans (hz1431 j)
  have hz1444 : ∀ j, V1437 o423 j = .int 0 := fun j => (uq_ne e1436 (Or.inl (K_ne kz1434 h1421 (by decide)))).trans (hz1433 j)
  clear pf1422 hz1423 hz1425 hz1427 hz1429 hz1431 hz1433
  refine GO.aload_n dX12_init_453 rfl rfl ?_
  refine GO.bipush dX12_init_454 rfl ?_
  refine GO.newT (atype := .int) 61 100 gw_89 rfl rfl (fun _ _ h => h) rfl rfl rfl (Or.inr rfl) (fun _ => okv_df rfl rfl rfl) rfl rfl dX12_init_456 (fun o1445 K1446 V1452 hq1447 hK1448 hE1449 h1450 hz1453 hV1451 => ?_)
  have h1454 := (by rw [hK1448, updK_ne (K_old h1421 hq1447)]; exact h1421 : K1446 x = some (0, 23))
  have pf1455 := PF.nw pf1438 hV1451 (K_old h1421 hq1447)
  have kz1457 := hE1449.arr kz1424
  have hz1456 : ∀ j, V1452 o188 j = .int 0 := fun j => (congrFun (hV1451 _ (K_old kz1424 hq1447)) j).trans (hz1439 j)
  have kz1459 := hE1449.arr kz1426
  have hz1458 : ∀ j, V1452 o205 j = .int 0 := fun j => (congrFun (hV1451 _ (K_old kz1426 hq1447)) j).trans (hz1440 j)
  have kz1461 := hE1449.arr kz1428
  have hz1460 : ∀ j, V1452 o225 j = .int 0 := fun j => (congrFun (hV1451 _ (K_old kz1428 hq1447)) j).trans (hz1441 j)
  have kz1463 := hE1449.arr kz1430
  have hz1462 : ∀ j, V1452 o248 j = .int 0 := fun j => (congrFun (hV1451 _ (K_old kz1430 hq1447)) j).trans (hz1442 j)
  have kz1465 := hE1449.arr kz1432
  have hz1464 : ∀ j, V1452 o274 j = .int 0 := fun j => (congrFun (hV1451 _ (K_old kz1432 hq1447)) j).trans (hz1443 j)
  have kz1467 := hE1449.arr kz1434
  have hz1466 : ∀ j, V1452 o423 j = .int 0 := fun j => (congrFun (hV1451 _ (K_old kz1434 hq1447)) j).trans (hz1444 j)
  have h1468 := KE.nw (KE.new (KE.new (KE.new (KE.new (KE.new (KE.new (KE.new (KE.new (KE.new (KE.new (KE.new (KE.new (KE.new (KE.new (KE.new (KE.new (KE.new (KE.new (KE.new (KE.new (KE.new (KE.new (KE.new (KE.new (KE.new (KE.new (KE.new (KE.new (KE.new (KE.new (KE.new (KE.new (KE.new (KE.new (KE.new (KE.new (KE.new (KE.new (KE.new (KE.new (KE.new (KE.new (KE.new (KE.new (KE.new (KE.new (KE.new (KE.new (KE.new (KE.new (KE.new (KE.new KE.rf hq10 hK11) hq25 hK26) hq40 hK41) hq55 hK56) hq70 hK71) hq85 hK86) hq100 hK101) hq115 hK116) hq130 hK131) hq145 hK146) hq160 hK161) hq175 hK176) hq190 hK191) hq207 hK208) hq227 hK228) hq250 hK251) hq276 hK277) hq305 hK306) hq335 hK336) hq365 hK366) hq395 hK396) hq425 hK426) hq457 hK458) hq490 hK491) hq523 hK524) hq556 hK557) hq589 hK590) hq622 hK623) hq655 hK656) hq688 hK689) hq721 hK722) hq754 hK755) hq787 hK788) hq820 hK821) hq853 hK854) hq886 hK887) hq919 hK920) hq952 hK953) hq985 hK986) hq1018 hK1019) hq1051 hK1052) hq1084 hK1085) hq1117 hK1118) hq1150 hK1151) hq1183 hK1184) hq1216 hK1217) hq1249 hK1250) hq1282 hK1283) hq1315 hK1316) hq1348 hK1349) hq1381 hK1382) hq1414 hK1415) h1421 hq1447
  clear pf1438 kz1424 hz1439 kz1426 hz1440 kz1428 hz1441 kz1430 hz1442 kz1432 hz1443 kz1434 hz1444
  refine GO.putRF rfl rfl (by decide +kernel) h1454 fp_raw_fp_RX12_175 rfl rfl dX12_init_458 (fun V1470 e1469 => ?_)
  have pf1471 := PF.put pf1455 e1469 rfl
  have hz1472 : ∀ j, V1470 o188 j = .int 0 := fun j => (uq_ne e1469 (Or.inl (K_ne kz1457 h1454 (by decide)))).trans (hz1456 j)
  have hz1473 : ∀ j, V1470 o205 j = .int 0 := fun j => (uq_ne e1469 (Or.inl (K_ne kz1459 h1454 (by decide)))).trans (hz1458 j)
  have hz1474 : ∀ j, V1470 o225 j = .int 0 := fun j => (uq_ne e1469 (Or.inl (K_ne kz1461 h1454 (by decide)))).trans (hz1460 j)
  have hz1475 : ∀ j, V1470 o248 j = .int 0 := fun j => (uq_ne e1469 (Or.inl (K_ne kz1463 h1454 (by decide)))).trans (hz1462 j)
  have hz1476 : ∀ j, V1470 o274 j = .int 0 := fun j => (uq_ne e1469 (Or.inl (K_ne kz1465 h1454 (by decide)))).trans (hz1464 j)
  have hz1477 : ∀ j, V1470 o423 j = .int 0 := fun j => (uq_ne e1469 (Or.inl (K_ne kz1467 h1454 (by decide)))).trans (hz1466 j)
  clear pf1455 hz1456 hz1458 hz1460 hz1462 hz1464 hz1466
  refine GO.aload_n dX12_init_461 rfl rfl ?_
  refine GO.bipush dX12_init_462 rfl ?_
  refine GO.newT (atype := .int) 62 100 gw_89 rfl rfl (fun _ _ h => h) rfl rfl rfl (Or.inr rfl) (fun _ => okv_df rfl rfl rfl) rfl rfl dX12_init_464 (fun o1478 K1479 V1485 hq1480 hK1481 hE1482 h1483 hz1486 hV1484 => ?_)
  have h1487 := (by rw [hK1481, updK_ne (K_old h1454 hq1480)]; exact h1454 : K1479 x = some (0, 23))
  have pf1488 := PF.nw pf1471 hV1484 (K_old h1454 hq1480)
  have kz1490 := hE1482.arr kz1457
  have hz1489 : ∀ j, V1485 o188 j = .int 0 := fun j => (congrFun (hV1484 _ (K_old kz1457 hq1480)) j).trans (hz1472 j)
  have kz1492 := hE1482.arr kz1459
  have hz1491 : ∀ j, V1485 o205 j = .int 0 := fun j => (congrFun (hV1484 _ (K_old kz1459 hq1480)) j).trans (hz1473 j)
  have kz1494 := hE1482.arr kz1461
  have hz1493 : ∀ j, V1485 o225 j = .int 0 := fun j => (congrFun (hV1484 _ (K_old kz1461 hq1480)) j).trans (hz1474 j)
  have kz1496 := hE1482.arr kz1463
  have hz1495 : ∀ j, V1485 o248 j = .int 0 := fun j => (congrFun (hV1484 _ (K_old kz1463 hq1480)) j).trans (hz1475 j)
  have kz1498 := hE1482.arr kz1465
  have hz1497 : ∀ j, V1485 o274 j = .int 0 := fun j => (congrFun (hV1484 _ (K_old kz1465 hq1480)) j).trans (hz1476 j)
  have kz1500 := hE1482.arr kz1467
  have hz1499 : ∀ j, V1485 o423 j = .int 0 := fun j => (congrFun (hV1484 _ (K_old kz1467 hq1480)) j).trans (hz1477 j)
  have h1501 := KE.nw (KE.new (KE.new (KE.new (KE.new (KE.new (KE.new (KE.new (KE.new (KE.new (KE.new (KE.new (KE.new (KE.new (KE.new (KE.new (KE.new (KE.new (KE.new (KE.new (KE.new (KE.new (KE.new (KE.new (KE.new (KE.new (KE.new (KE.new (KE.new (KE.new (KE.new (KE.new (KE.new (KE.new (KE.new (KE.new (KE.new (KE.new (KE.new (KE.new (KE.new (KE.new (KE.new (KE.new (KE.new (KE.new (KE.new (KE.new (KE.new (KE.new (KE.new (KE.new (KE.new (KE.new KE.rf hq10 hK11) hq25 hK26) hq40 hK41) hq55 hK56) hq70 hK71) hq85 hK86) hq100 hK101) hq115 hK116) hq130 hK131) hq145 hK146) hq160 hK161) hq175 hK176) hq190 hK191) hq207 hK208) hq227 hK228) hq250 hK251) hq276 hK277) hq305 hK306) hq335 hK336) hq365 hK366) hq395 hK396) hq425 hK426) hq457 hK458) hq490 hK491) hq523 hK524) hq556 hK557) hq589 hK590) hq622 hK623) hq655 hK656) hq688 hK689) hq721 hK722) hq754 hK755) hq787 hK788) hq820 hK821) hq853 hK854) hq886 hK887) hq919 hK920) hq952 hK953) hq985 hK986) hq1018 hK1019) hq1051 hK1052) hq1084 hK1085) hq1117 hK1118) hq1150 hK1151) hq1183 hK1184) hq1216 hK1217) hq1249 hK1250) hq1282 hK1283) hq1315 hK1316) hq1348 hK1349) hq1381 hK1382) hq1414 hK1415) hq1447 hK1448) h1454 hq1480
  clear pf1471 kz1457 hz1472 kz1459 hz1473 kz1461 hz1474 kz1463 hz1475 kz1465 hz1476 kz1467 hz1477
  refine GO.putRF rfl rfl (by decide +kernel) h1487 fp_raw_fp_RX12_178 rfl rfl dX12_init_466 (fun V1503 e1502 => ?_)
  have pf1504 := PF.put pf1488 e1502 rfl
  have hz1505 : ∀ j, V1503 o188 j = .int 0 := fun j => (uq_ne e1502 (Or.inl (K_ne kz1490 h1487 (by decide)))).trans (hz1489 j)
  have hz1506 : ∀ j, V1503 o205 j = .int 0 := fun j => (uq_ne e1502 (Or.inl (K_ne kz1492 h1487 (by decide)))).trans (hz1491 j)
  have hz1507 : ∀ j, V1503 o225 j = .int 0 := fun j => (uq_ne e1502 (Or.inl (K_ne kz1494 h1487 (by decide)))).trans (hz1493 j)
  have hz1508 : ∀ j, V1503 o248 j = .int 0 := fun j => (uq_ne e1502 (Or.inl (K_ne kz1496 h1487 (by decide)))).trans (hz1495 j)
  have hz1509 : ∀ j, V1503 o274 j = .int 0 := fun j => (uq_ne e1502 (Or.inl (K_ne kz1498 h1487 (by decide)))).trans (hz1497 j)
  have hz1510 : ∀ j, V1503 o423 j = .int 0 := fun j => (uq_ne e1502 (Or.inl (K_ne kz1500 h1487 (by decide)))).trans (hz1499 j)
  clear pf1488 hz1489 hz1491 hz1493 hz1495 hz1497 hz1499
  refine GO.aload_n dX12_init_469 rfl rfl ?_
  refine GO.bipush dX12_init_470 rfl ?_
  refine GO.newT (atype := .int) 63 100 gw_89 rfl rfl (fun _ _ h => h) rfl rfl rfl (Or.inr rfl) (fun _ => okv_df rfl rfl rfl) rfl rfl dX12_init_472 (fun o1511 K1512 V1518 hq1513 hK1514 hE1515 h1516 hz1519 hV1517 => ?_)
  have h1520 := (by rw [hK1514, updK_ne (K_old h1487 hq1513)]; exact h1487 : K1512 x = some (0, 23))
  have pf1521 := PF.nw pf1504 hV1517 (K_old h1487 hq1513)
  have kz1523 := hE1515.arr kz1490
  have hz1522 : ∀ j, V1518 o188 j = .int 0 := fun j => (congrFun (hV1517 _ (K_old kz1490 hq1513)) j).trans (hz1505 j)
  have kz1525 := hE1515.arr kz1492
  have hz1524 : ∀ j, V1518 o205 j = .int 0 := fun j => (congrFun (hV1517 _ (K_old kz1492 hq1513)) j).trans (hz1506 j)
  have kz1527 := hE1515.arr kz1494
  have hz1526 : ∀ j, V1518 o225 j = .int 0 := fun j => (congrFun (hV1517 _ (K_old kz1494 hq1513)) j).trans (hz1507 j)
  have kz1529 := hE1515.arr kz1496
  have hz1528 : ∀ j, V1518 o248 j = .int 0 := fun j => (congrFun (hV1517 _ (K_old kz1496 hq1513)) j).trans (hz1508 j)
  have kz1531 := hE1515.arr kz1498
  have hz1530 : ∀ j, V1518 o274 j = .int 0 := fun j => (congrFun (hV1517 _ (K_old kz1498 hq1513)) j).trans (hz1509 j)
  have kz1533 := hE1515.arr kz1500
  have hz1532 : ∀ j, V1518 o423 j = .int 0 := fun j => (congrFun (hV1517 _ (K_old kz1500 hq1513)) j).trans (hz1510 j)
  have h1534 := KE.nw (KE.new (KE.new (KE.new (KE.new (KE.new (KE.new (KE.new (KE.new (KE.new (KE.new (KE.new (KE.new (KE.new (KE.new (KE.new (KE.new (KE.new (KE.new (KE.new (KE.new (KE.new (KE.new (KE.new (KE.new (KE.new (KE.new (KE.new (KE.new (KE.new (KE.new (KE.new (KE.new (KE.new (KE.new (KE.new (KE.new (KE.new (KE.new (KE.new (KE.new (KE.new (KE.new (KE.new (KE.new (KE.new (KE.new (KE.new (KE.new (KE.new (KE.new (KE.new (KE.new (KE.new (KE.new KE.rf hq10 hK11) hq25 hK26) hq40 hK41) hq55 hK56) hq70 hK71) hq85 hK86) hq100 hK101) hq115 hK116) hq130 hK131) hq145 hK146) hq160 hK161) hq175 hK176) hq190 hK191) hq207 hK208) hq227 hK228) hq250 hK251) hq276 hK277) hq305 hK306) hq335 hK336) hq365 hK366) hq395 hK396) hq425 hK426) hq457 hK458) hq490 hK491) hq523 hK524) hq556 hK557) hq589 hK590) hq622 hK623) hq655 hK656) hq688 hK689) hq721 hK722) hq754 hK755) hq787 hK788) hq820 hK821) hq853 hK854) hq886 hK887) hq919 hK920) hq952 hK953) hq985 hK986) hq1018 hK1019) hq1051 hK1052) hq1084 hK1085) hq1117 hK1118) hq1150 hK1151) hq1183 hK1184) hq1216 hK1217) hq1249 hK1250) hq1282 hK1283) hq1315 hK1316) hq1348 hK1349) hq1381 hK1382) hq1414 hK1415) hq1447 hK1448) hq1480 hK1481) h1487 hq1513
  clear pf1504 kz1490 hz1505 kz1492 hz1506 kz1494 hz1507 kz1496 hz1508 kz1498 hz1509 kz1500 hz1510
  refine GO.putRF rfl rfl (by decide +kernel) h1520 fp_raw_fp_RX12_181 rfl rfl dX12_init_474 (fun V1536 e1535 => ?_)
  have pf1537 := PF.put pf1521 e1535 rfl
  have hz1538 : ∀ j, V1536 o188 j = .int 0 := fun j => (uq_ne e1535 (Or.inl (K_ne kz1523 h1520 (by decide)))).trans (hz1522 j)
  have hz1539 : ∀ j, V1536 o205 j = .int 0 := fun j => (uq_ne e1535 (Or.inl (K_ne kz1525 h1520 (by decide)))).trans (hz1524 j)
  have hz1540 : ∀ j, V1536 o225 j = .int 0 := fun j => (uq_ne e1535 (Or.inl (K_ne kz1527 h1520 (by decide)))).trans (hz1526 j)
  have hz1541 : ∀ j, V1536 o248 j = .int 0 := fun j => (uq_ne e1535 (Or.inl (K_ne kz1529 h1520 (by decide)))).trans (hz1528 j)
  have hz1542 : ∀ j, V1536 o274 j = .int 0 := fun j => (uq_ne e1535 (Or.inl (K_ne kz1531 h1520 (by decide)))).trans (hz1530 j)
  have hz1543 : ∀ j, V1536 o423 j = .int 0 := fun j => (uq_ne e1535 (Or.inl (K_ne kz1533 h1520 (by decide)))).trans (hz1532 j)
  clear pf1521 hz1522 hz1524 hz1526 hz1528 hz1530 hz1532
  refine GO.aload_n dX12_init_477 rfl rfl ?_
  refine GO.bipush dX12_init_478 rfl ?_
  refine GO.newT (atype := .int) 64 100 gw_89 rfl rfl (fun _ _ h => h) rfl rfl rfl (Or.inr rfl) (fun _ => okv_df rfl rfl rfl) rfl rfl dX12_init_480 (fun o1544 K1545 V1551 hq1546 hK1547 hE1548 h1549 hz1552 hV1550 => ?_)
  have h1553 := (by rw [hK1547, updK_ne (K_old h1520 hq1546)]; exact h1520 : K1545 x = some (0, 23))
  have pf1554 := PF.nw pf1537 hV1550 (K_old h1520 hq1546)
  have kz1556 := hE1548.arr kz1523
  have hz1555 : ∀ j, V1551 o188 j = .int 0 := fun j => (congrFun (hV1550 _ (K_old kz1523 hq1546)) j).trans (hz1538 j)
  have kz1558 := hE1548.arr kz1525
  have hz1557 : ∀ j, V1551 o205 j = .int 0 := fun j => (congrFun (hV1550 _ (K_old kz1525 hq1546)) j).trans (hz1539 j)
  have kz1560 := hE1548.arr kz1527
  have hz1559 : ∀ j, V1551 o225 j = .int 0 := fun j => (congrFun (hV1550 _ (K_old kz1527 hq1546)) j).trans (hz1540 j)
  have kz1562 := hE1548.arr kz1529
  have hz1561 : ∀ j, V1551 o248 j = .int 0 := fun j => (congrFun (hV1550 _ (K_old kz1529 hq1546)) j).trans (hz1541 j)
  have kz1564 := hE1548.arr kz1531
  have hz1563 : ∀ j, V1551 o274 j = .int 0 := fun j => (congrFun (hV1550 _ (K_old kz1531 hq1546)) j).trans (hz1542 j)
  have kz1566 := hE1548.arr kz1533
  have hz1565 : ∀ j, V1551 o423 j = .int 0 := fun j => (congrFun (hV1550 _ (K_old kz1533 hq1546)) j).trans (hz1543 j)
  have h1567 := KE.nw (KE.new (KE.new (KE.new (KE.new (KE.new (KE.new (KE.new (KE.new (KE.new (KE.new (KE.new (KE.new (KE.new (KE.new (KE.new (KE.new (KE.new (KE.new (KE.new (KE.new (KE.new (KE.new (KE.new (KE.new (KE.new (KE.new (KE.new (KE.new (KE.new (KE.new (KE.new (KE.new (KE.new (KE.new (KE.new (KE.new (KE.new (KE.new (KE.new (KE.new (KE.new (KE.new (KE.new (KE.new (KE.new (KE.new (KE.new (KE.new (KE.new (KE.new (KE.new (KE.new (KE.new (KE.new (KE.new KE.rf hq10 hK11) hq25 hK26) hq40 hK41) hq55 hK56) hq70 hK71) hq85 hK86) hq100 hK101) hq115 hK116) hq130 hK131) hq145 hK146) hq160 hK161) hq175 hK176) hq190 hK191) hq207 hK208) hq227 hK228) hq250 hK251) hq276 hK277) hq305 hK306) hq335 hK336) hq365 hK366) hq395 hK396) hq425 hK426) hq457 hK458) hq490 hK491) hq523 hK524) hq556 hK557) hq589 hK590) hq622 hK623) hq655 hK656) hq688 hK689) hq721 hK722) hq754 hK755) hq787 hK788) hq820 hK821) hq853 hK854) hq886 hK887) hq919 hK920) hq952 hK953) hq985 hK986) hq1018 hK1019) hq1051 hK1052) hq1084 hK1085) hq1117 hK1118) hq1150 hK1151) hq1183 hK1184) hq1216 hK1217) hq1249 hK1250) hq1282 hK1283) hq1315 hK1316) hq1348 hK1349) hq1381 hK1382) hq1414 hK1415) hq1447 hK1448) hq1480 hK1481) hq1513 hK1514) h1520 hq1546
  clear pf1537 kz1523 hz1538 kz1525 hz1539 kz1527 hz1540 kz1529 hz1541 kz1531 hz1542 kz1533 hz1543
  refine GO.putRF rfl rfl (by decide +kernel) h1553 fp_raw_fp_RX12_184 rfl rfl dX12_init_482 (fun V1569 e1568 => ?_)
  have pf1570 := PF.put pf1554 e1568 rfl
  have hz1571 : ∀ j, V1569 o188 j = .int 0 := fun j => (uq_ne e1568 (Or.inl (K_ne kz1556 h1553 (by decide)))).trans (hz1555 j)
  have hz1572 : ∀ j, V1569 o205 j = .int 0 := fun j => (uq_ne e1568 (Or.inl (K_ne kz1558 h1553 (by decide)))).trans (hz1557 j)
  have hz1573 : ∀ j, V1569 o225 j = .int 0 := fun j => (uq_ne e1568 (Or.inl (K_ne kz1560 h1553 (by decide)))).trans (hz1559 j)
  have hz1574 : ∀ j, V1569 o248 j = .int 0 := fun j => (uq_ne e1568 (Or.inl (K_ne kz1562 h1553 (by decide)))).trans (hz1561 j)
  have hz1575 : ∀ j, V1569 o274 j = .int 0 := fun j => (uq_ne e1568 (Or.inl (K_ne kz1564 h1553 (by decide)))).trans (hz1563 j)
  have hz1576 : ∀ j, V1569 o423 j = .int 0 := fun j => (uq_ne e1568 (Or.inl (K_ne kz1566 h1553 (by decide)))).trans (hz1565 j)
  clear pf1554 hz1555 hz1557 hz1559 hz1561 hz1563 hz1565
  refine GO.aload_n dX12_init_485 rfl rfl ?_
  refine GO.bipush dX12_init_486 rfl ?_
  refine GO.newT (atype := .int) 65 100 gw_89 rfl rfl (fun _ _ h => h) rfl rfl rfl (Or.inr rfl) (fun _ => okv_df rfl rfl rfl) rfl rfl dX12_init_488 (fun o1577 K1578 V1584 hq1579 hK1580 hE1581 h1582 hz1585 hV1583 => ?_)
  have h1586 := (by rw [hK1580, updK_ne (K_old h1553 hq1579)]; exact h1553 : K1578 x = some (0, 23))
  have pf1587 := PF.nw pf1570 hV1583 (K_old h1553 hq1579)
  have kz1589 := hE1581.arr kz1556
  have hz1588 : ∀ j, V1584 o188 j = .int 0 := fun j => (congrFun (hV1583 _ (K_old kz1556 hq1579)) j).trans (hz1571 j)
  have kz1591 := hE1581.arr kz1558
  have hz1590 : ∀ j, V1584 o205 j = .int 0 := fun j => (congrFun (hV1583 _ (K_old kz1558 hq1579)) j).trans (hz1572 j)
  have kz1593 := hE1581.arr kz1560
  have hz1592 : ∀ j, V1584 o225 j = .int 0 := fun j => (congrFun (hV1583 _ (K_old kz1560 hq1579)) j).trans (hz1573 j)
  have kz1595 := hE1581.arr kz1562
  have hz1594 : ∀ j, V1584 o248 j = .int 0 := fun j => (congrFun (hV1583 _ (K_old kz1562 hq1579)) j).trans (hz1574 j)
  have kz1597 := hE1581.arr kz1564
  have hz1596 : ∀ j, V1584 o274 j = .int 0 := fun j => (congrFun (hV1583 _ (K_old kz1564 hq1579)) j).trans (hz1575 j)
  have kz1599 := hE1581.arr kz1566
  have hz1598 : ∀ j, V1584 o423 j = .int 0 := fun j => (congrFun (hV1583 _ (K_old kz1566 hq1579)) j).trans (hz1576 j)
  have h1600 := KE.nw (KE.new (KE.new (KE.new (KE.new (KE.new (KE.new (KE.new (KE.new (KE.new (KE.new (KE.new (KE.new (KE.new (KE.new (KE.new (KE.new (KE.new (KE.new (KE.new (KE.new (KE.new (KE.new (KE.new (KE.new (KE.new (KE.new (KE.new (KE.new (KE.new (KE.new (KE.new (KE.new (KE.new (KE.new (KE.new (KE.new (KE.new (KE.new (KE.new (KE.new (KE.new (KE.new (KE.new (KE.new (KE.new (KE.new (KE.new (KE.new (KE.new (KE.new (KE.new (KE.new (KE.new (KE.new (KE.new (KE.new KE.rf hq10 hK11) hq25 hK26) hq40 hK41) hq55 hK56) hq70 hK71) hq85 hK86) hq100 hK101) hq115 hK116) hq130 hK131) hq145 hK146) hq160 hK161) hq175 hK176) hq190 hK191) hq207 hK208) hq227 hK228) hq250 hK251) hq276 hK277) hq305 hK306) hq335 hK336) hq365 hK366) hq395 hK396) hq425 hK426) hq457 hK458) hq490 hK491) hq523 hK524) hq556 hK557) hq589 hK590) hq622 hK623) hq655 hK656) hq688 hK689) hq721 hK722) hq754 hK755) hq787 hK788) hq820 hK821) hq853 hK854) hq886 hK887) hq919 hK920) hq952 hK953) hq985 hK986) hq1018 hK1019) hq1051 hK1052) hq1084 hK1085) hq1117 hK1118) hq1150 hK1151) hq1183 hK1184) hq1216 hK1217) hq1249 hK1250) hq1282 hK1283) hq1315 hK1316) hq1348 hK1349) hq1381 hK1382) hq1414 hK1415) hq1447 hK1448) hq1480 hK1481) hq1513 hK1514) hq1546 hK1547) h1553 hq1579
  clear pf1570 kz1556 hz1571 kz1558 hz1572 kz1560 hz1573 kz1562 hz1574 kz1564 hz1575 kz1566 hz1576
  refine GO.putRF rfl rfl (by decide +kernel) h1586 fp_raw_fp_RX12_187 rfl rfl dX12_init_490 (fun V1602 e1601 => ?_)
  have pf1603 := PF.put pf1587 e1601 rfl
  have hz1604 : ∀ j, V1602 o188 j = .int 0 := fun j => (uq_ne e1601 (Or.inl (K_ne kz1589 h1586 (by decide)))).trans (hz1588 j)
  have hz1605 : ∀ j, V1602 o205 j = .int 0 := fun j => (uq_ne e1601 (Or.inl (K_ne kz1591 h1586 (by decide)))).trans (hz1590 j)
  have hz1606 : ∀ j, V1602 o225 j = .int 0 := fun j => (uq_ne e1601 (Or.inl (K_ne kz1593 h1586 (by decide)))).trans (hz1592 j)
  have hz1607 : ∀ j, V1602 o248 j = .int 0 := fun j => (uq_ne e1601 (Or.inl (K_ne kz1595 h1586 (by decide)))).trans (hz1594 j)
  have hz1608 : ∀ j, V1602 o274 j = .int 0 := fun j => (uq_ne e1601 (Or.inl (K_ne kz1597 h1586 (by decide)))).trans (hz1596 j)
  have hz1609 : ∀ j, V1602 o423 j = .int 0 := fun j => (uq_ne e1601 (Or.inl (K_ne kz1599 h1586 (by decide)))).trans (hz1598 j)
  clear pf1587 hz1588 hz1590 hz1592 hz1594 hz1596 hz1598
  refine GO.aload_n dX12_init_493 rfl rfl ?_
  refine GO.bipush dX12_init_494 rfl ?_
  refine GO.newT (atype := .int) 66 100 gw_89 rfl rfl (fun _ _ h => h) rfl rfl rfl (Or.inr rfl) (fun _ => okv_df rfl rfl rfl) rfl rfl dX12_init_496 (fun o1610 K1611 V1617 hq1612 hK1613 hE1614 h1615 hz1618 hV1616 => ?_)
  have h1619 := (by rw [hK1613, updK_ne (K_old h1586 hq1612)]; exact h1586 : K1611 x = some (0, 23))
  have pf1620 := PF.nw pf1603 hV1616 (K_old h1586 hq1612)
  have kz1622 := hE1614.arr kz1589
  have hz1621 : ∀ j, V1617 o188 j = .int 0 := fun j => (congrFun (hV1616 _ (K_old kz1589 hq1612)) j).trans (hz1604 j)
  have kz1624 := hE1614.arr kz1591
  have hz1623 : ∀ j, V1617 o205 j = .int 0 := fun j => (congrFun (hV1616 _ (K_old kz1591 hq1612)) j).trans (hz1605 j)
  have kz1626 := hE1614.arr kz1593
  have hz1625 : ∀ j, V1617 o225 j = .int 0 := fun j => (congrFun (hV1616 _ (K_old kz1593 hq1612)) j).trans (hz1606 j)
  have kz1628 := hE1614.arr kz1595
  have hz1627 : ∀ j, V1617 o248 j = .int 0 := fun j => (congrFun (hV1616 _ (K_old kz1595 hq1612)) j).trans (hz1607 j)
  have kz1630 := hE1614.arr kz1597
  have hz1629 : ∀ j, V1617 o274 j = .int 0 := fun j => (congrFun (hV1616 _ (K_old kz1597 hq1612)) j).trans (hz1608 j)
  have kz1632 := hE1614.arr kz1599
  have hz1631 : ∀ j, V1617 o423 j = .int 0 := fun j => (congrFun (hV1616 _ (K_old kz1599 hq1612)) j).trans (hz1609 j)
  have h1633 := KE.nw (KE.new (KE.new (KE.new (KE.new (KE.new (KE.new (KE.new (KE.new (KE.new (KE.new (KE.new (KE.new (KE.new (KE.new (KE.new (KE.new (KE.new (KE.new (KE.new (KE.new (KE.new (KE.new (KE.new (KE.new (KE.new (KE.new (KE.new (KE.new (KE.new (KE.new (KE.new (KE.new (KE.new (KE.new (KE.new (KE.new (KE.new (KE.new (KE.new (KE.new (KE.new (KE.new (KE.new (KE.new (KE.new (KE.new (KE.new (KE.new (KE.new (KE.new (KE.new (KE.new (KE.new (KE.new (KE.new (KE.new (KE.new KE.rf hq10 hK11) hq25 hK26) hq40 hK41) hq55 hK56) hq70 hK71) hq85 hK86) hq100 hK101) hq115 hK116) hq130 hK131) hq145 hK146) hq160 hK161) hq175 hK176) hq190 hK191) hq207 hK208) hq227 hK228) hq250 hK251) hq276 hK277) hq305 hK306) hq335 hK336) hq365 hK366) hq395 hK396) hq425 hK426) hq457 hK458) hq490 hK491) hq523 hK524) hq556 hK557) hq589 hK590) hq622 hK623) hq655 hK656) hq688 hK689) hq721 hK722) hq754 hK755) hq787 hK788) hq820 hK821) hq853 hK854) hq886 hK887) hq919 hK920) hq952 hK953) hq985 hK986) hq1018 hK1019) hq1051 hK1052) hq1084 hK1085) hq1117 hK1118) hq1150 hK1151) hq1183 hK1184) hq1216 hK1217) hq1249 hK1250) hq1282 hK1283) hq1315 hK1316) hq1348 hK1349) hq1381 hK1382) hq1414 hK1415) hq1447 hK1448) hq1480 hK1481) hq1513 hK1514) hq1546 hK1547) hq1579 hK1580) h1586 hq1612
  clear pf1603 kz1589 hz1604 kz1591 hz1605 kz1593 hz1606 kz1595 hz1607 kz1597 hz1608 kz1599 hz1609
  refine GO.putRF rfl rfl (by decide +kernel) h1619 fp_raw_fp_RX12_190 rfl rfl dX12_init_498 (fun V1635 e1634 => ?_)
  have pf1636 := PF.put pf1620 e1634 rfl
  have hz1637 : ∀ j, V1635 o188 j = .int 0 := fun j => (uq_ne e1634 (Or.inl (K_ne kz1622 h1619 (by decide)))).trans (hz1621 j)
  have hz1638 : ∀ j, V1635 o205 j = .int 0 := fun j => (uq_ne e1634 (Or.inl (K_ne kz1624 h1619 (by decide)))).trans (hz1623 j)
  have hz1639 : ∀ j, V1635 o225 j = .int 0 := fun j => (uq_ne e1634 (Or.inl (K_ne kz1626 h1619 (by decide)))).trans (hz1625 j)
  have hz1640 : ∀ j, V1635 o248 j = .int 0 := fun j => (uq_ne e1634 (Or.inl (K_ne kz1628 h1619 (by decide)))).trans (hz1627 j)
  have hz1641 : ∀ j, V1635 o274 j = .int 0 := fun j => (uq_ne e1634 (Or.inl (K_ne kz1630 h1619 (by decide)))).trans (hz1629 j)
  have hz1642 : ∀ j, V1635 o423 j = .int 0 := fun j => (uq_ne e1634 (Or.inl (K_ne kz1632 h1619 (by decide)))).trans (hz1631 j)
  clear pf1620 hz1621 hz1623 hz1625 hz1627 hz1629 hz1631
  refine GO.aload_n dX12_init_501 rfl rfl ?_
  refine GO.bipush dX12_init_502 rfl ?_
  refine GO.newT (atype := .int) 67 100 gw_89 rfl rfl (fun _ _ h => h) rfl rfl rfl (Or.inr rfl) (fun _ => okv_df rfl rfl rfl) rfl rfl dX12_init_504 (fun o1643 K1644 V1650 hq1645 hK1646 hE1647 h1648 hz1651 hV1649 => ?_)
  have h1652 := (by rw [hK1646, updK_ne (K_old h1619 hq1645)]; exact h1619 : K1644 x = some (0, 23))
  have pf1653 := PF.nw pf1636 hV1649 (K_old h1619 hq1645)
  have kz1655 := hE1647.arr kz1622
  have hz1654 : ∀ j, V1650 o188 j = .int 0 := fun j => (congrFun (hV1649 _ (K_old kz1622 hq1645)) j).trans (hz1637 j)
  have kz1657 := hE1647.arr kz1624
  have hz1656 : ∀ j, V1650 o205 j = .int 0 := fun j => (congrFun (hV1649 _ (K_old kz1624 hq1645)) j).trans (hz1638 j)
  have kz1659 := hE1647.arr kz1626
  have hz1658 : ∀ j, V1650 o225 j = .int 0 := fun j => (congrFun (hV1649 _ (K_old kz1626 hq1645)) j).trans (hz1639 j)
  have kz1661 := hE1647.arr kz1628
  have hz1660 : ∀ j, V1650 o248 j = .int 0 := fun j => (congrFun (hV1649 _ (K_old kz1628 hq1645)) j).trans (hz1640 j)
  have kz1663 := hE1647.arr kz1630
  have hz1662 : ∀ j, V1650 o274 j = .int 0 := fun j => (congrFun (hV1649 _ (K_old kz1630 hq1645)) j).trans (hz1641 j)
  have kz1665 := hE1647.arr kz1632
  have hz1664 : ∀ j, V1650 o423 j = .int 0 := fun j => (congrFun (hV1649 _ (K_old kz1632 hq1645)) j).trans (hz1642 j)
  have h1666 := KE.nw (KE.new (KE.new (KE.new (KE.new (KE.new (KE.new (KE.new (KE.new (KE.new (KE.new (KE.new (KE.new (KE.new (KE.new (KE.new (KE.new (KE.new (KE.new (KE.new (KE.new (KE.new (KE.new (KE.new (KE.new (KE.new (KE.new (KE.new (KE.new (KE.new (KE.new (KE.new (KE.new (KE.new (KE.new (KE.new (KE.new (KE.new (KE.new (KE.new (KE.new (KE.new (KE.new (KE.new (KE.new (KE.new (KE.new (KE.new (KE.new (KE.new (KE.new (KE.new (KE.new (KE.new (KE.new (KE.new (KE.new (KE.new (KE.new KE.rf hq10 hK11) hq25 hK26) hq40 hK41) hq55 hK56) hq70 hK71) hq85 hK86) hq100 hK101) hq115 hK116) hq130 hK131) hq145 hK146) hq160 hK161) hq175 hK176) hq190 hK191) hq207 hK208) hq227 hK228) hq250 hK251) hq276 hK277) hq305 hK306) hq335 hK336) hq365 hK366) hq395 hK396) hq425 hK426) hq457 hK458) hq490 hK491) hq523 hK524) hq556 hK557) hq589 hK590) hq622 hK623) hq655 hK656) hq688 hK689) hq721 hK722) hq754 hK755) hq787 hK788) hq820 hK821) hq853 hK854) hq886 hK887) hq919 hK920) hq952 hK953) hq985 hK986) hq1018 hK1019) hq1051 hK1052) hq1084 hK1085) hq1117 hK1118) hq1150 hK1151) hq1183 hK1184) hq1216 hK1217) hq1249 hK1250) hq1282 hK1283) hq1315 hK1316) hq1348 hK1349) hq1381 hK1382) hq1414 hK1415) hq1447 hK1448) hq1480 hK1481) hq1513 hK1514) hq1546 hK1547) hq1579 hK1580) hq1612 hK1613) h1619 hq1645
  clear pf1636 kz1622 hz1637 kz1624 hz1638 kz1626 hz1639 kz1628 hz1640 kz1630 hz1641 kz1632 hz1642
  refine GO.putRF rfl rfl (by decide +kernel) h1652 fp_raw_fp_RX12_193 rfl rfl dX12_init_506 (fun V1668 e1667 => ?_)
  have pf1669 := PF.put pf1653 e1667 rfl
  have hz1670 : ∀ j, V1668 o188 j = .int 0 := fun j => (uq_ne e1667 (Or.inl (K_ne kz1655 h1652 (by decide)))).trans (hz1654 j)
  have hz1671 : ∀ j, V1668 o205 j = .int 0 := fun j => (uq_ne e1667 (Or.inl (K_ne kz1657 h1652 (by decide)))).trans (hz1656 j)
  have hz1672 : ∀ j, V1668 o225 j = .int 0 := fun j => (uq_ne e1667 (Or.inl (K_ne kz1659 h1652 (by decide)))).trans (hz1658 j)
  have hz1673 : ∀ j, V1668 o248 j = .int 0 := fun j => (uq_ne e1667 (Or.inl (K_ne kz1661 h1652 (by decide)))).trans (hz1660 j)
  have hz1674 : ∀ j, V1668 o274 j = .int 0 := fun j => (uq_ne e1667 (Or.inl (K_ne kz1663 h1652 (by decide)))).trans (hz1662 j)
  have hz1675 : ∀ j, V1668 o423 j = .int 0 := fun j => (uq_ne e1667 (Or.inl (K_ne kz1665 h1652 (by decide)))).trans (hz1664 j)
  clear pf1653 hz1654 hz1656 hz1658 hz1660 hz1662 hz1664
  refine GO.aload_n dX12_init_509 rfl rfl ?_
  refine GO.bipush dX12_init_510 rfl ?_
  refine GO.newT (atype := .int) 68 100 gw_89 rfl rfl (fun _ _ h => h) rfl rfl rfl (Or.inr rfl) (fun _ => okv_df rfl rfl rfl) rfl rfl dX12_init_512 (fun o1676 K1677 V1683 hq1678 hK1679 hE1680 h1681 hz1684 hV1682 => ?_)
  have h1685 := (by rw [hK1679, updK_ne (K_old h1652 hq1678)]; exact h1652 : K1677 x = some (0, 23))
  have pf1686 := PF.nw pf1669 hV1682 (K_old h1652 hq1678)
  have kz1688 := hE1680.arr kz1655
  have hz1687 : ∀ j, V1683 o188 j = .int 0 := fun j => (congrFun (hV1682 _ (K_old kz1655 hq1678)) j).trans (hz1670 j)
  have kz1690 := hE1680.arr kz1657
  have hz1689 : ∀ j, V1683 o205 j = .int 0 := fun j => (congrFun (hV1682 _ (K_old kz1657 hq1678)) j).trans (hz1671 j)
  have kz1692 := hE1680.arr kz1659
  have hz1691 : ∀ j, V1683 o225 j = .int 0 := fun j => (congrFun (hV1682 _ (K_old kz1659 hq1678)) j).trans (hz1672 j)
  have kz1694 := hE1680.arr kz1661
  have hz1693 : ∀ j, V1683 o248 j = .int 0 := fun j => (congrFun (hV1682 _ (K_old kz1661 hq1678)) j).trans (hz1673 j)
  have kz1696 := hE1680.arr kz1663
  have hz1695 : ∀ j, V1683 o274 j = .int 0 := fun j => (congrFun (hV1682 _ (K_old kz1663 hq1678)) j).trans (hz1674 j)
  have kz1698 := hE1680.arr kz1665
  have hz1697 : ∀ j, V1683 o423 j = .int 0 := fun j => (congrFun (hV1682 _ (K_old kz1665 hq1678)) j).trans (hz1675 j)
  have h1699 := KE.nw (KE.new (KE.new (KE.new (KE.new (KE.new (KE.new (KE.new (KE.new (KE.new (KE.new (KE.new (KE.new (KE.new (KE.new (KE.new (KE.new (KE.new (KE.new (KE.new (KE.new (KE.new (KE.new (KE.new (KE.new (KE.new (KE.new (KE.new (KE.new (KE.new (KE.new (KE.new (KE.new (KE.new (KE.new (KE.new (KE.new (KE.new (KE.new (KE.new (KE.new (KE.new (KE.new (KE.new (KE.new (KE.new (KE.new (KE.new (KE.new (KE.new (KE.new (KE.new (KE.new (KE.new (KE.new (KE.new (KE.new (KE.new (KE.new (KE.new KE.rf hq10 hK11) hq25 hK26) hq40 hK41) hq55 hK56) hq70 hK71) hq85 hK86) hq100 hK101) hq115 hK116) hq130 hK131) hq145 hK146) hq160 hK161) hq175 hK176) hq190 hK191) hq207 hK208) hq227 hK228) hq250 hK251) hq276 hK277) hq305 hK306) hq335 hK336) hq365 hK366) hq395 hK396) hq425 hK426) hq457 hK458) hq490 hK491) hq523 hK524) hq556 hK557) hq589 hK590) hq622 hK623) hq655 hK656) hq688 hK689) hq721 hK722) hq754 hK755) hq787 hK788) hq820 hK821) hq853 hK854) hq886 hK887) hq919 hK920) hq952 hK953) hq985 hK986) hq1018 hK1019) hq1051 hK1052) hq1084 hK1085) hq1117 hK1118) hq1150 hK1151) hq1183 hK1184) hq1216 hK1217) hq1249 hK1250) hq1282 hK1283) hq1315 hK1316) hq1348 hK1349) hq1381 hK1382) hq1414 hK1415) hq1447 hK1448) hq1480 hK1481) hq1513 hK1514) hq1546 hK1547) hq1579 hK1580) hq1612 hK1613) hq1645 hK1646) h1652 hq1678
  clear pf1669 kz1655 hz1670 kz1657 hz1671 kz1659 hz1672 kz1661 hz1673 kz1663 hz1674 kz1665 hz1675
  refine GO.putRF rfl rfl (by decide +kernel) h1685 fp_raw_fp_RX12_196 rfl rfl dX12_init_514 (fun V1701 e1700 => ?_)
  have pf1702 := PF.put pf1686 e1700 rfl
  have hz1703 : ∀ j, V1701 o188 j = .int 0 := fun j => (uq_ne e1700 (Or.inl (K_ne kz1688 h1685 (by decide)))).trans (hz1687 j)
  have hz1704 : ∀ j, V1701 o205 j = .int 0 := fun j => (uq_ne e1700 (Or.inl (K_ne kz1690 h1685 (by decide)))).trans (hz1689 j)
  have hz1705 : ∀ j, V1701 o225 j = .int 0 := fun j => (uq_ne e1700 (Or.inl (K_ne kz1692 h1685 (by decide)))).trans (hz1691 j)
  have hz1706 : ∀ j, V1701 o248 j = .int 0 := fun j => (uq_ne e1700 (Or.inl (K_ne kz1694 h1685 (by decide)))).trans (hz1693 j)
  have hz1707 : ∀ j, V1701 o274 j = .int 0 := fun j => (uq_ne e1700 (Or.inl (K_ne kz1696 h1685 (by decide)))).trans (hz1695 j)
  have hz1708 : ∀ j, V1701 o423 j = .int 0 := fun j => (uq_ne e1700 (Or.inl (K_ne kz1698 h1685 (by decide)))).trans (hz1697 j)
  clear pf1686 hz1687 hz1689 hz1691 hz1693 hz1695 hz1697
  refine GO.aload_n dX12_init_517 rfl rfl ?_
  refine GO.bipush dX12_init_518 rfl ?_
  refine GO.newT (atype := .int) 69 100 gw_89 rfl rfl (fun _ _ h => h) rfl rfl rfl (Or.inr rfl) (fun _ => okv_df rfl rfl rfl) rfl rfl dX12_init_520 (fun o1709 K1710 V1716 hq1711 hK1712 hE1713 h1714 hz1717 hV1715 => ?_)
  have h1718 := (by rw [hK1712, updK_ne (K_old h1685 hq1711)]; exact h1685 : K1710 x = some (0, 23))
  have pf1719 := PF.nw pf1702 hV1715 (K_old h1685 hq1711)
  have kz1721 := hE1713.arr kz1688
  have hz1720 : ∀ j, V1716 o188 j = .int 0 := fun j => (congrFun (hV1715 _ (K_old kz1688 hq1711)) j).trans (hz1703 j)
  have kz1723 := hE1713.arr kz1690
  have hz1722 : ∀ j, V1716 o205 j = .int 0 := fun j => (congrFun (hV1715 _ (K_old kz1690 hq1711)) j).trans (hz1704 j)
  have kz1725 := hE1713.arr kz1692
  have hz1724 : ∀ j, V1716 o225 j = .int 0 := fun j => (congrFun (hV1715 _ (K_old kz1692 hq1711)) j).trans (hz1705 j)
  have kz1727 := hE1713.arr kz1694
  have hz1726 : ∀ j, V1716 o248 j = .int 0 := fun j => (congrFun (hV1715 _ (K_old kz1694 hq1711)) j).trans (hz1706 j)
  have kz1729 := hE1713.arr kz1696
  have hz1728 : ∀ j, V1716 o274 j = .int 0 := fun j => (congrFun (hV1715 _ (K_old kz1696 hq1711)) j).trans (hz1707 j)
  have kz1731 := hE1713.arr kz1698
  have hz1730 : ∀ j, V1716 o423 j = .int 0 := fun j => (congrFun (hV1715 _ (K_old kz1698 hq1711)) j).trans (hz1708 j)
  have h1732 := KE.nw (KE.new (KE.new (KE.new (KE.new (KE.new (KE.new (KE.new (KE.new (KE.new (KE.new (KE.new (KE.new (KE.new (KE.new (KE.new (KE.new (KE.new (KE.new (KE.new (KE.new (KE.new (KE.new (KE.new (KE.new (KE.new (KE.new (KE.new (KE.new (KE.new (KE.new (KE.new (KE.new (KE.new (KE.new (KE.new (KE.new (KE.new (KE.new (KE.new (KE.new (KE.new (KE.new (KE.new (KE.new (KE.new (KE.new (KE.new (KE.new (KE.new (KE.new (KE.new (KE.new (KE.new (KE.new (KE.new (KE.new (KE.new (KE.new (KE.new (KE.new KE.rf hq10 hK11) hq25 hK26) hq40 hK41) hq55 hK56) hq70 hK71) hq85 hK86) hq100 hK101) hq115 hK116) hq130 hK131) hq145 hK146) hq160 hK161) hq175 hK176) hq190 hK191) hq207 hK208) hq227 hK228) hq250 hK251) hq276 hK277) hq305 hK306) hq335 hK336) hq365 hK366) hq395 hK396) hq425 hK426) hq457 hK458) hq490 hK491) hq523 hK524) hq556 hK557) hq589 hK590) hq622 hK623) hq655 hK656) hq688 hK689) hq721 hK722) hq754 hK755) hq787 hK788) hq820 hK821) hq853 hK854) hq886 hK887) hq919 hK920) hq952 hK953) hq985 hK986) hq1018 hK1019) hq1051 hK1052) hq1084 hK1085) hq1117 hK1118) hq1150 hK1151) hq1183 hK1184) hq1216 hK1217) hq1249 hK1250) hq1282 hK1283) hq1315 hK1316) hq1348 hK1349) hq1381 hK1382) hq1414 hK1415) hq1447 hK1448) hq1480 hK1481) hq1513 hK1514) hq1546 hK1547) hq1579 hK1580) hq1612 hK1613) hq1645 hK1646) hq1678 hK1679) h1685 hq1711
  clear pf1702 kz1688 hz1703 kz1690 hz1704 kz1692 hz1705 kz1694 hz1706 kz1696 hz1707 kz1698 hz1708
  refine GO.putRF rfl rfl (by decide +kernel) h1718 fp_raw_fp_RX12_199 rfl rfl dX12_init_522 (fun V1734 e1733 => ?_)
  have pf1735 := PF.put pf1719 e1733 rfl
  have hz1736 : ∀ j, V1734 o188 j = .int 0 := fun j => (uq_ne e1733 (Or.inl (K_ne kz1721 h1718 (by decide)))).trans (hz1720 j)
  have hz1737 : ∀ j, V1734 o205 j = .int 0 := fun j => (uq_ne e1733 (Or.inl (K_ne kz1723 h1718 (by decide)))).trans (hz1722 j)
  have hz1738 : ∀ j, V1734 o225 j = .int 0 := fun j => (uq_ne e1733 (Or.inl (K_ne kz1725 h1718 (by decide)))).trans (hz1724 j)
  have hz1739 : ∀ j, V1734 o248 j = .int 0 := fun j => (uq_ne e1733 (Or.inl (K_ne kz1727 h1718 (by decide)))).trans (hz1726 j)
  have hz1740 : ∀ j, V1734 o274 j = .int 0 := fun j => (uq_ne e1733 (Or.inl (K_ne kz1729 h1718 (by decide)))).trans (hz1728 j)
  have hz1741 : ∀ j, V1734 o423 j = .int 0 := fun j => (uq_ne e1733 (Or.inl (K_ne kz1731 h1718 (by decide)))).trans (hz1730 j)
  clear pf1719 hz1720 hz1722 hz1724 hz1726 hz1728 hz1730
  refine GO.aload_n dX12_init_525 rfl rfl ?_
  refine GO.sipush dX12_init_526 rfl ?_
  refine GO.newT (atype := .int) 70 900 gw_89 rfl rfl (fun _ _ h => h) rfl rfl rfl (Or.inr rfl) (fun _ => okv_df rfl rfl rfl) rfl rfl dX12_init_529 (fun o1742 K1743 V1749 hq1744 hK1745 hE1746 h1747 hz1750 hV1748 => ?_)
  have h1751 := (by rw [hK1745, updK_ne (K_old h1718 hq1744)]; exact h1718 : K1743 x = some (0, 23))
  have pf1752 := PF.nw pf1735 hV1748 (K_old h1718 hq1744)
  have kz1754 := hE1746.arr kz1721
  have hz1753 : ∀ j, V1749 o188 j = .int 0 := fun j => (congrFun (hV1748 _ (K_old kz1721 hq1744)) j).trans (hz1736 j)
  have kz1756 := hE1746.arr kz1723
  have hz1755 : ∀ j, V1749 o205 j = .int 0 := fun j => (congrFun (hV1748 _ (K_old kz1723 hq1744)) j).trans (hz1737 j)
  have kz1758 := hE1746.arr kz1725
  have hz1757 : ∀ j, V1749 o225 j = .int 0 := fun j => (congrFun (hV1748 _ (K_old kz1725 hq1744)) j).trans (hz1738 j)
  have kz1760 := hE1746.arr kz1727
  have hz1759 : ∀ j, V1749 o248 j = .int 0 := fun j => (congrFun (hV1748 _ (K_old kz1727 hq1744)) j).trans (hz1739 j)
  have kz1762 := hE1746.arr kz1729
  have hz1761 : ∀ j, V1749 o274 j = .int 0 := fun j => (congrFun (hV1748 _ (K_old kz1729 hq1744)) j).trans (hz1740 j)
  have kz1764 := hE1746.arr kz1731
  have hz1763 : ∀ j, V1749 o423 j = .int 0 := fun j => (congrFun (hV1748 _ (K_old kz1731 hq1744)) j).trans (hz1741 j)
  have h1765 := KE.nw (KE.new (KE.new (KE.new (KE.new (KE.new (KE.new (KE.new (KE.new (KE.new (KE.new (KE.new (KE.new (KE.new (KE.new (KE.new (KE.new (KE.new (KE.new (KE.new (KE.new (KE.new (KE.new (KE.new (KE.new (KE.new (KE.new (KE.new (KE.new (KE.new (KE.new (KE.new (KE.new (KE.new (KE.new (KE.new (KE.new (KE.new (KE.new (KE.new (KE.new (KE.new (KE.new (KE.new (KE.new (KE.new (KE.new (KE.new (KE.new (KE.new (KE.new (KE.new (KE.new (KE.new (KE.new (KE.new (KE.new (KE.new (KE.new (KE.new (KE.new (KE.new KE.rf hq10 hK11) hq25 hK26) hq40 hK41) hq55 hK56) hq70 hK71) hq85 hK86) hq100 hK101) hq115 hK116) hq130 hK131) hq145 hK146) hq160 hK161) hq175 hK176) hq190 hK191) hq207 hK208) hq227 hK228) hq250 hK251) hq276 hK277) hq305 hK306) hq335 hK336) hq365 hK366) hq395 hK396) hq425 hK426) hq457 hK458) hq490 hK491) hq523 hK524) hq556 hK557) hq589 hK590) hq622 hK623) hq655 hK656) hq688 hK689) hq721 hK722) hq754 hK755) hq787 hK788) hq820 hK821) hq853 hK854) hq886 hK887) hq919 hK920) hq952 hK953) hq985 hK986) hq1018 hK1019) hq1051 hK1052) hq1084 hK1085) hq1117 hK1118) hq1150 hK1151) hq1183 hK1184) hq1216 hK1217) hq1249 hK1250) hq1282 hK1283) hq1315 hK1316) hq1348 hK1349) hq1381 hK1382) hq1414 hK1415) hq1447 hK1448) hq1480 hK1481) hq1513 hK1514) hq1546 hK1547) hq1579 hK1580) hq1612 hK1613) hq1645 hK1646) hq1678 hK1679) hq1711 hK1712) h1718 hq1744
  clear pf1735 kz1721 hz1736 kz1723 hz1737 kz1725 hz1738 kz1727 hz1739 kz1729 hz1740 kz1731 hz1741
  refine GO.putRF rfl rfl (by decide +kernel) h1751 fp_raw_fp_RX12_202 rfl rfl dX12_init_531 (fun V1767 e1766 => ?_)
  have pf1768 := PF.put pf1752 e1766 rfl
  have hz1769 : ∀ j, V1767 o188 j = .int 0 := fun j => (uq_ne e1766 (Or.inl (K_ne kz1754 h1751 (by decide)))).trans (hz1753 j)
  have hz1770 : ∀ j, V1767 o205 j = .int 0 := fun j => (uq_ne e1766 (Or.inl (K_ne kz1756 h1751 (by decide)))).trans (hz1755 j)
  have hz1771 : ∀ j, V1767 o225 j = .int 0 := fun j => (uq_ne e1766 (Or.inl (K_ne kz1758 h1751 (by decide)))).trans (hz1757 j)
  have hz1772 : ∀ j, V1767 o248 j = .int 0 := fun j => (uq_ne e1766 (Or.inl (K_ne kz1760 h1751 (by decide)))).trans (hz1759 j)
  have hz1773 : ∀ j, V1767 o274 j = .int 0 := fun j => (uq_ne e1766 (Or.inl (K_ne kz1762 h1751 (by decide)))).trans (hz1761 j)
  have hz1774 : ∀ j, V1767 o423 j = .int 0 := fun j => (uq_ne e1766 (Or.inl (K_ne kz1764 h1751 (by decide)))).trans (hz1763 j)
  clear pf1752 hz1753 hz1755 hz1757 hz1759 hz1761 hz1763
  refine GO.aload_n dX12_init_534 rfl rfl ?_
  refine GO.sipush dX12_init_535 rfl ?_
  refine GO.newT (atype := .int) 71 220 gw_89 rfl rfl (fun _ _ h => h) rfl rfl rfl (Or.inr rfl) (fun _ => okv_df rfl rfl rfl) rfl rfl dX12_init_538 (fun o1775 K1776 V1782 hq1777 hK1778 hE1779 h1780 hz1783 hV1781 => ?_)
  have h1784 := (by rw [hK1778, updK_ne (K_old h1751 hq1777)]; exact h1751 : K1776 x = some (0, 23))
  have pf1785 := PF.nw pf1768 hV1781 (K_old h1751 hq1777)
  have kz1787 := hE1779.arr kz1754
  have hz1786 : ∀ j, V1782 o188 j = .int 0 := fun j => (congrFun (hV1781 _ (K_old kz1754 hq1777)) j).trans (hz1769 j)
  have kz1789 := hE1779.arr kz1756
  have hz1788 : ∀ j, V1782 o205 j = .int 0 := fun j => (congrFun (hV1781 _ (K_old kz1756 hq1777)) j).trans (hz1770 j)
  have kz1791 := hE1779.arr kz1758
  have hz1790 : ∀ j, V1782 o225 j = .int 0 := fun j => (congrFun (hV1781 _ (K_old kz1758 hq1777)) j).trans (hz1771 j)
  have kz1793 := hE1779.arr kz1760
  have hz1792 : ∀ j, V1782 o248 j = .int 0 := fun j => (congrFun (hV1781 _ (K_old kz1760 hq1777)) j).trans (hz1772 j)
  have kz1795 := hE1779.arr kz1762
  have hz1794 : ∀ j, V1782 o274 j = .int 0 := fun j => (congrFun (hV1781 _ (K_old kz1762 hq1777)) j).trans (hz1773 j)
  have kz1797 := hE1779.arr kz1764
  have hz1796 : ∀ j, V1782 o423 j = .int 0 := fun j => (congrFun (hV1781 _ (K_old kz1764 hq1777)) j).trans (hz1774 j)
  have h1798 := KE.nw (KE.new (KE.new (KE.new (KE.new (KE.new (KE.new (KE.new (KE.new (KE.new (KE.new (KE.new (KE.new (KE.new (KE.new (KE.new (KE.new (KE.new (KE.new (KE.new (KE.new (KE.new (KE.new (KE.new (KE.new (KE.new (KE.new (KE.new (KE.new (KE.new (KE.new (KE.new (KE.new (KE.new (KE.new (KE.new (KE.new (KE.new (KE.new (KE.new (KE.new (KE.new (KE.new (KE.new (KE.new (KE.new (KE.new (KE.new (KE.new (KE.new (KE.new (KE.new (KE.new (KE.new (KE.new (KE.new (KE.new (KE.new (KE.new (KE.new (KE.new (KE.new (KE.new KE.rf hq10 hK11) hq25 hK26) hq40 hK41) hq55 hK56) hq70 hK71) hq85 hK86) hq100 hK101) hq115 hK116) hq130 hK131) hq145 hK146) hq160 hK161) hq175 hK176) hq190 hK191) hq207 hK208) hq227 hK228) hq250 hK251) hq276 hK277) hq305 hK306) hq335 hK336) hq365 hK366) hq395 hK396) hq425 hK426) hq457 hK458) hq490 hK491) hq523 hK524) hq556 hK557) hq589 hK590) hq622 hK623) hq655 hK656) hq688 hK689) hq721 hK722) hq754 hK755) hq787 hK788) hq820 hK821) hq853 hK854) hq886 hK887) hq919 hK920) hq952 hK953) hq985 hK986) hq1018 hK1019) hq1051 hK1052) hq1084 hK1085) hq1117 hK1118) hq1150 hK1151) hq1183 hK1184) hq1216 hK1217) hq1249 hK1250) hq1282 hK1283) hq1315 hK1316) hq1348 hK1349) hq1381 hK1382) hq1414 hK1415) hq1447 hK1448) hq1480 hK1481) hq1513 hK1514) hq1546 hK1547) hq1579 hK1580) hq1612 hK1613) hq1645 hK1646) hq1678 hK1679) hq1711 hK1712) hq1744 hK1745) h1751 hq1777
  clear pf1768 kz1754 hz1769 kz1756 hz1770 kz1758 hz1771 kz1760 hz1772 kz1762 hz1773 kz1764 hz1774
  refine GO.putRF rfl rfl (by decide +kernel) h1784 fp_raw_fp_RX12_205 rfl rfl dX12_init_540 (fun V1800 e1799 => ?_)
  have pf1801 := PF.put pf1785 e1799 rfl
  have hz1802 : ∀ j, V1800 o188 j = .int 0 := fun j => (uq_ne e1799 (Or.inl (K_ne kz1787 h1784 (by decide)))).trans (hz1786 j)
  have hz1803 : ∀ j, V1800 o205 j = .int 0 := fun j => (uq_ne e1799 (Or.inl (K_ne kz1789 h1784 (by decide)))).trans (hz1788 j)
  have hz1804 : ∀ j, V1800 o225 j = .int 0 := fun j => (uq_ne e1799 (Or.inl (K_ne kz1791 h1784 (by decide)))).trans (hz1790 j)
  have hz1805 : ∀ j, V1800 o248 j = .int 0 := fun j => (uq_ne e1799 (Or.inl (K_ne kz1793 h1784 (by decide)))).trans (hz1792 j)
  have hz1806 : ∀ j, V1800 o274 j = .int 0 := fun j => (uq_ne e1799 (Or.inl (K_ne kz1795 h1784 (by decide)))).trans (hz1794 j)
  have hz1807 : ∀ j, V1800 o423 j = .int 0 := fun j => (uq_ne e1799 (Or.inl (K_ne kz1797 h1784 (by decide)))).trans (hz1796 j)
  clear pf1785 hz1786 hz1788 hz1790 hz1792 hz1794 hz1796
  refine GO.aload_n dX12_init_543 rfl rfl ?_
  refine GO.bipush dX12_init_544 rfl ?_
  refine GO.newT (atype := .int) 72 10 gw_89 rfl rfl (fun _ _ h => h) rfl rfl rfl (Or.inr rfl) (fun _ => okv_df rfl rfl rfl) rfl rfl dX12_init_546 (fun o1808 K1809 V1815 hq1810 hK1811 hE1812 h1813 hz1816 hV1814 => ?_)
  have h1817 := (by rw [hK1811, updK_ne (K_old h1784 hq1810)]; exact h1784 : K1809 x = some (0, 23))
  have pf1818 := PF.nw pf1801 hV1814 (K_old h1784 hq1810)
  have kz1820 := hE1812.arr kz1787
  have hz1819 : ∀ j, V1815 o188 j = .int 0 := fun j => (congrFun (hV1814 _ (K_old kz1787 hq1810)) j).trans (hz1802 j)
  have kz1822 := hE1812.arr kz1789
  have hz1821 : ∀ j, V1815 o205 j = .int 0 := fun j => (congrFun (hV1814 _ (K_old kz1789 hq1810)) j).trans (hz1803 j)
  have kz1824 := hE1812.arr kz1791
  have hz1823 : ∀ j, V1815 o225 j = .int 0 := fun j => (congrFun (hV1814 _ (K_old kz1791 hq1810)) j).trans (hz1804 j)
  have kz1826 := hE1812.arr kz1793
  have hz1825 : ∀ j, V1815 o248 j = .int 0 := fun j => (congrFun (hV1814 _ (K_old kz1793 hq1810)) j).trans (hz1805 j)
  have kz1828 := hE1812.arr kz1795
  have hz1827 : ∀ j, V1815 o274 j = .int 0 := fun j => (congrFun (hV1814 _ (K_old kz1795 hq1810)) j).trans (hz1806 j)
  have kz1830 := hE1812.arr kz1797
  have hz1829 : ∀ j, V1815 o423 j = .int 0 := fun j => (congrFun (hV1814 _ (K_old kz1797 hq1810)) j).trans (hz1807 j)
  have h1831 := KE.nw (KE.new (KE.new (KE.new (KE.new (KE.new (KE.new (KE.new (KE.new (KE.new (KE.new (KE.new (KE.new (KE.new (KE.new (KE.new (KE.new (KE.new (KE.new (KE.new (KE.new (KE.new (KE.new (KE.new (KE.new (KE.new (KE.new (KE.new (KE.new (KE.new (KE.new (KE.new (KE.new (KE.new (KE.new (KE.new (KE.new (KE.new (KE.new (KE.new (KE.new (KE.new (KE.new (KE.new (KE.new (KE.new (KE.new (KE.new (KE.new (KE.new (KE.new (KE.new (KE.new (KE.new (KE.new (KE.new (KE.new (KE.new (KE.new (KE.new (KE.new (KE.new (KE.new (KE.new KE.rf hq10 hK11) hq25 hK26) hq40 hK41) hq55 hK56) hq70 hK71) hq85 hK86) hq100 hK101) hq115 hK116) hq130 hK131) hq145 hK146) hq160 hK161) hq175 hK176) hq190 hK191) hq207 hK208) hq227 hK228) hq250 hK251) hq276 hK277) hq305 hK306) hq335 hK336) hq365 hK366) hq395 hK396) hq425 hK426) hq457 hK458) hq490 hK491) hq523 hK524) hq556 hK557) hq589 hK590) hq622 hK623) hq655 hK656) hq688 hK689) hq721 hK722) hq754 hK755) hq787 hK788) hq820 hK821) hq853 hK854) hq886 hK887) hq919 hK920) hq952 hK953) hq985 hK986) hq1018 hK1019) hq1051 hK1052) hq1084 hK1085) hq1117 hK1118) hq1150 hK1151) hq1183 hK1184) hq1216 hK1217) hq1249 hK1250) hq1282 hK1283) hq1315 hK1316) hq1348 hK1349) hq1381 hK1382) hq1414 hK1415) hq1447 hK1448) hq1480 hK1481) hq1513 hK1514) hq1546 hK1547) hq1579 hK1580) hq1612 hK1613) hq1645 hK1646) hq1678 hK1679) hq1711 hK1712) hq1744 hK1745) hq1777 hK1778) h1784 hq1810
  clear pf1801 kz1787 hz1802 kz1789 hz1803 kz1791 hz1804 kz1793 hz1805 kz1795 hz1806 kz1797 hz1807
  refine GO.putRF rfl rfl (by decide +kernel) h1817 fp_raw_fp_RX12_208 rfl rfl dX12_init_548 (fun V1833 e1832 => ?_)
  have pf1834 := PF.put pf1818 e1832 rfl
  have hz1835 : ∀ j, V1833 o188 j = .int 0 := fun j => (uq_ne e1832 (Or.inl (K_ne kz1820 h1817 (by decide)))).trans (hz1819 j)
  have hz1836 : ∀ j, V1833 o205 j = .int 0 := fun j => (uq_ne e1832 (Or.inl (K_ne kz1822 h1817 (by decide)))).trans (hz1821 j)
  have hz1837 : ∀ j, V1833 o225 j = .int 0 := fun j => (uq_ne e1832 (Or.inl (K_ne kz1824 h1817 (by decide)))).trans (hz1823 j)
  have hz1838 : ∀ j, V1833 o248 j = .int 0 := fun j => (uq_ne e1832 (Or.inl (K_ne kz1826 h1817 (by decide)))).trans (hz1825 j)
  have hz1839 : ∀ j, V1833 o274 j = .int 0 := fun j => (uq_ne e1832 (Or.inl (K_ne kz1828 h1817 (by decide)))).trans (hz1827 j)
  have hz1840 : ∀ j, V1833 o423 j = .int 0 := fun j => (uq_ne e1832 (Or.inl (K_ne kz1830 h1817 (by decide)))).trans (hz1829 j)
  clear pf1818 hz1819 hz1821 hz1823 hz1825 hz1827 hz1829
  refine GO.aload_n dX12_init_551 rfl rfl ?_
  refine GO.bipush dX12_init_552 rfl ?_
  refine GO.newT (atype := .int) 73 10 gw_89 rfl rfl (fun _ _ h => h) rfl rfl rfl (Or.inr rfl) (fun _ => okv_df rfl rfl rfl) rfl rfl dX12_init_554 (fun o1841 K1842 V1848 hq1843 hK1844 hE1845 h1846 hz1849 hV1847 => ?_)
  have h1850 := (by rw [hK1844, updK_ne (K_old h1817 hq1843)]; exact h1817 : K1842 x = some (0, 23))
  have pf1851 := PF.nw pf1834 hV1847 (K_old h1817 hq1843)
  have kz1853 := hE1845.arr kz1820
  have hz1852 : ∀ j, V1848 o188 j = .int 0 := fun j => (congrFun (hV1847 _ (K_old kz1820 hq1843)) j).trans (hz1835 j)
  have kz1855 := hE1845.arr kz1822
  have hz1854 : ∀ j, V1848 o205 j = .int 0 := fun j => (congrFun (hV1847 _ (K_old kz1822 hq1843)) j).trans (hz1836 j)
  have kz1857 := hE1845.arr kz1824
  have hz1856 : ∀ j, V1848 o225 j = .int 0 := fun j => (congrFun (hV1847 _ (K_old kz1824 hq1843)) j).trans (hz1837 j)
  have kz1859 := hE1845.arr kz1826
  have hz1858 : ∀ j, V1848 o248 j = .int 0 := fun j => (congrFun (hV1847 _ (K_old kz1826 hq1843)) j).trans (hz1838 j)
  have kz1861 := hE1845.arr kz1828
  have hz1860 : ∀ j, V1848 o274 j = .int 0 := fun j => (congrFun (hV1847 _ (K_old kz1828 hq1843)) j).trans (hz1839 j)
  have kz1863 := hE1845.arr kz1830
  have hz1862 : ∀ j, V1848 o423 j = .int 0 := fun j => (congrFun (hV1847 _ (K_old kz1830 hq1843)) j).trans (hz1840 j)
  have h1864 := KE.nw (KE.new (KE.new (KE.new (KE.new (KE.new (KE.new (KE.new (KE.new (KE.new (KE.new (KE.new (KE.new (KE.new (KE.new (KE.new (KE.new (KE.new (KE.new (KE.new (KE.new (KE.new (KE.new (KE.new (KE.new (KE.new (KE.new (KE.new (KE.new (KE.new (KE.new (KE.new (KE.new (KE.new (KE.new (KE.new (KE.new (KE.new (KE.new (KE.new (KE.new (KE.new (KE.new (KE.new (KE.new (KE.new (KE.new (KE.new (KE.new (KE.new (KE.new (KE.new (KE.new (KE.new (KE.new (KE.new (KE.new (KE.new (KE.new (KE.new (KE.new (KE.new (KE.new (KE.new (KE.new KE.rf hq10 hK11) hq25 hK26) hq40 hK41) hq55 hK56) hq70 hK71) hq85 hK86) hq100 hK101) hq115 hK116) hq130 hK131) hq145 hK146) hq160 hK161) hq175 hK176) hq190 hK191) hq207 hK208) hq227 hK228) hq250 hK251) hq276 hK277) hq305 hK306) hq335 hK336) hq365 hK366) hq395 hK396) hq425 hK426) hq457 hK458) hq490 hK491) hq523 hK524) hq556 hK557) hq589 hK590) hq622 hK623) hq655 hK656) hq688 hK689) hq721 hK722) hq754 hK755) hq787 hK788) hq820 hK821) hq853 hK854) hq886 hK887) hq919 hK920) hq952 hK953) hq985 hK986) hq1018 hK1019) hq1051 hK1052) hq1084 hK1085) hq1117 hK1118) hq1150 hK1151) hq1183 hK1184) hq1216 hK1217) hq1249 hK1250) hq1282 hK1283) hq1315 hK1316) hq1348 hK1349) hq1381 hK1382) hq1414 hK1415) hq1447 hK1448) hq1480 hK1481) hq1513 hK1514) hq1546 hK1547) hq1579 hK1580) hq1612 hK1613) hq1645 hK1646) hq1678 hK1679) hq1711 hK1712) hq1744 hK1745) hq1777 hK1778) hq1810 hK1811) h1817 hq1843
  clear pf1834 kz1820 hz1835 kz1822 hz1836 kz1824 hz1837 kz1826 hz1838 kz1828 hz1839 kz1830 hz1840
  refine GO.putRF rfl rfl (by decide +kernel) h1850 fp_raw_fp_RX12_211 rfl rfl dX12_init_556 (fun V1866 e1865 => ?_)
  have pf1867 := PF.put pf1851 e1865 rfl
  have hz1868 : ∀ j, V1866 o188 j = .int 0 := fun j => (uq_ne e1865 (Or.inl (K_ne kz1853 h1850 (by decide)))).trans (hz1852 j)
  have hz1869 : ∀ j, V1866 o205 j = .int 0 := fun j => (uq_ne e1865 (Or.inl (K_ne kz1855 h1850 (by decide)))).trans (hz1854 j)
  have hz1870 : ∀ j, V1866 o225 j = .int 0 := fun j => (uq_ne e1865 (Or.inl (K_ne kz1857 h1850 (by decide)))).trans (hz1856 j)
  have hz1871 : ∀ j, V1866 o248 j = .int 0 := fun j => (uq_ne e1865 (Or.inl (K_ne kz1859 h1850 (by decide)))).trans (hz1858 j)
  have hz1872 : ∀ j, V1866 o274 j = .int 0 := fun j => (uq_ne e1865 (Or.inl (K_ne kz1861 h1850 (by decide)))).trans (hz1860 j)
  have hz1873 : ∀ j, V1866 o423 j = .int 0 := fun j => (uq_ne e1865 (Or.inl (K_ne kz1863 h1850 (by decide)))).trans (hz1862 j)
  clear pf1851 hz1852 hz1854 hz1856 hz1858 hz1860 hz1862
  refine GO.aload_n dX12_init_559 rfl rfl ?_
  refine GO.bipush dX12_init_560 rfl ?_
  refine GO.newT (atype := .int) 74 10 gw_89 rfl rfl (fun _ _ h => h) rfl rfl rfl (Or.inr rfl) (fun _ => okv_df rfl rfl rfl) rfl rfl dX12_init_562 (fun o1874 K1875 V1881 hq1876 hK1877 hE1878 h1879 hz1882 hV1880 => ?_)
  have h1883 := (by rw [hK1877, updK_ne (K_old h1850 hq1876)]; exact h1850 : K1875 x = some (0, 23))
  have pf1884 := PF.nw pf1867 hV1880 (K_old h1850 hq1876)
  have kz1886 := hE1878.arr kz1853
  have hz1885 : ∀ j, V1881 o188 j = .int 0 := fun j => (congrFun (hV1880 _ (K_old kz1853 hq1876)) j).trans (hz1868 j)
  have kz1888 := hE1878.arr kz1855
  have hz1887 : ∀ j, V1881 o205 j = .int 0 := fun j => (congrFun (hV1880 _ (K_old kz1855 hq1876)) j).trans (hz1869 j)
  have kz1890 := hE1878.arr kz1857
  have hz1889 : ∀ j, V1881 o225 j = .int 0 := fun j => (congrFun (hV1880 _ (K_old kz1857 hq1876)) j).trans (hz1870 j)
  have kz1892 := hE1878.arr kz1859
  have hz1891 : ∀ j, V1881 o248 j = .int 0 := fun j => (congrFun (hV1880 _ (K_old kz1859 hq1876)) j).trans (hz1871 j)
  have kz1894 := hE1878.arr kz1861
  have hz1893 : ∀ j, V1881 o274 j = .int 0 := fun j => (congrFun (hV1880 _ (K_old kz1861 hq1876)) j).trans (hz1872 j)
  have kz1896 := hE1878.arr kz1863
  have hz1895 : ∀ j, V1881 o423 j = .int 0 := fun j => (congrFun (hV1880 _ (K_old kz1863 hq1876)) j).trans (hz1873 j)
  have h1897 := KE.nw (KE.new (KE.new (KE.new (KE.new (KE.new (KE.new (KE.new (KE.new (KE.new (KE.new (KE.new (KE.new (KE.new (KE.new (KE.new (KE.new (KE.new (KE.new (KE.new (KE.new (KE.new (KE.new (KE.new (KE.new (KE.new (KE.new (KE.new (KE.new (KE.new (KE.new (KE.new (KE.new (KE.new (KE.new (KE.new (KE.new (KE.new (KE.new (KE.new (KE.new (KE.new (KE.new (KE.new (KE.new (KE.new (KE.new (KE.new (KE.new (KE.new (KE.new (KE.new (KE.new (KE.new (KE.new (KE.new (KE.new (KE.new (KE.new (KE.new (KE.new (KE.new (KE.new (KE.new (KE.new (KE.new KE.rf hq10 hK11) hq25 hK26) hq40 hK41) hq55 hK56) hq70 hK71) hq85 hK86) hq100 hK101) hq115 hK116) hq130 hK131) hq145 hK146) hq160 hK161) hq175 hK176) hq190 hK191) hq207 hK208) hq227 hK228) hq250 hK251) hq276 hK277) hq305 hK306) hq335 hK336) hq365 hK366) hq395 hK396) hq425 hK426) hq457 hK458) hq490 hK491) hq523 hK524) hq556 hK557) hq589 hK590) hq622 hK623) hq655 hK656) hq688 hK689) hq721 hK722) hq754 hK755) hq787 hK788) hq820 hK821) hq853 hK854) hq886 hK887) hq919 hK920) hq952 hK953) hq985 hK986) hq1018 hK1019) hq1051 hK1052) hq1084 hK1085) hq1117 hK1118) hq1150 hK1151) hq1183 hK1184) hq1216 hK1217) hq1249 hK1250) hq1282 hK1283) hq1315 hK1316) hq1348 hK1349) hq1381 hK1382) hq1414 hK1415) hq1447 hK1448) hq1480 hK1481) hq1513 hK1514) hq1546 hK1547) hq1579 hK1580) hq1612 hK1613) hq1645 hK1646) hq1678 hK1679) hq1711 hK1712) hq1744 hK1745) hq1777 hK1778) hq1810 hK1811) hq1843 hK1844) h1850 hq1876
  clear pf1867 kz1853 hz1868 kz1855 hz1869 kz1857 hz1870 kz1859 hz1871 kz1861 hz1872 kz1863 hz1873
  refine GO.putRF rfl rfl (by decide +kernel) h1883 fp_raw_fp_RX12_214 rfl rfl dX12_init_564 (fun V1899 e1898 => ?_)
  have pf1900 := PF.put pf1884 e1898 rfl
  have hz1901 : ∀ j, V1899 o188 j = .int 0 := fun j => (uq_ne e1898 (Or.inl (K_ne kz1886 h1883 (by decide)))).trans (hz1885 j)
  have hz1902 : ∀ j, V1899 o205 j = .int 0 := fun j => (uq_ne e1898 (Or.inl (K_ne kz1888 h1883 (by decide)))).trans (hz1887 j)
  have hz1903 : ∀ j, V1899 o225 j = .int 0 := fun j => (uq_ne e1898 (Or.inl (K_ne kz1890 h1883 (by decide)))).trans (hz1889 j)
  have hz1904 : ∀ j, V1899 o248 j = .int 0 := fun j => (uq_ne e1898 (Or.inl (K_ne kz1892 h1883 (by decide)))).trans (hz1891 j)
  have hz1905 : ∀ j, V1899 o274 j = .int 0 := fun j => (uq_ne e1898 (Or.inl (K_ne kz1894 h1883 (by decide)))).trans (hz1893 j)
  have hz1906 : ∀ j, V1899 o423 j = .int 0 := fun j => (uq_ne e1898 (Or.inl (K_ne kz1896 h1883 (by decide)))).trans (hz1895 j)
  clear pf1884 hz1885 hz1887 hz1889 hz1891 hz1893 hz1895
  refine GO.aload_n dX12_init_567 rfl rfl ?_
  refine GO.bipush dX12_init_568 rfl ?_
  refine GO.newT (atype := .int) 75 10 gw_89 rfl rfl (fun _ _ h => h) rfl rfl rfl (Or.inr rfl) (fun _ => okv_df rfl rfl rfl) rfl rfl dX12_init_570 (fun o1907 K1908 V1914 hq1909 hK1910 hE1911 h1912 hz1915 hV1913 => ?_)
  have h1916 := (by rw [hK1910, updK_ne (K_old h1883 hq1909)]; exact h1883 : K1908 x = some (0, 23))
  have pf1917 := PF.nw pf1900 hV1913 (K_old h1883 hq1909)
  have kz1919 := hE1911.arr kz1886
  have hz1918 : ∀ j, V1914 o188 j = .int 0 := fun j => (congrFun (hV1913 _ (K_old kz1886 hq1909)) j).trans (hz1901 j)
  have kz1921 := hE1911.arr kz1888
  have hz1920 : ∀ j, V1914 o205 j = .int 0 := fun j => (congrFun (hV1913 _ (K_old kz1888 hq1909)) j).trans (hz1902 j)
  have kz1923 := hE1911.arr kz1890
  have hz1922 : ∀ j, V1914 o225 j = .int 0 := fun j => (congrFun (hV1913 _ (K_old kz1890 hq1909)) j).trans (hz1903 j)
  have kz1925 := hE1911.arr kz1892
  have hz1924 : ∀ j, V1914 o248 j = .int 0 := fun j => (congrFun (hV1913 _ (K_old kz1892 hq1909)) j).trans (hz1904 j)
  have kz1927 := hE1911.arr kz1894
  have hz1926 : ∀ j, V1914 o274 j = .int 0 := fun j => (congrFun (hV1913 _ (K_old kz1894 hq1909)) j).trans (hz1905 j)
  have kz1929 := hE1911.arr kz1896
  have hz1928 : ∀ j, V1914 o423 j = .int 0 := fun j => (congrFun (hV1913 _ (K_old kz1896 hq1909)) j).trans (hz1906 j)
  have hz1930 : ∀ j, V1914 o1907 j = .int 0 := hz1915
  have h1931 := KE.nw (KE.new (KE.new (KE.new (KE.new (KE.new (KE.new (KE.new (KE.new (KE.new (KE.new (KE.new (KE.new (KE.new (KE.new (KE.new (KE.new (KE.new (KE.new (KE.new (KE.new (KE.new (KE.new (KE.new (KE.new (KE.new (KE.new (KE.new (KE.new (KE.new (KE.new (KE.new (KE.new (KE.new (KE.new (KE.new (KE.new (KE.new (KE.new (KE.new (KE.new (KE.new (KE.new (KE.new (KE.new (KE.new (KE.new (KE.new (KE.new (KE.new (KE.new (KE.new (KE.new (KE.new (KE.new (KE.new (KE.new (KE.new (KE.new (KE.new (KE.new (KE.new (KE.new (KE.new (KE.new (KE.new (KE.new KE.rf hq10 hK11) hq25 hK26) hq40 hK41) hq55 hK56) hq70 hK71) hq85 hK86) hq100 hK101) hq115 hK116) hq130 hK131) hq145 hK146) hq160 hK161) hq175 hK176) hq190 hK191) hq207 hK208) hq227 hK228) hq250 hK251) hq276 hK277) hq305 hK306) hq335 hK336) hq365 hK366) hq395 hK396) hq425 hK426) hq457 hK458) hq490 hK491) hq523 hK524) hq556 hK557) hq589 hK590) hq622 hK623) hq655 hK656) hq688 hK689) hq721 hK722) hq754 hK755) hq787 hK788) hq820 hK821) hq853 hK854) hq886 hK887) hq919 hK920) hq952 hK953) hq985 hK986) hq1018 hK1019) hq1051 hK1052) hq1084 hK1085) hq1117 hK1118) hq1150 hK1151) hq1183 hK1184) hq1216 hK1217) hq1249 hK1250) hq1282 hK1283) hq1315 hK1316) hq1348 hK1349) hq1381 hK1382) hq1414 hK1415) hq1447 hK1448) hq1480 hK1481) hq1513 hK1514) hq1546 hK1547) hq1579 hK1580) hq1612 hK1613) hq1645 hK1646) hq1678 hK1679) hq1711 hK1712) hq1744 hK1745) hq1777 hK1778) hq1810 hK1811) hq1843 hK1844) hq1876 hK1877) h1883 hq1909
  clear pf1900 kz1886 hz1901 kz1888 hz1902 kz1890 hz1903 kz1892 hz1904 kz1894 hz1905 kz1896 hz1906
  refine GO.putRF rfl rfl (by decide +kernel) h1916 fp_raw_fp_RX12_217 rfl rfl dX12_init_572 (fun V1933 e1932 => ?_)
  have pf1934 := PF.put pf1917 e1932 rfl
  have hz1935 : ∀ j, V1933 o188 j = .int 0 := fun j => (uq_ne e1932 (Or.inl (K_ne kz1919 h1916 (by decide)))).trans (hz1918 j)
  have hz1936 : ∀ j, V1933 o205 j = .int 0 := fun j => (uq_ne e1932 (Or.inl (K_ne kz1921 h1916 (by decide)))).trans (hz1920 j)
  have hz1937 : ∀ j, V1933 o225 j = .int 0 := fun j => (uq_ne e1932 (Or.inl (K_ne kz1923 h1916 (by decide)))).trans (hz1922 j)
  have hz1938 : ∀ j, V1933 o248 j = .int 0 := fun j => (uq_ne e1932 (Or.inl (K_ne kz1925 h1916 (by decide)))).trans (hz1924 j)
  have hz1939 : ∀ j, V1933 o274 j = .int 0 := fun j => (uq_ne e1932 (Or.inl (K_ne kz1927 h1916 (by decide)))).trans (hz1926 j)
  have hz1940 : ∀ j, V1933 o423 j = .int 0 := fun j => (uq_ne e1932 (Or.inl (K_ne kz1929 h1916 (by decide)))).trans (hz1928 j)
  have hz1941 : ∀ j, V1933 o1907 j = .int 0 := fun j => (uq_ne e1932 (Or.inl (K_ne h1912 h1916 (by decide)))).trans (hz1930 j)
  clear pf1917 hz1918 hz1920 hz1922 hz1924 hz1926 hz1928 hz1930
  refine GO.aload_n dX12_init_575 rfl rfl ?_
  refine GO.bipush dX12_init_576 rfl ?_
  refine GO.newT (atype := .int) 76 10 gw_89 rfl rfl (fun _ _ h => h) rfl rfl rfl (Or.inr rfl) (fun _ => okv_df rfl rfl rfl) rfl rfl dX12_init_578 (fun o1942 K1943 V1949 hq1944 hK1945 hE1946 h1947 hz1950 hV1948 => ?_)
  have h1951 := (by rw [hK1945, updK_ne (K_old h1916 hq1944)]; exact h1916 : K1943 x = some (0, 23))
  have pf1952 := PF.nw pf1934 hV1948 (K_old h1916 hq1944)
  have kz1954 := hE1946.arr kz1919
  have hz1953 : ∀ j, V1949 o188 j = .int 0 := fun j => (congrFun (hV1948 _ (K_old kz1919 hq1944)) j).trans (hz1935 j)
  have kz1956 := hE1946.arr kz1921
  have hz1955 : ∀ j, V1949 o205 j = .int 0 := fun j => (congrFun (hV1948 _ (K_old kz1921 hq1944)) j).trans (hz1936 j)
  have kz1958 := hE1946.arr kz1923
  have hz1957 : ∀ j, V1949 o225 j = .int 0 := fun j => (congrFun (hV1948 _ (K_old kz1923 hq1944)) j).trans (hz1937 j)
  have kz1960 := hE1946.arr kz1925
  have hz1959 : ∀ j, V1949 o248 j = .int 0 := fun j => (congrFun (hV1948 _ (K_old kz1925 hq1944)) j).trans (hz1938 j)
  have kz1962 := hE1946.arr kz1927
  have hz1961 : ∀ j, V1949 o274 j = .int 0 := fun j => (congrFun (hV1948 _ (K_old kz1927 hq1944)) j).trans (hz1939 j)
  have kz1964 := hE1946.arr kz1929
  have hz1963 : ∀ j, V1949 o423 j = .int 0 := fun j => (congrFun (hV1948 _ (K_old kz1929 hq1944)) j).trans (hz1940 j)
  have kz1966 := hE1946.arr h1912
  have hz1965 : ∀ j, V1949 o1907 j = .int 0 := fun j => (congrFun (hV1948 _ (K_old h1912 hq1944)) j).trans (hz1941 j)
  have hz1967 : ∀ j, V1949 o1942 j = .int 0 := hz1950
  have h1968 := KE.nw (KE.new (KE.new (KE.new (KE.new (KE.new (KE.new (KE.new (KE.new (KE.new (KE.new (KE.new (KE.new (KE.new (KE.new (KE.new (KE.new (KE.new (KE.new (KE.new (KE.new (KE.new (KE.new (KE.new (KE.new (KE.new (KE.new (KE.new (KE.new (KE.new (KE.new (KE.new (KE.new (KE.new (KE.new (KE.new (KE.new (KE.new (KE.new (KE.new (KE.new (KE.new (KE.new (KE.new (KE.new (KE.new (KE.new (KE.new (KE.new (KE.new (KE.new (KE.new (KE.new (KE.new (KE.new (KE.new (KE.new (KE.new (KE.new (KE.new (KE.new (KE.new (KE.new (KE.new (KE.new (KE.new (KE.new (KE.new KE.rf hq10 hK11) hq25 hK26) hq40 hK41) hq55 hK56) hq70 hK71) hq85 hK86) hq100 hK101) hq115 hK116) hq130 hK131) hq145 hK146) hq160 hK161) hq175 hK176) hq190 hK191) hq207 hK208) hq227 hK228) hq250 hK251) hq276 hK277) hq305 hK306) hq335 hK336) hq365 hK366) hq395 hK396) hq425 hK426) hq457 hK458) hq490 hK491) hq523 hK524) hq556 hK557) hq589 hK590) hq622 hK623) hq655 hK656) hq688 hK689) hq721 hK722) hq754 hK755) hq787 hK788) hq820 hK821) hq853 hK854) hq886 hK887) hq919 hK920) hq952 hK953) hq985 hK986) hq1018 hK1019) hq1051 hK1052) hq1084 hK1085) hq1117 hK1118) hq1150 hK1151) hq1183 hK1184) hq1216 hK1217) hq1249 hK1250) hq1282 hK1283) hq1315 hK1316) hq1348 hK1349) hq1381 hK1382) hq1414 hK1415) hq1447 hK1448) hq1480 hK1481) hq1513 hK1514) hq1546 hK1547) hq1579 hK1580) hq1612 hK1613) hq1645 hK1646) hq1678 hK1679) hq1711 hK1712) hq1744 hK1745) hq1777 hK1778) hq1810 hK1811) hq1843 hK1844) hq1876 hK1877) hq1909 hK1910) h1916 hq1944
  clear pf1934 kz1919 hz1935 kz1921 hz1936 kz1923 hz1937 kz1925 hz1938 kz1927 hz1939 kz1929 hz1940 hz1941
  refine GO.putRF rfl rfl (by decide +kernel) h1951 fp_raw_fp_RX12_220 rfl rfl dX12_init_580 (fun V1970 e1969 => ?_)
  have pf1971 := PF.put pf1952 e1969 rfl
  have hz1972 : ∀ j, V1970 o188 j = .int 0 := fun j => (uq_ne e1969 (Or.inl (K_ne kz1954 h1951 (by decide)))).trans (hz1953 j)
  have hz1973 : ∀ j, V1970 o205 j = .int 0 := fun j => (uq_ne e1969 (Or.inl (K_ne kz1956 h1951 (by decide)))).trans (hz1955 j)
  have hz1974 : ∀ j, V1970 o225 j = .int 0 := fun j => (uq_ne e1969 (Or.inl (K_ne kz1958 h1951 (by decide)))).trans (hz1957 j)
  have hz1975 : ∀ j, V1970 o248 j = .int 0 := fun j => (uq_ne e1969 (Or.inl (K_ne kz1960 h1951 (by decide)))).trans (hz1959 j)
  have hz1976 : ∀ j, V1970 o274 j = .int 0 := fun j => (uq_ne e1969 (Or.inl (K_ne kz1962 h1951 (by decide)))).trans (hz1961 j)
  have hz1977 : ∀ j, V1970 o423 j = .int 0 := fun j => (uq_ne e1969 (Or.inl (K_ne kz1964 h1951 (by decide)))).trans (hz1963 j)
  have hz1978 : ∀ j, V1970 o1907 j = .int 0 := fun j => (uq_ne e1969 (Or.inl (K_ne kz1966 h1951 (by decide)))).trans (hz1965 j)
  have hz1979 : ∀ j, V1970 o1942 j = .int 0 := fun j => (uq_ne e1969 (Or.inl (K_ne h1947 h1951 (by decide)))).trans (hz1967 j)
  clear pf1952 hz1953 hz1955 hz1957 hz1959 hz1961 hz1963 hz1965 hz1967
  refine GO.aload_n dX12_init_583 rfl rfl ?_
  refine GO.bipush dX12_init_584 rfl ?_
  refine GO.newT (atype := .int) 77 10 gw_89 rfl rfl (fun _ _ h => h) rfl rfl rfl (Or.inr rfl) (fun _ => okv_df rfl rfl rfl) rfl rfl dX12_init_586 (fun o1980 K1981 V1987 hq1982 hK1983 hE1984 h1985 hz1988 hV1986 => ?_)
  have h1989 := (by rw [hK1983, updK_ne (K_old h1951 hq1982)]; exact h1951 : K1981 x = some (0, 23))
  have pf1990 := PF.nw pf1971 hV1986 (K_old h1951 hq1982)
  have kz1992 := hE1984.arr kz1954
  have hz1991 : ∀ j, V1987 o188 j = .int 0 := fun j => (congrFun (hV1986 _ (K_old kz1954 hq1982)) j).trans (hz1972 j)
  have kz1994 := hE1984.arr kz1956
  have hz1993 : ∀ j, V1987 o205 j = .int 0 := fun j => (congrFun (hV1986 _ (K_old kz1956 hq1982)) j).trans (hz1973 j)
  have kz1996 := hE1984.arr kz1958
  have hz1995 : ∀ j, V1987 o225 j = .int 0 := fun j => (congrFun (hV1986 _ (K_old kz1958 hq1982)) j).trans (hz1974 j)
  have kz1998 := hE1984.arr kz1960
  have hz1997 : ∀ j, V1987 o248 j = .int 0 := fun j => (congrFun (hV1986 _ (K_old kz1960 hq1982)) j).trans (hz1975 j)
  have kz2000 := hE1984.arr kz1962
  have hz1999 : ∀ j, V1987 o274 j = .int 0 := fun j => (congrFun (hV1986 _ (K_old kz1962 hq1982)) j).trans (hz1976 j)
  have kz2002 := hE1984.arr kz1964
  have hz2001 : ∀ j, V1987 o423 j = .int 0 := fun j => (congrFun (hV1986 _ (K_old kz1964 hq1982)) j).trans (hz1977 j)
  have kz2004 := hE1984.arr kz1966
  have hz2003 : ∀ j, V1987 o1907 j = .int 0 := fun j => (congrFun (hV1986 _ (K_old kz1966 hq1982)) j).trans (hz1978 j)
  have kz2006 := hE1984.arr h1947
  have hz2005 : ∀ j, V1987 o1942 j = .int 0 := fun j => (congrFun (hV1986 _ (K_old h1947 hq1982)) j).trans (hz1979 j)
  have hz2007 : ∀ j, V1987 o1980 j = .int 0 := hz1988
  have h2008 := KE.nw (KE.new (KE.new (KE.new (KE.new (KE.new (KE.new (KE.new (KE.new (KE.new (KE.new (KE.new (KE.new (KE.new (KE.new (KE.new (KE.new (KE.new (KE.new (KE.new (KE.new (KE.new (KE.new (KE.new (KE.new (KE.new (KE.new (KE.new (KE.new (KE.new (KE.new (KE.new (KE.new (KE.new (KE.new (KE.new (KE.new (KE.new (KE.new (KE.new (KE.new (KE.new (KE.new (KE.new (KE.new (KE.new (KE.new (KE.new (KE.new (KE.new (KE.new (KE.new (KE.new (KE.new (KE.new (KE.new (KE.new (KE.new (KE.new (KE.new (KE.new (KE.new (KE.new (KE.new (KE.new (KE.new (KE.new (KE.new (KE.new KE.rf hq10 hK11) hq25 hK26) hq40 hK41) hq55 hK56) hq70 hK71) hq85 hK86) hq100 hK101) hq115 hK116) hq130 hK131) hq145 hK146) hq160 hK161) hq175 hK176) hq190 hK191) hq207 hK208) hq227 hK228) hq250 hK251) hq276 hK277) hq305 hK306) hq335 hK336) hq365 hK366) hq395 hK396) hq425 hK426) hq457 hK458) hq490 hK491) hq523 hK524) hq556 hK557) hq589 hK590) hq622 hK623) hq655 hK656) hq688 hK689) hq721 hK722) hq754 hK755) hq787 hK788) hq820 hK821) hq853 hK854) hq886 hK887) hq919 hK920) hq952 hK953) hq985 hK986) hq1018 hK1019) hq1051 hK1052) hq1084 hK1085) hq1117 hK1118) hq1150 hK1151) hq1183 hK1184) hq1216 hK1217) hq1249 hK1250) hq1282 hK1283) hq1315 hK1316) hq1348 hK1349) hq1381 hK1382) hq1414 hK1415) hq1447 hK1448) hq1480 hK1481) hq1513 hK1514) hq1546 hK1547) hq1579 hK1580) hq1612 hK1613) hq1645 hK1646) hq1678 hK1679) hq1711 hK1712) hq1744 hK1745) hq1777 hK1778) hq1810 hK1811) hq1843 hK1844) hq1876 hK1877) hq1909 hK1910) hq1944 hK1945) h1951 hq1982
  clear pf1971 kz1954 hz1972 kz1956 hz1973 kz1958 hz1974 kz1960 hz1975 kz1962 hz1976 kz1964 hz1977 kz1966 hz1978 hz1979
  refine GO.putRF rfl rfl (by decide +kernel) h1989 fp_raw_fp_RX12_223 rfl rfl dX12_init_588 (fun V2010 e2009 => ?_)
  have pf2011 := PF.put pf1990 e2009 rfl
  have hz2012 : ∀ j, V2010 o188 j = .int 0 := fun j => (uq_ne e2009 (Or.inl (K_ne kz1992 h1989 (by decide)))).trans (hz1991 j)
  have hz2013 : ∀ j, V2010 o205 j = .int 0 := fun j => (uq_ne e2009 (Or.inl (K_ne kz1994 h1989 (by decide)))).trans (hz1993 j)
  have hz2014 : ∀ j, V2010 o225 j = .int 0 := fun j => (uq_ne e2009 (Or.inl (K_ne kz1996 h1989 (by decide)))).trans (hz1995 j)
  have hz2015 : ∀ j, V2010 o248 j = .int 0 := fun j => (uq_ne e2009 (Or.inl (K_ne kz1998 h1989 (by decide)))).trans (hz1997 j)
  have hz2016 : ∀ j, V2010 o274 j = .int 0 := fun j => (uq_ne e2009 (Or.inl (K_ne kz2000 h1989 (by decide)))).trans (hz1999 j)
  have hz2017 : ∀ j, V2010 o423 j = .int 0 := fun j => (uq_ne e2009 (Or.inl (K_ne kz2002 h1989 (by decide)))).trans (hz2001 j)
  have hz2018 : ∀ j, V2010 o1907 j = .int 0 := fun j => (uq_ne e2009 (Or.inl (K_ne kz2004 h1989 (by decide)))).trans (hz2003 j)
  have hz2019 : ∀ j, V2010 o1942 j = .int 0 := fun j => (uq_ne e2009 (Or.inl (K_ne kz2006 h1989 (by decide)))).trans (hz2005 j)
  have hz2020 : ∀ j, V2010 o1980 j = .int 0 := fun j => (uq_ne e2009 (Or.inl (K_ne h1985 h1989 (by decide)))).trans (hz2007 j)
  clear pf1990 hz1991 hz1993 hz1995 hz1997 hz1999 hz2001 hz2003 hz2005 hz2007
  refine GO.aload_n dX12_init_591 rfl rfl ?_
  refine GO.bipush dX12_init_592 rfl ?_
  refine GO.newT (atype := .int) 78 10 gw_89 rfl rfl (fun _ _ h => h) rfl rfl rfl (Or.inr rfl) (fun _ => okv_df rfl rfl rfl) rfl rfl dX12_init_594 (fun o2021 K2022 V2028 hq2023 hK2024 hE2025 h2026 hz2029 hV2027 => ?_)
  have h2030 := (by rw [hK2024, updK_ne (K_old h1989 hq2023)]; exact h1989 : K2022 x = some (0, 23))
  have pf2031 := PF.nw pf2011 hV2027 (K_old h1989 hq2023)
  have kz2033 := hE2025.arr kz1992
  have hz2032 : ∀ j, V2028 o188 j = .int 0 := fun j => (congrFun (hV2027 _ (K_old kz1992 hq2023)) j).trans (hz2012 j)
  have kz2035 := hE2025.arr kz1994
  have hz2034 : ∀ j, V2028 o205 j = .int 0 := fun j => (congrFun (hV2027 _ (K_old kz1994 hq2023)) j).trans (hz2013 j)
  have kz2037 := hE2025.arr kz1996
  have hz2036 : ∀ j, V2028 o225 j = .int 0 := fun j => (congrFun (hV2027 _ (K_old kz1996 hq2023)) j).trans (hz2014 j)
  have kz2039 := hE2025.arr kz1998
  have hz2038 : ∀ j, V2028 o248 j = .int 0 := fun j => (congrFun (hV2027 _ (K_old kz1998 hq2023)) j).trans (hz2015 j)
  have kz2041 := hE2025.arr kz2000
  have hz2040 : ∀ j, V2028 o274 j = .int 0 := fun j => (congrFun (hV2027 _ (K_old kz2000 hq2023)) j).trans (hz2016 j)
  have kz2043 := hE2025.arr kz2002
  have hz2042 : ∀ j, V2028 o423 j = .int 0 := fun j => (congrFun (hV2027 _ (K_old kz2002 hq2023)) j).trans (hz2017 j)
  have kz2045 := hE2025.arr kz2004
  have hz2044 : ∀ j, V2028 o1907 j = .int 0 := fun j => (congrFun (hV2027 _ (K_old kz2004 hq2023)) j).trans (hz2018 j)
  have kz2047 := hE2025.arr kz2006
  have hz2046 : ∀ j, V2028 o1942 j = .int 0 := fun j => (congrFun (hV2027 _ (K_old kz2006 hq2023)) j).trans (hz2019 j)
  have kz2049 := hE2025.arr h1985
  have hz2048 : ∀ j, V2028 o1980 j = .int 0 := fun j => (congrFun (hV2027 _ (K_old h1985 hq2023)) j).trans (hz2020 j)
  have h2050 := KE.nw (KE.new (KE.new (KE.new (KE.new (KE.new (KE.new (KE.new (KE.new (KE.new (KE.new (KE.new (KE.new (KE.new (KE.new (KE.new (KE.new (KE.new (KE.new (KE.new (KE.new (KE.new (KE.new (KE.new (KE.new (KE.new (KE.new (KE.new (KE.new (KE.new (KE.new (KE.new (KE.new (KE.new (KE.new (KE.new (KE.new (KE.new (KE.new (KE.new (KE.new (KE.new (KE.new (KE.new (KE.new (KE.new (KE.new (KE.new (KE.new (KE.new (KE.new (KE.new (KE.new (KE.new (KE.new (KE.new (KE.new (KE.new (KE.new (KE.new (KE.new (KE.new (KE.new (KE.new (KE.new (KE.new (KE.new (KE.new (KE.new (KE.new KE.rf hq10 hK11) hq25 hK26) hq40 hK41) hq55 hK56) hq70 hK71) hq85 hK86) hq100 hK101) hq115 hK116) hq130 hK131) hq145 hK146) hq160 hK161) hq175 hK176) hq190 hK191) hq207 hK208) hq227 hK228) hq250 hK251) hq276 hK277) hq305 hK306) hq335 hK336) hq365 hK366) hq395 hK396) hq425 hK426) hq457 hK458) hq490 hK491) hq523 hK524) hq556 hK557) hq589 hK590) hq622 hK623) hq655 hK656) hq688 hK689) hq721 hK722) hq754 hK755) hq787 hK788) hq820 hK821) hq853 hK854) hq886 hK887) hq919 hK920) hq952 hK953) hq985 hK986) hq1018 hK1019) hq1051 hK1052) hq1084 hK1085) hq1117 hK1118) hq1150 hK1151) hq1183 hK1184) hq1216 hK1217) hq1249 hK1250) hq1282 hK1283) hq1315 hK1316) hq1348 hK1349) hq1381 hK1382) hq1414 hK1415) hq1447 hK1448) hq1480 hK1481) hq1513 hK1514) hq1546 hK1547) hq1579 hK1580) hq1612 hK1613) hq1645 hK1646) hq1678 hK1679) hq1711 hK1712) hq1744 hK1745) hq1777 hK1778) hq1810 hK1811) hq1843 hK1844) hq1876 hK1877) hq1909 hK1910) hq1944 hK1945) hq1982 hK1983) h1989 hq2023
  clear pf2011 kz1992 hz2012 kz1994 hz2013 kz1996 hz2014 kz1998 hz2015 kz2000 hz2016 kz2002 hz2017 kz2004 hz2018 kz2006 hz2019 hz2020
  refine GO.putRF rfl rfl (by decide +kernel) h2030 fp_raw_fp_RX12_226 rfl rfl dX12_init_596 (fun V2052 e2051 => ?_)
  have pf2053 := PF.put pf2031 e2051 rfl
  have hz2054 : ∀ j, V2052 o188 j = .int 0 := fun j => (uq_ne e2051 (Or.inl (K_ne kz2033 h2030 (by decide)))).trans (hz2032 j)
  have hz2055 : ∀ j, V2052 o205 j = .int 0 := fun j => (uq_ne e2051 (Or.inl (K_ne kz2035 h2030 (by decide)))).trans (hz2034 j)
  have hz2056 : ∀ j, V2052 o225 j = .int 0 := fun j => (uq_ne e2051 (Or.inl (K_ne kz2037 h2030 (by decide)))).trans (hz2036 j)
  have hz2057 : ∀ j, V2052 o248 j = .int 0 := fun j => (uq_ne e2051 (Or.inl (K_ne kz2039 h2030 (by decide)))).trans (hz2038 j)
  have hz2058 : ∀ j, V2052 o274 j = .int 0 := fun j => (uq_ne e2051 (Or.inl (K_ne kz2041 h2030 (by decide)))).trans (hz2040 j)
  have hz2059 : ∀ j, V2052 o423 j = .int 0 := fun j => (uq_ne e2051 (Or.inl (K_ne kz2043 h2030 (by decide)))).trans (hz2042 j)
  have hz2060 : ∀ j, V2052 o1907 j = .int 0 := fun j => (uq_ne e2051 (Or.inl (K_ne kz2045 h2030 (by decide)))).trans (hz2044 j)
  have hz2061 : ∀ j, V2052 o1942 j = .int 0 := fun j => (uq_ne e2051 (Or.inl (K_ne kz2047 h2030 (by decide)))).trans (hz2046 j)
  have hz2062 : ∀ j, V2052 o1980 j = .int 0 := fun j => (uq_ne e2051 (Or.inl (K_ne kz2049 h2030 (by decide)))).trans (hz2048 j)
  clear pf2031 hz2032 hz2034 hz2036 hz2038 hz2040 hz2042 hz2044 hz2046 hz2048
  refine GO.aload_n dX12_init_599 rfl rfl ?_
  refine GO.bipush dX12_init_600 rfl ?_
  refine GO.newT (atype := .int) 79 10 gw_89 rfl rfl (fun _ _ h => h) rfl rfl rfl (Or.inr rfl) (fun _ => okv_df rfl rfl rfl) rfl rfl dX12_init_602 (fun o2063 K2064 V2070 hq2065 hK2066 hE2067 h2068 hz2071 hV2069 => ?_)
  have h2072 := (by rw [hK2066, updK_ne (K_old h2030 hq2065)]; exact h2030 : K2064 x = some (0, 23))
  have pf2073 := PF.nw pf2053 hV2069 (K_old h2030 hq2065)
  have kz2075 := hE2067.arr kz2033
  have hz2074 : ∀ j, V2070 o188 j = .int 0 := fun j => (congrFun (hV2069 _ (K_old kz2033 hq2065)) j).trans (hz2054 j)
  have kz2077 := hE2067.arr kz2035
  have hz2076 : ∀ j, V2070 o205 j = .int 0 := fun j => (congrFun (hV2069 _ (K_old kz2035 hq2065)) j).trans (hz2055 j)
  have kz2079 := hE2067.arr kz2037
  have hz2078 : ∀ j, V2070 o225 j = .int 0 := fun j => (congrFun (hV2069 _ (K_old kz2037 hq2065)) j).trans (hz2056 j)
  have kz2081 := hE2067.arr kz2039
  have hz2080 : ∀ j, V2070 o248 j = .int 0 := fun j => (congrFun (hV2069 _ (K_old kz2039 hq2065)) j).trans (hz2057 j)
  have kz2083 := hE2067.arr kz2041
  have hz2082 : ∀ j, V2070 o274 j = .int 0 := fun j => (congrFun (hV2069 _ (K_old kz2041 hq2065)) j).trans (hz2058 j)
  have kz2085 := hE2067.arr kz2043
  have hz2084 : ∀ j, V2070 o423 j = .int 0 := fun j => (congrFun (hV2069 _ (K_old kz2043 hq2065)) j).trans (hz2059 j)
  have kz2087 := hE2067.arr kz2045
  have hz2086 : ∀ j, V2070 o1907 j = .int 0 := fun j => (congrFun (hV2069 _ (K_old kz2045 hq2065)) j).trans (hz2060 j)
  have kz2089 := hE2067.arr kz2047
  have hz2088 : ∀ j, V2070 o1942 j = .int 0 := fun j => (congrFun (hV2069 _ (K_old kz2047 hq2065)) j).trans (hz2061 j)
  have kz2091 := hE2067.arr kz2049
  have hz2090 : ∀ j, V2070 o1980 j = .int 0 := fun j => (congrFun (hV2069 _ (K_old kz2049 hq2065)) j).trans (hz2062 j)
  have hz2092 : ∀ j, V2070 o2063 j = .int 0 := hz2071
  have h2093 := KE.nw (KE.new (KE.new (KE.new (KE.new (KE.new (KE.new (KE.new (KE.new (KE.new (KE.new (KE.new (KE.new (KE.new (KE.new (KE.new (KE.new (KE.new (KE.new (KE.new (KE.new (KE.new (KE.new (KE.new (KE.new (KE.new (KE.new (KE.new (KE.new (KE.new (KE.new (KE.new (KE.new (KE.new (KE.new (KE.new (KE.new (KE.new (KE.new (KE.new (KE.new (KE.new (KE.new (KE.new (KE.new (KE.new (KE.new (KE.new (KE.new (KE.new (KE.new (KE.new (KE.new (KE.new (KE.new (KE.new (KE.new (KE.new (KE.new (KE.new (KE.new (KE.new (KE.new (KE.new (KE.new (KE.new (KE.new (KE.new (KE.new (KE.new (KE.new KE.rf hq10 hK11) hq25 hK26) hq40 hK41) hq55 hK56) hq70 hK71) hq85 hK86) hq100 hK101) hq115 hK116) hq130 hK131) hq145 hK146) hq160 hK161) hq175 hK176) hq190 hK191) hq207 hK208) hq227 hK228) hq250 hK251) hq276 hK277) hq305 hK306) hq335 hK336) hq365 hK366) hq395 hK396) hq425 hK426) hq457 hK458) hq490 hK491) hq523 hK524) hq556 hK557) hq589 hK590) hq622 hK623) hq655 hK656) hq688 hK689) hq721 hK722) hq754 hK755) hq787 hK788) hq820 hK821) hq853 hK854) hq886 hK887) hq919 hK920) hq952 hK953) hq985 hK986) hq1018 hK1019) hq1051 hK1052) hq1084 hK1085) hq1117 hK1118) hq1150 hK1151) hq1183 hK1184) hq1216 hK1217) hq1249 hK1250) hq1282 hK1283) hq1315 hK1316) hq1348 hK1349) hq1381 hK1382) hq1414 hK1415) hq1447 hK1448) hq1480 hK1481) hq1513 hK1514) hq1546 hK1547) hq1579 hK1580) hq1612 hK1613) hq1645 hK1646) hq1678 hK1679) hq1711 hK1712) hq1744 hK1745) hq1777 hK1778) hq1810 hK1811) hq1843 hK1844) hq1876 hK1877) hq1909 hK1910) hq1944 hK1945) hq1982 hK1983) hq2023 hK2024) h2030 hq2065
  clear pf2053 kz2033 hz2054 kz2035 hz2055 kz2037 hz2056 kz2039 hz2057 kz2041 hz2058 kz2043 hz2059 kz2045 hz2060 kz2047 hz2061 kz2049 hz2062
  refine GO.putRF rfl rfl (by decide +kernel) h2072 fp_raw_fp_RX12_229 rfl rfl dX12_init_604 (fun V2095 e2094 => ?_)
  have pf2096 := PF.put pf2073 e2094 rfl
  have hz2097 : ∀ j, V2095 o188 j = .int 0 := fun j => (uq_ne e2094 (Or.inl (K_ne kz2075 h2072 (by decide)))).trans (hz2074 j)
  have hz2098 : ∀ j, V2095 o205 j = .int 0 := fun j => (uq_ne e2094 (Or.inl (K_ne kz2077 h2072 (by decide)))).trans (hz2076 j)
  have hz2099 : ∀ j, V2095 o225 j = .int 0 := fun j => (uq_ne e2094 (Or.inl (K_ne kz2079 h2072 (by decide)))).trans (hz2078 j)
  have hz2100 : ∀ j, V2095 o248 j = .int 0 := fun j => (uq_ne e2094 (Or.inl (K_ne kz2081 h2072 (by decide)))).trans (hz2080 j)
  have hz2101 : ∀ j, V2095 o274 j = .int 0 := fun j => (uq_ne e2094 (Or.inl (K_ne kz2083 h2072 (by decide)))).trans (hz2082 j)
  have hz2102 : ∀ j, V2095 o423 j = .int 0 := fun j => (uq_ne e2094 (Or.inl (K_ne kz2085 h2072 (by decide)))).trans (hz2084 j)
  have hz2103 : ∀ j, V2095 o1907 j = .int 0 := fun j => (uq_ne e2094 (Or.inl (K_ne kz2087 h2072 (by decide)))).trans (hz2086 j)
  have hz2104 : ∀ j, V2095 o1942 j = .int 0 := fun j => (uq_ne e2094 (Or.inl (K_ne kz2089 h2072 (by decide)))).trans (hz2088 j)
  have hz2105 : ∀ j, V2095 o1980 j = .int 0 := fun j => (uq_ne e2094 (Or.inl (K_ne kz2091 h2072 (by decide)))).trans (hz2090 j)
  have hz2106 : ∀ j, V2095 o2063 j = .int 0 := fun j => (uq_ne e2094 (Or.inl (K_ne h2068 h2072 (by decide)))).trans (hz2092 j)
  clear pf2073 hz2074 hz2076 hz2078 hz2080 hz2082 hz2084 hz2086 hz2088 hz2090 hz2092
  refine GO.aload_n dX12_init_607 rfl rfl ?_
  refine GO.bipush dX12_init_608 rfl ?_
  refine GO.newT (atype := .int) 80 10 gw_89 rfl rfl (fun _ _ h => h) rfl rfl rfl (Or.inr rfl) (fun _ => okv_df rfl rfl rfl) rfl rfl dX12_init_610 (fun o2107 K2108 V2114 hq2109 hK2110 hE2111 h2112 hz2115 hV2113 => ?_)
  have h2116 := (by rw [hK2110, updK_ne (K_old h2072 hq2109)]; exact h2072 : K2108 x = some (0, 23))
  have pf2117 := PF.nw pf2096 hV2113 (K_old h2072 hq2109)
  have kz2119 := hE2111.arr kz2075
  have hz2118 : ∀ j, V2114 o188 j = .int 0 := fun j => (congrFun (hV2113 _ (K_old kz2075 hq2109)) j).trans (hz2097 j)
  have kz2121 := hE2111.arr kz2077
  have hz2120 : ∀ j, V2114 o205 j = .int 0 := fun j => (congrFun (hV2113 _ (K_old kz2077 hq2109)) j).trans (hz2098 j)
  have kz2123 := hE2111.arr kz2079
  have hz2122 : ∀ j, V2114 o225 j = .int 0 := fun j => (congrFun (hV2113 _ (K_old kz2079 hq2109)) j).trans (hz2099 j)
  have kz2125 := hE2111.arr kz2081
  have hz2124 : ∀ j, V2114 o248 j = .int 0 := fun j => (congrFun (hV2113 _ (K_old kz2081 hq2109)) j).trans (hz2100 j)
  have kz2127 := hE2111.arr kz2083
  have hz2126 : ∀ j, V2114 o274 j = .int 0 := fun j => (congrFun (hV2113 _ (K_old kz2083 hq2109)) j).trans (hz2101 j)
  have kz2129 := hE2111.arr kz2085
  have hz2128 : ∀ j, V2114 o423 j = .int 0 := fun j => (congrFun (hV2113 _ (K_old kz2085 hq2109)) j).trans (hz2102 j)
  have kz2131 := hE2111.arr kz2087
  have hz2130 : ∀ j, V2114 o1907 j = .int 0 := fun j => (congrFun (hV2113 _ (K_old kz2087 hq2109)) j).trans (hz2103 j)
  have kz2133 := hE2111.arr kz2089
  have hz2132 : ∀ j, V2114 o1942 j = .int 0 := fun j => (congrFun (hV2113 _ (K_old kz2089 hq2109)) j).trans (hz2104 j)
  have kz2135 := hE2111.arr kz2091
  have hz2134 : ∀ j, V2114 o1980 j = .int 0 := fun j => (congrFun (hV2113 _ (K_old kz2091 hq2109)) j).trans (hz2105 j)
  have kz2137 := hE2111.arr h2068
  have hz2136 : ∀ j, V2114 o2063 j = .int 0 := fun j => (congrFun (hV2113 _ (K_old h2068 hq2109)) j).trans (hz2106 j)
  have h2138 := KE.nw (KE.new (KE.new (KE.new (KE.new (KE.new (KE.new (KE.new (KE.new (KE.new (KE.new (KE.new (KE.new (KE.new (KE.new (KE.new (KE.new (KE.new (KE.new (KE.new (KE.new (KE.new (KE.new (KE.new (KE.new (KE.new (KE.new (KE.new (KE.new (KE.new (KE.new (KE.new (KE.new (KE.new (KE.new (KE.new (KE.new (KE.new (KE.new (KE.new (KE.new (KE.new (KE.new (KE.new (KE.new (KE.new (KE.new (KE.new (KE.new (KE.new (KE.new (KE.new (KE.new (KE.new (KE.new (KE.new (KE.new (KE.new (KE.new (KE.new (KE.new (KE.new (KE.new (KE.new (KE.new (KE.new (KE.new (KE.new (KE.new (KE.new (KE.new (KE.new KE.rf hq10 hK11) hq25 hK26) hq40 hK41) hq55 hK56) hq70 hK71) hq85 hK86) hq100 hK101) hq115 hK116) hq130 hK131) hq145 hK146) hq160 hK161) hq175 hK176) hq190 hK191) hq207 hK208) hq227 hK228) hq250 hK251) hq276 hK277) hq305 hK306) hq335 hK336) hq365 hK366) hq395 hK396) hq425 hK426) hq457 hK458) hq490 hK491) hq523 hK524) hq556 hK557) hq589 hK590) hq622 hK623) hq655 hK656) hq688 hK689) hq721 hK722) hq754 hK755) hq787 hK788) hq820 hK821) hq853 hK854) hq886 hK887) hq919 hK920) hq952 hK953) hq985 hK986) hq1018 hK1019) hq1051 hK1052) hq1084 hK1085) hq1117 hK1118) hq1150 hK1151) hq1183 hK1184) hq1216 hK1217) hq1249 hK1250) hq1282 hK1283) hq1315 hK1316) hq1348 hK1349) hq1381 hK1382) hq1414 hK1415) hq1447 hK1448) hq1480 hK1481) hq1513 hK1514) hq1546 hK1547) hq1579 hK1580) hq1612 hK1613) hq1645 hK1646) hq1678 hK1679) hq1711 hK1712) hq1744 hK1745) hq1777 hK1778) hq1810 hK1811) hq1843 hK1844) hq1876 hK1877) hq1909 hK1910) hq1944 hK1945) hq1982 hK1983) hq2023 hK2024) hq2065 hK2066) h2072 hq2109
  clear pf2096 kz2075 hz2097 kz2077 hz2098 kz2079 hz2099 kz2081 hz2100 kz2083 hz2101 kz2085 hz2102 kz2087 hz2103 kz2089 hz2104 kz2091 hz2105 hz2106
  refine GO.putRF rfl rfl (by decide +kernel) h2116 fp_raw_fp_RX12_232 rfl rfl dX12_init_612 (fun V2140 e2139 => ?_)
  have pf2141 := PF.put pf2117 e2139 rfl
  have hz2142 : ∀ j, V2140 o188 j = .int 0 := fun j => (uq_ne e2139 (Or.inl (K_ne kz2119 h2116 (by decide)))).trans (hz2118 j)
  have hz2143 : ∀ j, V2140 o205 j = .int 0 := fun j => (uq_ne e2139 (Or.inl (K_ne kz2121 h2116 (by decide)))).trans (hz2120 j)
  have hz2144 : ∀ j, V2140 o225 j = .int 0 := fun j => (uq_ne e2139 (Or.inl (K_ne kz2123 h2116 (by decide)))).trans (hz2122 j)
  have hz2145 : ∀ j, V2140 o248 j = .int 0 := fun j => (uq_ne e2139 (Or.inl (K_ne kz2125 h2116 (by decide)))).trans (hz2124 j)
  have hz2146 : ∀ j, V2140 o274 j = .int 0 := fun j => (uq_ne e2139 (Or.inl (K_ne kz2127 h2116 (by decide)))).trans (hz2126 j)
  have hz2147 : ∀ j, V2140 o423 j = .int 0 := fun j => (uq_ne e2139 (Or.inl (K_ne kz2129 h2116 (by decide)))).trans (hz2128 j)
  have hz2148 : ∀ j, V2140 o1907 j = .int 0 := fun j => (uq_ne e2139 (Or.inl (K_ne kz2131 h2116 (by decide)))).trans (hz2130 j)
  have hz2149 : ∀ j, V2140 o1942 j = .int 0 := fun j => (uq_ne e2139 (Or.inl (K_ne kz2133 h2116 (by decide)))).trans (hz2132 j)
  have hz2150 : ∀ j, V2140 o1980 j = .int 0 := fun j => (uq_ne e2139 (Or.inl (K_ne kz2135 h2116 (by decide)))).trans (hz2134 j)
  have hz2151 : ∀ j, V2140 o2063 j = .int 0 := fun j => (uq_ne e2139 (Or.inl (K_ne kz2137 h2116 (by decide)))).trans (hz2136 j)
  clear pf2117 hz2118 hz2120 hz2122 hz2124 hz2126 hz2128 hz2130 hz2132 hz2134 hz2136
  refine GO.aload_n dX12_init_615 rfl rfl ?_
  refine GO.bipush dX12_init_616 rfl ?_
  refine GO.newT (atype := .int) 81 10 gw_89 rfl rfl (fun _ _ h => h) rfl rfl rfl (Or.inr rfl) (fun _ => okv_df rfl rfl rfl) rfl rfl dX12_init_618 (fun o2152 K2153 V2159 hq2154 hK2155 hE2156 h2157 hz2160 hV2158 => ?_)
  have h2161 := (by rw [hK2155, updK_ne (K_old h2116 hq2154)]; exact h2116 : K2153 x = some (0, 23))
  have pf2162 := PF.nw pf2141 hV2158 (K_old h2116 hq2154)
  have kz2164 := hE2156.arr kz2119
  have hz2163 : ∀ j, V2159 o188 j = .int 0 := fun j => (congrFun (hV2158 _ (K_old kz2119 hq2154)) j).trans (hz2142 j)
  have kz2166 := hE2156.arr kz2121
  have hz2165 : ∀ j, V2159 o205 j = .int 0 := fun j => (congrFun (hV2158 _ (K_old kz2121 hq2154)) j).trans (hz2143 j)
  have kz2168 := hE2156.arr kz2123
  have hz2167 : ∀ j, V2159 o225 j = .int 0 := fun j => (congrFun (hV2158 _ (K_old kz2123 hq2154)) j).trans (hz2144 j)
  have kz2170 := hE2156.arr kz2125
  have hz2169 : ∀ j, V2159 o248 j = .int 0 := fun j => (congrFun (hV2158 _ (K_old kz2125 hq2154)) j).trans (hz2145 j)
  have kz2172 := hE2156.arr kz2127
  have hz2171 : ∀ j, V2159 o274 j = .int 0 := fun j => (congrFun (hV2158 _ (K_old kz2127 hq2154)) j).trans (hz2146 j)
  have kz2174 := hE2156.arr kz2129
  have hz2173 : ∀ j, V2159 o423 j = .int 0 := fun j => (congrFun (hV2158 _ (K_old kz2129 hq2154)) j).trans (hz2147 j)
  have kz2176 := hE2156.arr kz2131
  have hz2175 : ∀ j, V2159 o1907 j = .int 0 := fun j => (congrFun (hV2158 _ (K_old kz2131 hq2154)) j).trans (hz2148 j)
  have kz2178 := hE2156.arr kz2133
  have hz2177 : ∀ j, V2159 o1942 j = .int 0 := fun j => (congrFun (hV2158 _ (K_old kz2133 hq2154)) j).trans (hz2149 j)
  have kz2180 := hE2156.arr kz2135
  have hz2179 : ∀ j, V2159 o1980 j = .int 0 := fun j => (congrFun (hV2158 _ (K_old kz2135 hq2154)) j).trans (hz2150 j)
  have kz2182 := hE2156.arr kz2137
  have hz2181 : ∀ j, V2159 o2063 j = .int 0 := fun j => (congrFun (hV2158 _ (K_old kz2137 hq2154)) j).trans (hz2151 j)
  have h2183 := KE.nw (KE.new (KE.new (KE.new (KE.new (KE.new (KE.new (KE.new (KE.new (KE.new (KE.new (KE.new (KE.new (KE.new (KE.new (KE.new (KE.new (KE.new (KE.new (KE.new (KE.new (KE.new (KE.new (KE.new (KE.new (KE.new (KE.new (KE.new (KE.new (KE.new (KE.new (KE.new (KE.new (KE.new (KE.new (KE.new (KE.new (KE.new (KE.new (KE.new (KE.new (KE.new (KE.new (KE.new (KE.new (KE.new (KE.new (KE.new (KE.new (KE.new (KE.new (KE.new (KE.new (KE.new (KE.new (KE.new (KE.new (KE.new (KE.new (KE.new (KE.new (KE.new (KE.new (KE.new (KE.new (KE.new (KE.new (KE.new (KE.new (KE.new (KE.new (KE.new (KE.new KE.rf hq10 hK11) hq25 hK26) hq40 hK41) hq55 hK56) hq70 hK71) hq85 hK86) hq100 hK101) hq115 hK116) hq130 hK131) hq145 hK146) hq160 hK161) hq175 hK176) hq190 hK191) hq207 hK208) hq227 hK228) hq250 hK251) hq276 hK277) hq305 hK306) hq335 hK336) hq365 hK366) hq395 hK396) hq425 hK426) hq457 hK458) hq490 hK491) hq523 hK524) hq556 hK557) hq589 hK590) hq622 hK623) hq655 hK656) hq688 hK689) hq721 hK722) hq754 hK755) hq787 hK788) hq820 hK821) hq853 hK854) hq886 hK887) hq919 hK920) hq952 hK953) hq985 hK986) hq1018 hK1019) hq1051 hK1052) hq1084 hK1085) hq1117 hK1118) hq1150 hK1151) hq1183 hK1184) hq1216 hK1217) hq1249 hK1250) hq1282 hK1283) hq1315 hK1316) hq1348 hK1349) hq1381 hK1382) hq1414 hK1415) hq1447 hK1448) hq1480 hK1481) hq1513 hK1514) hq1546 hK1547) hq1579 hK1580) hq1612 hK1613) hq1645 hK1646) hq1678 hK1679) hq1711 hK1712) hq1744 hK1745) hq1777 hK1778) hq1810 hK1811) hq1843 hK1844) hq1876 hK1877) hq1909 hK1910) hq1944 hK1945) hq1982 hK1983) hq2023 hK2024) hq2065 hK2066) hq2109 hK2110) h2116 hq2154
  clear pf2141 kz2119 hz2142 kz2121 hz2143 kz2123 hz2144 kz2125 hz2145 kz2127 hz2146 kz2129 hz2147 kz2131 hz2148 kz2133 hz2149 kz2135 hz2150 kz2137 hz2151
  refine GO.putRF rfl rfl (by decide +kernel) h2161 fp_raw_fp_RX12_235 rfl rfl dX12_init_620 (fun V2185 e2184 => ?_)
  have pf2186 := PF.put pf2162 e2184 rfl
  have hz2187 : ∀ j, V2185 o188 j = .int 0 := fun j => (uq_ne e2184 (Or.inl (K_ne kz2164 h2161 (by decide)))).trans (hz2163 j)
  have hz2188 : ∀ j, V2185 o205 j = .int 0 := fun j => (uq_ne e2184 (Or.inl (K_ne kz2166 h2161 (by decide)))).trans (hz2165 j)
  have hz2189 : ∀ j, V2185 o225 j = .int 0 := fun j => (uq_ne e2184 (Or.inl (K_ne kz2168 h2161 (by decide)))).trans (hz2167 j)
  have hz2190 : ∀ j, V2185 o248 j = .int 0 := fun j => (uq_ne e2184 (Or.inl (K_ne kz2170 h2161 (by decide)))).trans (hz2169 j)
  have hz2191 : ∀ j, V2185 o274 j = .int 0 := fun j => (uq_ne e2184 (Or.inl (K_ne kz2172 h2161 (by decide)))).trans (hz2171 j)
  have hz2192 : ∀ j, V2185 o423 j = .int 0 := fun j => (uq_ne e2184 (Or.inl (K_ne kz2174 h2161 (by decide)))).trans (hz2173 j)
  have hz2193 : ∀ j, V2185 o1907 j = .int 0 := fun j => (uq_ne e2184 (Or.inl (K_ne kz2176 h2161 (by decide)))).trans (hz2175 j)
  have hz2194 : ∀ j, V2185 o1942 j = .int 0 := fun j => (uq_ne e2184 (Or.inl (K_ne kz2178 h2161 (by decide)))).trans (hz2177 j)
  have hz2195 : ∀ j, V2185 o1980 j = .int 0 := fun j => (uq_ne e2184 (Or.inl (K_ne kz2180 h2161 (by decide)))).trans (hz2179 j)
  have hz2196 : ∀ j, V2185 o2063 j = .int 0 := fun j => (uq_ne e2184 (Or.inl (K_ne kz2182 h2161 (by decide)))).trans (hz2181 j)
  clear pf2162 hz2163 hz2165 hz2167 hz2169 hz2171 hz2173 hz2175 hz2177 hz2179 hz2181
  refine GO.aload_n dX12_init_623 rfl rfl ?_
  refine GO.bipush dX12_init_624 rfl ?_
  refine GO.newT (atype := .int) 82 10 gw_89 rfl rfl (fun _ _ h => h) rfl rfl rfl (Or.inr rfl) (fun _ => okv_df rfl rfl rfl) rfl rfl dX12_init_626 (fun o2197 K2198 V2204 hq2199 hK2200 hE2201 h2202 hz2205 hV2203 => ?_)
  have h2206 := (by rw [hK2200, updK_ne (K_old h2161 hq2199)]; exact h2161 : K2198 x = some (0, 23))
  have pf2207 := PF.nw pf2186 hV2203 (K_old h2161 hq2199)
  have kz2209 := hE2201.arr kz2164
  have hz2208 : ∀ j, V2204 o188 j = .int 0 := fun j => (congrFun (hV2203 _ (K_old kz2164 hq2199)) j).trans (hz2187 j)
  have kz2211 := hE2201.arr kz2166
  have hz2210 : ∀ j, V2204 o205 j = .int 0 := fun j => (congrFun (hV2203 _ (K_old kz2166 hq2199)) j).trans (hz2188 j)
  have kz2213 := hE2201.arr kz2168
  have hz2212 : ∀ j, V2204 o225 j = .int 0 := fun j => (congrFun (hV2203 _ (K_old kz2168 hq2199)) j).trans (hz2189 j)
  have kz2215 := hE2201.arr kz2170
  have hz2214 : ∀ j, V2204 o248 j = .int 0 := fun j => (congrFun (hV2203 _ (K_old kz2170 hq2199)) j).trans (hz2190 j)
  have kz2217 := hE2201.arr kz2172
  have hz2216 : ∀ j, V2204 o274 j = .int 0 := fun j => (congrFun (hV2203 _ (K_old kz2172 hq2199)) j).trans (hz2191 j)
  have kz2219 := hE2201.arr kz2174
  have hz2218 : ∀ j, V2204 o423 j = .int 0 := fun j => (congrFun (hV2203 _ (K_old kz2174 hq2199)) j).trans (hz2192 j)
  have kz2221 := hE2201.arr kz2176
  have hz2220 : ∀ j, V2204 o1907 j = .int 0 := fun j => (congrFun (hV2203 _ (K_old kz2176 hq2199)) j).trans (hz2193 j)
  have kz2223 := hE2201.arr kz2178
  have hz2222 : ∀ j, V2204 o1942 j = .int 0 := fun j => (congrFun (hV2203 _ (K_old kz2178 hq2199)) j).trans (hz2194 j)
  have kz2225 := hE2201.arr kz2180
  have hz2224 : ∀ j, V2204 o1980 j = .int 0 := fun j => (congrFun (hV2203 _ (K_old kz2180 hq2199)) j).trans (hz2195 j)
  have kz2227 := hE2201.arr kz2182
  have hz2226 : ∀ j, V2204 o2063 j = .int 0 := fun j => (congrFun (hV2203 _ (K_old kz2182 hq2199)) j).trans (hz2196 j)
  have h2228 := KE.nw (KE.new (KE.new (KE.new (KE.new (KE.new (KE.new (KE.new (KE.new (KE.new (KE.new (KE.new (KE.new (KE.new (KE.new (KE.new (KE.new (KE.new (KE.new (KE.new (KE.new (KE.new (KE.new (KE.new (KE.new (KE.new (KE.new (KE.new (KE.new (KE.new (KE.new (KE.new (KE.new (KE.new (KE.new (KE.new (KE.new (KE.new (KE.new (KE.new (KE.new (KE.new (KE.new (KE.new (KE.new (KE.new (KE.new (KE.new (KE.new (KE.new (KE.new (KE.new (KE.new (KE.new (KE.new (KE.new (KE.new (KE.new (KE.new (KE.new (KE.new (KE.new (KE.new (KE.new (KE.new (KE.new (KE.new (KE.new (KE.new (KE.new (KE.new (KE.new (KE.new (KE.new KE.rf hq10 hK11) hq25 hK26) hq40 hK41) hq55 hK56) hq70 hK71) hq85 hK86) hq100 hK101) hq115 hK116) hq130 hK131) hq145 hK146) hq160 hK161) hq175 hK176) hq190 hK191) hq207 hK208) hq227 hK228) hq250 hK251) hq276 hK277) hq305 hK306) hq335 hK336) hq365 hK366) hq395 hK396) hq425 hK426) hq457 hK458) hq490 hK491) hq523 hK524) hq556 hK557) hq589 hK590) hq622 hK623) hq655 hK656) hq688 hK689) hq721 hK722) hq754 hK755) hq787 hK788) hq820 hK821) hq853 hK854) hq886 hK887) hq919 hK920) hq952 hK953) hq985 hK986) hq1018 hK1019) hq1051 hK1052) hq1084 hK1085) hq1117 hK1118) hq1150 hK1151) hq1183 hK1184) hq1216 hK1217) hq1249 hK1250) hq1282 hK1283) hq1315 hK1316) hq1348 hK1349) hq1381 hK1382) hq1414 hK1415) hq1447 hK1448) hq1480 hK1481) hq1513 hK1514) hq1546 hK1547) hq1579 hK1580) hq1612 hK1613) hq1645 hK1646) hq1678 hK1679) hq1711 hK1712) hq1744 hK1745) hq1777 hK1778) hq1810 hK1811) hq1843 hK1844) hq1876 hK1877) hq1909 hK1910) hq1944 hK1945) hq1982 hK1983) hq2023 hK2024) hq2065 hK2066) hq2109 hK2110) hq2154 hK2155) h2161 hq2199
  clear pf2186 kz2164 hz2187 kz2166 hz2188 kz2168 hz2189 kz2170 hz2190 kz2172 hz2191 kz2174 hz2192 kz2176 hz2193 kz2178 hz2194 kz2180 hz2195 kz2182 hz2196
  refine GO.putRF rfl rfl (by decide +kernel) h2206 fp_raw_fp_RX12_238 rfl rfl dX12_init_628 (fun V2230 e2229 => ?_)
  have pf2231 := PF.put pf2207 e2229 rfl
  have hz2232 : ∀ j, V2230 o188 j = .int 0 := fun j => (uq_ne e2229 (Or.inl (K_ne kz2209 h2206 (by decide)))).trans (hz2208 j)
  have hz2233 : ∀ j, V2230 o205 j = .int 0 := fun j => (uq_ne e2229 (Or.inl (K_ne kz2211 h2206 (by decide)))).trans (hz2210 j)
  have hz2234 : ∀ j, V2230 o225 j = .int 0 := fun j => (uq_ne e2229 (Or.inl (K_ne kz2213 h2206 (by decide)))).trans (hz2212 j)
  have hz2235 : ∀ j, V2230 o248 j = .int 0 := fun j => (uq_ne e2229 (Or.inl (K_ne kz2215 h2206 (by decide)))).trans (hz2214 j)
  have hz2236 : ∀ j, V2230 o274 j = .int 0 := fun j => (uq_ne e2229 (Or.inl (K_ne kz2217 h2206 (by decide)))).trans (hz2216 j)
  have hz2237 : ∀ j, V2230 o423 j = .int 0 := fun j => (uq_ne e2229 (Or.inl (K_ne kz2219 h2206 (by decide)))).trans (hz2218 j)
  have hz2238 : ∀ j, V2230 o1907 j = .int 0 := fun j => (uq_ne e2229 (Or.inl (K_ne kz2221 h2206 (by decide)))).trans (hz2220 j)
  have hz2239 : ∀ j, V2230 o1942 j = .int 0 := fun j => (uq_ne e2229 (Or.inl (K_ne kz2223 h2206 (by decide)))).trans (hz2222 j)
  have hz2240 : ∀ j, V2230 o1980 j = .int 0 := fun j => (uq_ne e2229 (Or.inl (K_ne kz2225 h2206 (by decide)))).trans (hz2224 j)
  have hz2241 : ∀ j, V2230 o2063 j = .int 0 := fun j => (uq_ne e2229 (Or.inl (K_ne kz2227 h2206 (by decide)))).trans (hz2226 j)
  clear pf2207 hz2208 hz2210 hz2212 hz2214 hz2216 hz2218 hz2220 hz2222 hz2224 hz2226
  refine GO.aload_n dX12_init_631 rfl rfl ?_
  refine GO.bipush dX12_init_632 rfl ?_
  refine GO.newT (atype := .int) 83 48 gw_89 rfl rfl (fun _ _ h => h) rfl rfl rfl (Or.inr rfl) (fun _ => okv_df rfl rfl rfl) rfl rfl dX12_init_634 (fun o2242 K2243 V2249 hq2244 hK2245 hE2246 h2247 hz2250 hV2248 => ?_)
  have h2251 := (by rw [hK2245, updK_ne (K_old h2206 hq2244)]; exact h2206 : K2243 x = some (0, 23))
  have pf2252 := PF.nw pf2231 hV2248 (K_old h2206 hq2244)
  have kz2254 := hE2246.arr kz2209
  have hz2253 : ∀ j, V2249 o188 j = .int 0 := fun j => (congrFun (hV2248 _ (K_old kz2209 hq2244)) j).trans (hz2232 j)
  have kz2256 := hE2246.arr kz2211
  have hz2255 : ∀ j, V2249 o205 j = .int 0 := fun j => (congrFun (hV2248 _ (K_old kz2211 hq2244)) j).trans (hz2233 j)
  have kz2258 := hE2246.arr kz2213
  have hz2257 : ∀ j, V2249 o225 j = .int 0 := fun j => (congrFun (hV2248 _ (K_old kz2213 hq2244)) j).trans (hz2234 j)
  have kz2260 := hE2246.arr kz2215
  have hz2259 : ∀ j, V2249 o248 j = .int 0 := fun j => (congrFun (hV2248 _ (K_old kz2215 hq2244)) j).trans (hz2235 j)
  have kz2262 := hE2246.arr kz2217
  have hz2261 : ∀ j, V2249 o274 j = .int 0 := fun j => (congrFun (hV2248 _ (K_old kz2217 hq2244)) j).trans (hz2236 j)
  have kz2264 := hE2246.arr kz2219
  have hz2263 : ∀ j, V2249 o423 j = .int 0 := fun j => (congrFun (hV2248 _ (K_old kz2219 hq2244)) j).trans (hz2237 j)
  have kz2266 := hE2246.arr kz2221
  have hz2265 : ∀ j, V2249 o1907 j = .int 0 := fun j => (congrFun (hV2248 _ (K_old kz2221 hq2244)) j).trans (hz2238 j)
  have kz2268 := hE2246.arr kz2223
  have hz2267 : ∀ j, V2249 o1942 j = .int 0 := fun j => (congrFun (hV2248 _ (K_old kz2223 hq2244)) j).trans (hz2239 j)
  have kz2270 := hE2246.arr kz2225
  have hz2269 : ∀ j, V2249 o1980 j = .int 0 := fun j => (congrFun (hV2248 _ (K_old kz2225 hq2244)) j).trans (hz2240 j)
  have kz2272 := hE2246.arr kz2227
  have hz2271 : ∀ j, V2249 o2063 j = .int 0 := fun j => (congrFun (hV2248 _ (K_old kz2227 hq2244)) j).trans (hz2241 j)
  have hz2273 : ∀ j, V2249 o2242 j = .int 0 := hz2250
  have h2274 := KE.nw (KE.new (KE.new (KE.new (KE.new (KE.new (KE.new (KE.new (KE.new (KE.new (KE.new (KE.new (KE.new (KE.new (KE.new (KE.new (KE.new (KE.new (KE.new (KE.new (KE.new (KE.new (KE.new (KE.new (KE.new (KE.new (KE.new (KE.new (KE.new (KE.new (KE.new (KE.new (KE.new (KE.new (KE.new (KE.new (KE.new (KE.new (KE.new (KE.new (KE.new (KE.new (KE.new (KE.new (KE.new (KE.new (KE.new (KE.new (KE.new (KE.new (KE.new (KE.new (KE.new (KE.new (KE.new (KE.new (KE.new (KE.new (KE.new (KE.new (KE.new (KE.new (KE.new (KE.new (KE.new (KE.new (KE.new (KE.new (KE.new (KE.new (KE.new (KE.new (KE.new (KE.new (KE.new KE.rf hq10 hK11) hq25 hK26) hq40 hK41) hq55 hK56) hq70 hK71) hq85 hK86) hq100 hK101) hq115 hK116) hq130 hK131) hq145 hK146) hq160 hK161) hq175 hK176) hq190 hK191) hq207 hK208) hq227 hK228) hq250 hK251) hq276 hK277) hq305 hK306) hq335 hK336) hq365 hK366) hq395 hK396) hq425 hK426) hq457 hK458) hq490 hK491) hq523 hK524) hq556 hK557) hq589 hK590) hq622 hK623) hq655 hK656) hq688 hK689) hq721 hK722) hq754 hK755) hq787 hK788) hq820 hK821) hq853 hK854) hq886 hK887) hq919 hK920) hq952 hK953) hq985 hK986) hq1018 hK1019) hq1051 hK1052) hq1084 hK1085) hq1117 hK1118) hq1150 hK1151) hq1183 hK1184) hq1216 hK1217) hq1249 hK1250) hq1282 hK1283) hq1315 hK1316) hq1348 hK1349) hq1381 hK1382) hq1414 hK1415) hq1447 hK1448) hq1480 hK1481) hq1513 hK1514) hq1546 hK1547) hq1579 hK1580) hq1612 hK1613) hq1645 hK1646) hq1678 hK1679) hq1711 hK1712) hq1744 hK1745) hq1777 hK1778) hq1810 hK1811) hq1843 hK1844) hq1876 hK1877) hq1909 hK1910) hq1944 hK1945) hq1982 hK1983) hq2023 hK2024) hq2065 hK2066) hq2109 hK2110) hq2154 hK2155) hq2199 hK2200) h2206 hq2244
  clear pf2231 kz2209 hz2232 kz2211 hz2233 kz2213 hz2234 kz2215 hz2235 kz2217 hz2236 kz2219 hz2237 kz2221 hz2238 kz2223 hz2239 kz2225 hz2240 kz2227 hz2241
  refine GO.putRF rfl rfl (by decide +kernel) h2251 fp_raw_fp_RX12_241 rfl rfl dX12_init_636 (fun V2276 e2275 => ?_)
  have pf2277 := PF.put pf2252 e2275 rfl
  have hz2278 : ∀ j, V2276 o188 j = .int 0 := fun j => (uq_ne e2275 (Or.inl (K_ne kz2254 h2251 (by decide)))).trans (hz2253 j)
  have hz2279 : ∀ j, V2276 o205 j = .int 0 := fun j => (uq_ne e2275 (Or.inl (K_ne kz2256 h2251 (by decide)))).trans (hz2255 j)
  have hz2280 : ∀ j, V2276 o225 j = .int 0 := fun j => (uq_ne e2275 (Or.inl (K_ne kz2258 h2251 (by decide)))).trans (hz2257 j)
  have hz2281 : ∀ j, V2276 o248 j = .int 0 := fun j => (uq_ne e2275 (Or.inl (K_ne kz2260 h2251 (by decide)))).trans (hz2259 j)
  have hz2282 : ∀ j, V2276 o274 j = .int 0 := fun j => (uq_ne e2275 (Or.inl (K_ne kz2262 h2251 (by decide)))).trans (hz2261 j)
  have hz2283 : ∀ j, V2276 o423 j = .int 0 := fun j => (uq_ne e2275 (Or.inl (K_ne kz2264 h2251 (by decide)))).trans (hz2263 j)
  have hz2284 : ∀ j, V2276 o1907 j = .int 0 := fun j => (uq_ne e2275 (Or.inl (K_ne kz2266 h2251 (by decide)))).trans (hz2265 j)
  have hz2285 : ∀ j, V2276 o1942 j = .int 0 := fun j => (uq_ne e2275 (Or.inl (K_ne kz2268 h2251 (by decide)))).trans (hz2267 j)
  have hz2286 : ∀ j, V2276 o1980 j = .int 0 := fun j => (uq_ne e2275 (Or.inl (K_ne kz2270 h2251 (by decide)))).trans (hz2269 j)
  have hz2287 : ∀ j, V2276 o2063 j = .int 0 := fun j => (uq_ne e2275 (Or.inl (K_ne kz2272 h2251 (by decide)))).trans (hz2271 j)
  have hz2288 : ∀ j, V2276 o2242 j = .int 0 := fun j => (uq_ne e2275 (Or.inl (K_ne h2247 h2251 (by decide)))).trans (hz2273 j)
  clear pf2252 hz2253 hz2255 hz2257 hz2259 hz2261 hz2263 hz2265 hz2267 hz2269 hz2271 hz2273
  refine GO.aload_n dX12_init_639 rfl rfl ?_
  refine GO.iconst dX12_init_640 ?_
  refine GO.newT (atype := .int) 84 4 gw_89 rfl rfl (fun _ _ h => h) rfl rfl rfl (Or.inr rfl) (fun _ => okv_df rfl rfl rfl) rfl rfl dX12_init_641 (fun o2289 K2290 V2296 hq2291 hK2292 hE2293 h2294 hz2297 hV2295 => ?_)
  have h2298 := (by rw [hK2292, updK_ne (K_old h2251 hq2291)]; exact h2251 : K2290 x = some (0, 23))
  have pf2299 := PF.nw pf2277 hV2295 (K_old h2251 hq2291)
  have kz2301 := hE2293.arr kz2254
  have hz2300 : ∀ j, V2296 o188 j = .int 0 := fun j => (congrFun (hV2295 _ (K_old kz2254 hq2291)) j).trans (hz2278 j)
  have kz2303 := hE2293.arr kz2256
  have hz2302 : ∀ j, V2296 o205 j = .int 0 := fun j => (congrFun (hV2295 _ (K_old kz2256 hq2291)) j).trans (hz2279 j)
  have kz2305 := hE2293.arr kz2258
  have hz2304 : ∀ j, V2296 o225 j = .int 0 := fun j => (congrFun (hV2295 _ (K_old kz2258 hq2291)) j).trans (hz2280 j)
  have kz2307 := hE2293.arr kz2260
  have hz2306 : ∀ j, V2296 o248 j = .int 0 := fun j => (congrFun (hV2295 _ (K_old kz2260 hq2291)) j).trans (hz2281 j)
  have kz2309 := hE2293.arr kz2262
  have hz2308 : ∀ j, V2296 o274 j = .int 0 := fun j => (congrFun (hV2295 _ (K_old kz2262 hq2291)) j).trans (hz2282 j)
  have kz2311 := hE2293.arr kz2264
  have hz2310 : ∀ j, V2296 o423 j = .int 0 := fun j => (congrFun (hV2295 _ (K_old kz2264 hq2291)) j).trans (hz2283 j)
  have kz2313 := hE2293.arr kz2266
  have hz2312 : ∀ j, V2296 o1907 j = .int 0 := fun j => (congrFun (hV2295 _ (K_old kz2266 hq2291)) j).trans (hz2284 j)
  have kz2315 := hE2293.arr kz2268
  have hz2314 : ∀ j, V2296 o1942 j = .int 0 := fun j => (congrFun (hV2295 _ (K_old kz2268 hq2291)) j).trans (hz2285 j)
  have kz2317 := hE2293.arr kz2270
  have hz2316 : ∀ j, V2296 o1980 j = .int 0 := fun j => (congrFun (hV2295 _ (K_old kz2270 hq2291)) j).trans (hz2286 j)
  have kz2319 := hE2293.arr kz2272
  have hz2318 : ∀ j, V2296 o2063 j = .int 0 := fun j => (congrFun (hV2295 _ (K_old kz2272 hq2291)) j).trans (hz2287 j)
  have kz2321 := hE2293.arr h2247
  have hz2320 : ∀ j, V2296 o2242 j = .int 0 := fun j => (congrFun (hV2295 _ (K_old h2247 hq2291)) j).trans (hz2288 j)
  have h2322 := KE.nw (KE.new (KE.new (KE.new (KE.new (KE.new (KE.new (KE.new (KE.new (KE.new (KE.new (KE.new (KE.new (KE.new (KE.new (KE.new (KE.new (KE.new (KE.new (KE.new (KE.new (KE.new (KE.new (KE.new (KE.new (KE.new (KE.new (KE.new (KE.new (KE.new (KE.new (KE.new (KE.new (KE.new (KE.new (KE.new (KE.new (KE.new (KE.new (KE.new (KE.new (KE.new (KE.new (KE.new (KE.new (KE.new (KE.new (KE.new (KE.new (KE.new (KE.new (KE.new (KE.new (KE.new (KE.new (KE.new (KE.new (KE.new (KE.new (KE.new (KE.new (KE.new (KE.new (KE.new (KE.new (KE.new (KE.new (KE.new (KE.new (KE.new (KE.new (KE.new (KE.new (KE.new (KE.new (KE.new KE.rf hq10 hK11) hq25 hK26) hq40 hK41) hq55 hK56) hq70 hK71) hq85 hK86) hq100 hK101) hq115 hK116) hq130 hK131) hq145 hK146) hq160 hK161) hq175 hK176) hq190 hK191) hq207 hK208) hq227 hK228) hq250 hK251) hq276 hK277) hq305 hK306) hq335 hK336) hq365 hK366) hq395 hK396) hq425 hK426) hq457 hK458) hq490 hK491) hq523 hK524) hq556 hK557) hq589 hK590) hq622 hK623) hq655 hK656) hq688 hK689) hq721 hK722) hq754 hK755) hq787 hK788) hq820 hK821) hq853 hK854) hq886 hK887) hq919 hK920) hq952 hK953) hq985 hK986) hq1018 hK1019) hq1051 hK1052) hq1084 hK1085) hq1117 hK1118) hq1150 hK1151) hq1183 hK1184) hq1216 hK1217) hq1249 hK1250) hq1282 hK1283) hq1315 hK1316) hq1348 hK1349) hq1381 hK1382) hq1414 hK1415) hq1447 hK1448) hq1480 hK1481) hq1513 hK1514) hq1546 hK1547) hq1579 hK1580) hq1612 hK1613) hq1645 hK1646) hq1678 hK1679) hq1711 hK1712) hq1744 hK1745) hq1777 hK1778) hq1810 hK1811) hq1843 hK1844) hq1876 hK1877) hq1909 hK1910) hq1944 hK1945) hq1982 hK1983) hq2023 hK2024) hq2065 hK2066) hq2109 hK2110) hq2154 hK2155) hq2199 hK2200) hq2244 hK2245) h2251 hq2291
  clear pf2277 kz2254 hz2278 kz2256 hz2279 kz2258 hz2280 kz2260 hz2281 kz2262 hz2282 kz2264 hz2283 kz2266 hz2284 kz2268 hz2285 kz2270 hz2286 kz2272 hz2287 hz2288
  refine GO.putRF rfl rfl (by decide +kernel) h2298 fp_raw_fp_RX12_244 rfl rfl dX12_init_643 (fun V2324 e2323 => ?_)
  have pf2325 := PF.put pf2299 e2323 rfl
  have hz2326 : ∀ j, V2324 o188 j = .int 0 := fun j => (uq_ne e2323 (Or.inl (K_ne kz2301 h2298 (by decide)))).trans (hz2300 j)
  have hz2327 : ∀ j, V2324 o205 j = .int 0 := fun j => (uq_ne e2323 (Or.inl (K_ne kz2303 h2298 (by decide)))).trans (hz2302 j)
  have hz2328 : ∀ j, V2324 o225 j = .int 0 := fun j => (uq_ne e2323 (Or.inl (K_ne kz2305 h2298 (by decide)))).trans (hz2304 j)
  have hz2329 : ∀ j, V2324 o248 j = .int 0 := fun j => (uq_ne e2323 (Or.inl (K_ne kz2307 h2298 (by decide)))).trans (hz2306 j)
  have hz2330 : ∀ j, V2324 o274 j = .int 0 := fun j => (uq_ne e2323 (Or.inl (K_ne kz2309 h2298 (by decide)))).trans (hz2308 j)
  have hz2331 : ∀ j, V2324 o423 j = .int 0 := fun j => (uq_ne e2323 (Or.inl (K_ne kz2311 h2298 (by decide)))).trans (hz2310 j)
  have hz2332 : ∀ j, V2324 o1907 j = .int 0 := fun j => (uq_ne e2323 (Or.inl (K_ne kz2313 h2298 (by decide)))).trans (hz2312 j)
  have hz2333 : ∀ j, V2324 o1942 j = .int 0 := fun j => (uq_ne e2323 (Or.inl (K_ne kz2315 h2298 (by decide)))).trans (hz2314 j)
  have hz2334 : ∀ j, V2324 o1980 j = .int 0 := fun j => (uq_ne e2323 (Or.inl (K_ne kz2317 h2298 (by decide)))).trans (hz2316 j)
  have hz2335 : ∀ j, V2324 o2063 j = .int 0 := fun j => (uq_ne e2323 (Or.inl (K_ne kz2319 h2298 (by decide)))).trans (hz2318 j)
  have hz2336 : ∀ j, V2324 o2242 j = .int 0 := fun j => (uq_ne e2323 (Or.inl (K_ne kz2321 h2298 (by decide)))).trans (hz2320 j)
  clear pf2299 hz2300 hz2302 hz2304 hz2306 hz2308 hz2310 hz2312 hz2314 hz2316 hz2318 hz2320
  refine GO.aload_n dX12_init_646 rfl rfl ?_
  refine GO.bipush dX12_init_647 rfl ?_
  refine GO.newT (atype := .int) 85 40 gw_89 rfl rfl (fun _ _ h => h) rfl rfl rfl (Or.inr rfl) (fun _ => okv_df rfl rfl rfl) rfl rfl dX12_init_649 (fun o2337 K2338 V2344 hq2339 hK2340 hE2341 h2342 hz2345 hV2343 => ?_)
  have h2346 := (by rw [hK2340, updK_ne (K_old h2298 hq2339)]; exact h2298 : K2338 x = some (0, 23))
  have pf2347 := PF.nw pf2325 hV2343 (K_old h2298 hq2339)
  have kz2349 := hE2341.arr kz2301
  have hz2348 : ∀ j, V2344 o188 j = .int 0 := fun j => (congrFun (hV2343 _ (K_old kz2301 hq2339)) j).trans (hz2326 j)
  have kz2351 := hE2341.arr kz2303
  have hz2350 : ∀ j, V2344 o205 j = .int 0 := fun j => (congrFun (hV2343 _ (K_old kz2303 hq2339)) j).trans (hz2327 j)
  have kz2353 := hE2341.arr kz2305
  have hz2352 : ∀ j, V2344 o225 j = .int 0 := fun j => (congrFun (hV2343 _ (K_old kz2305 hq2339)) j).trans (hz2328 j)
  have kz2355 := hE2341.arr kz2307
  have hz2354 : ∀ j, V2344 o248 j = .int 0 := fun j => (congrFun (hV2343 _ (K_old kz2307 hq2339)) j).trans (hz2329 j)
  have kz2357 := hE2341.arr kz2309
  have hz2356 : ∀ j, V2344 o274 j = .int 0 := fun j => (congrFun (hV2343 _ (K_old kz2309 hq2339)) j).trans (hz2330 j)
  have kz2359 := hE2341.arr kz2311
  have hz2358 : ∀ j, V2344 o423 j = .int 0 := fun j => (congrFun (hV2343 _ (K_old kz2311 hq2339)) j).trans (hz2331 j)
  have kz2361 := hE2341.arr kz2313
  have hz2360 : ∀ j, V2344 o1907 j = .int 0 := fun j => (congrFun (hV2343 _ (K_old kz2313 hq2339)) j).trans (hz2332 j)
  have kz2363 := hE2341.arr kz2315
  have hz2362 : ∀ j, V2344 o1942 j = .int 0 := fun j => (congrFun (hV2343 _ (K_old kz2315 hq2339)) j).trans (hz2333 j)
  have kz2365 := hE2341.arr kz2317
  have hz2364 : ∀ j, V2344 o1980 j = .int 0 := fun j => (congrFun (hV2343 _ (K_old kz2317 hq2339)) j).trans (hz2334 j)
  have kz2367 := hE2341.arr kz2319
  have hz2366 : ∀ j, V2344 o2063 j = .int 0 := fun j => (congrFun (hV2343 _ (K_old kz2319 hq2339)) j).trans (hz2335 j)
  have kz2369 := hE2341.arr kz2321
  have hz2368 : ∀ j, V2344 o2242 j = .int 0 := fun j => (congrFun (hV2343 _ (K_old kz2321 hq2339)) j).trans (hz2336 j)
  have h2370 := KE.nw (KE.new (KE.new (KE.new (KE.new (KE.new (KE.new (KE.new (KE.new (KE.new (KE.new (KE.new (KE.new (KE.new (KE.new (KE.new (KE.new (KE.new (KE.new (KE.new (KE.new (KE.new (KE.new (KE.new (KE.new (KE.new (KE.new (KE.new (KE.new (KE.new (KE.new (KE.new (KE.new (KE.new (KE.new (KE.new (KE.new (KE.new (KE.new (KE.new (KE.new (KE.new (KE.new (KE.new (KE.new (KE.new (KE.new (KE.new (KE.new (KE.new (KE.new (KE.new (KE.new (KE.new (KE.new (KE.new (KE.new (KE.new (KE.new (KE.new (KE.new (KE.new (KE.new (KE.new (KE.new (KE.new (KE.new (KE.new (KE.new (KE.new (KE.new (KE.new (KE.new (KE.new (KE.new (KE.new (KE.new KE.rf hq10 hK11) hq25 hK26) hq40 hK41) hq55 hK56) hq70 hK71) hq85 hK86) hq100 hK101) hq115 hK116) hq130 hK131) hq145 hK146) hq160 hK161) hq175 hK176) hq190 hK191) hq207 hK208) hq227 hK228) hq250 hK251) hq276 hK277) hq305 hK306) hq335 hK336) hq365 hK366) hq395 hK396) hq425 hK426) hq457 hK458) hq490 hK491) hq523 hK524) hq556 hK557) hq589 hK590) hq622 hK623) hq655 hK656) hq688 hK689) hq721 hK722) hq754 hK755) hq787 hK788) hq820 hK821) hq853 hK854) hq886 hK887) hq919 hK920) hq952 hK953) hq985 hK986) hq1018 hK1019) hq1051 hK1052) hq1084 hK1085) hq1117 hK1118) hq1150 hK1151) hq1183 hK1184) hq1216 hK1217) hq1249 hK1250) hq1282 hK1283) hq1315 hK1316) hq1348 hK1349) hq1381 hK1382) hq1414 hK1415) hq1447 hK1448) hq1480 hK1481) hq1513 hK1514) hq1546 hK1547) hq1579 hK1580) hq1612 hK1613) hq1645 hK1646) hq1678 hK1679) hq1711 hK1712) hq1744 hK1745) hq1777 hK1778) hq1810 hK1811) hq1843 hK1844) hq1876 hK1877) hq1909 hK1910) hq1944 hK1945) hq1982 hK1983) hq2023 hK2024) hq2065 hK2066) hq2109 hK2110) hq2154 hK2155) hq2199 hK2200) hq2244 hK2245) hq2291 hK2292) h2298 hq2339
  clear pf2325 kz2301 hz2326 kz2303 hz2327 kz2305 hz2328 kz2307 hz2329 kz2309 hz2330 kz2311 hz2331 kz2313 hz2332 kz2315 hz2333 kz2317 hz2334 kz2319 hz2335 kz2321 hz2336
  refine GO.putRF rfl rfl (by decide +kernel) h2346 fp_raw_fp_RX12_247 rfl rfl dX12_init_651 (fun V2372 e2371 => ?_)
  have pf2373 := PF.put pf2347 e2371 rfl
  have hz2374 : ∀ j, V2372 o188 j = .int 0 := fun j => (uq_ne e2371 (Or.inl (K_ne kz2349 h2346 (by decide)))).trans (hz2348 j)
  have hz2375 : ∀ j, V2372 o205 j = .int 0 := fun j => (uq_ne e2371 (Or.inl (K_ne kz2351 h2346 (by decide)))).trans (hz2350 j)
  have hz2376 : ∀ j, V2372 o225 j = .int 0 := fun j => (uq_ne e2371 (Or.inl (K_ne kz2353 h2346 (by decide)))).trans (hz2352 j)
  have hz2377 : ∀ j, V2372 o248 j = .int 0 := fun j => (uq_ne e2371 (Or.inl (K_ne kz2355 h2346 (by decide)))).trans (hz2354 j)
  have hz2378 : ∀ j, V2372 o274 j = .int 0 := fun j => (uq_ne e2371 (Or.inl (K_ne kz2357 h2346 (by decide)))).trans (hz2356 j)
  have hz2379 : ∀ j, V2372 o423 j = .int 0 := fun j => (uq_ne e2371 (Or.inl (K_ne kz2359 h2346 (by decide)))).trans (hz2358 j)
  have hz2380 : ∀ j, V2372 o1907 j = .int 0 := fun j => (uq_ne e2371 (Or.inl (K_ne kz2361 h2346 (by decide)))).trans (hz2360 j)
  have hz2381 : ∀ j, V2372 o1942 j = .int 0 := fun j => (uq_ne e2371 (Or.inl (K_ne kz2363 h2346 (by decide)))).trans (hz2362 j)
  have hz2382 : ∀ j, V2372 o1980 j = .int 0 := fun j => (uq_ne e2371 (Or.inl (K_ne kz2365 h2346 (by decide)))).trans (hz2364 j)
  have hz2383 : ∀ j, V2372 o2063 j = .int 0 := fun j => (uq_ne e2371 (Or.inl (K_ne kz2367 h2346 (by decide)))).trans (hz2366 j)
  have hz2384 : ∀ j, V2372 o2242 j = .int 0 := fun j => (uq_ne e2371 (Or.inl (K_ne kz2369 h2346 (by decide)))).trans (hz2368 j)
  clear pf2347 hz2348 hz2350 hz2352 hz2354 hz2356 hz2358 hz2360 hz2362 hz2364 hz2366 hz2368
  refine GO.aload_n dX12_init_654 rfl rfl ?_
  refine GO.bipush dX12_init_655 rfl ?_
  refine GO.newT (atype := .int) 86 40 gw_89 rfl rfl (fun _ _ h => h) rfl rfl rfl (Or.inr rfl) (fun _ => okv_df rfl rfl rfl) rfl rfl dX12_init_657 (fun o2385 K2386 V2392 hq2387 hK2388 hE2389 h2390 hz2393 hV2391 => ?_)
  have h2394 := (by rw [hK2388, updK_ne (K_old h2346 hq2387)]; exact h2346 : K2386 x = some (0, 23))
  have pf2395 := PF.nw pf2373 hV2391 (K_old h2346 hq2387)
  have kz2397 := hE2389.arr kz2349
  have hz2396 : ∀ j, V2392 o188 j = .int 0 := fun j => (congrFun (hV2391 _ (K_old kz2349 hq2387)) j).trans (hz2374 j)
  have kz2399 := hE2389.arr kz2351
  have hz2398 : ∀ j, V2392 o205 j = .int 0 := fun j => (congrFun (hV2391 _ (K_old kz2351 hq2387)) j).trans (hz2375 j)
  have kz2401 := hE2389.arr kz2353
  have hz2400 : ∀ j, V2392 o225 j = .int 0 := fun j => (congrFun (hV2391 _ (K_old kz2353 hq2387)) j).trans (hz2376 j)
  have kz2403 := hE2389.arr kz2355
  have hz2402 : ∀ j, V2392 o248 j = .int 0 := fun j => (congrFun (hV2391 _ (K_old kz2355 hq2387)) j).trans (hz2377 j)
  have kz2405 := hE2389.arr kz2357
  have hz2404 : ∀ j, V2392 o274 j = .int 0 := fun j => (congrFun (hV2391 _ (K_old kz2357 hq2387)) j).trans (hz2378 j)
  have kz2407 := hE2389.arr kz2359
  have hz2406 : ∀ j, V2392 o423 j = .int 0 := fun j => (congrFun (hV2391 _ (K_old kz2359 hq2387)) j).trans (hz2379 j)
  have kz2409 := hE2389.arr kz2361
  have hz2408 : ∀ j, V2392 o1907 j = .int 0 := fun j => (congrFun (hV2391 _ (K_old kz2361 hq2387)) j).trans (hz2380 j)
  have kz2411 := hE2389.arr kz2363
  have hz2410 : ∀ j, V2392 o1942 j = .int 0 := fun j => (congrFun (hV2391 _ (K_old kz2363 hq2387)) j).trans (hz2381 j)
  have kz2413 := hE2389.arr kz2365
  have hz2412 : ∀ j, V2392 o1980 j = .int 0 := fun j => (congrFun (hV2391 _ (K_old kz2365 hq2387)) j).trans (hz2382 j)
  have kz2415 := hE2389.arr kz2367
  have hz2414 : ∀ j, V2392 o2063 j = .int 0 := fun j => (congrFun (hV2391 _ (K_old kz2367 hq2387)) j).trans (hz2383 j)
  have kz2417 := hE2389.arr kz2369
  have hz2416 : ∀ j, V2392 o2242 j = .int 0 := fun j => (congrFun (hV2391 _ (K_old kz2369 hq2387)) j).trans (hz2384 j)
  have h2418 := KE.nw (KE.new (KE.new (KE.new (KE.new (KE.new (KE.new (KE.new (KE.new (KE.new (KE.new (KE.new (KE.new (KE.new (KE.new (KE.new (KE.new (KE.new (KE.new (KE.new (KE.new (KE.new (KE.new (KE.new (KE.new (KE.new (KE.new (KE.new (KE.new (KE.new (KE.new (KE.new (KE.new (KE.new (KE.new (KE.new (KE.new (KE.new (KE.new (KE.new (KE.new (KE.new (KE.new (KE.new (KE.new (KE.new (KE.new (KE.new (KE.new (KE.new (KE.new (KE.new (KE.new (KE.new (KE.new (KE.new (KE.new (KE.new (KE.new (KE.new (KE.new (KE.new (KE.new (KE.new (KE.new (KE.new (KE.new (KE.new (KE.new (KE.new (KE.new (KE.new (KE.new (KE.new (KE.new (KE.new (KE.new (KE.new KE.rf hq10 hK11) hq25 hK26) hq40 hK41) hq55 hK56) hq70 hK71) hq85 hK86) hq100 hK101) hq115 hK116) hq130 hK131) hq145 hK146) hq160 hK161) hq175 hK176) hq190 hK191) hq207 hK208) hq227 hK228) hq250 hK251) hq276 hK277) hq305 hK306) hq335 hK336) hq365 hK366) hq395 hK396) hq425 hK426) hq457 hK458) hq490 hK491) hq523 hK524) hq556 hK557) hq589 hK590) hq622 hK623) hq655 hK656) hq688 hK689) hq721 hK722) hq754 hK755) hq787 hK788) hq820 hK821) hq853 hK854) hq886 hK887) hq919 hK920) hq952 hK953) hq985 hK986) hq1018 hK1019) hq1051 hK1052) hq1084 hK1085) hq1117 hK1118) hq1150 hK1151) hq1183 hK1184) hq1216 hK1217) hq1249 hK1250) hq1282 hK1283) hq1315 hK1316) hq1348 hK1349) hq1381 hK1382) hq1414 hK1415) hq1447 hK1448) hq1480 hK1481) hq1513 hK1514) hq1546 hK1547) hq1579 hK1580) hq1612 hK1613) hq1645 hK1646) hq1678 hK1679) hq1711 hK1712) hq1744 hK1745) hq1777 hK1778) hq1810 hK1811) hq1843 hK1844) hq1876 hK1877) hq1909 hK1910) hq1944 hK1945) hq1982 hK1983) hq2023 hK2024) hq2065 hK2066) hq2109 hK2110) hq2154 hK2155) hq2199 hK2200) hq2244 hK2245) hq2291 hK2292) hq2339 hK2340) h2346 hq2387
  clear pf2373 kz2349 hz2374 kz2351 hz2375 kz2353 hz2376 kz2355 hz2377 kz2357 hz2378 kz2359 hz2379 kz2361 hz2380 kz2363 hz2381 kz2365 hz2382 kz2367 hz2383 kz2369 hz2384
  refine GO.putRF rfl rfl (by decide +kernel) h2394 fp_raw_fp_RX12_250 rfl rfl dX12_init_659 (fun V2420 e2419 => ?_)
  have pf2421 := PF.put pf2395 e2419 rfl
  have hz2422 : ∀ j, V2420 o188 j = .int 0 := fun j => (uq_ne e2419 (Or.inl (K_ne kz2397 h2394 (by decide)))).trans (hz2396 j)
  have hz2423 : ∀ j, V2420 o205 j = .int 0 := fun j => (uq_ne e2419 (Or.inl (K_ne kz2399 h2394 (by decide)))).trans (hz2398 j)
  have hz2424 : ∀ j, V2420 o225 j = .int 0 := fun j => (uq_ne e2419 (Or.inl (K_ne kz2401 h2394 (by decide)))).trans (hz2400 j)
  have hz2425 : ∀ j, V2420 o248 j = .int 0 := fun j => (uq_ne e2419 (Or.inl (K_ne kz2403 h2394 (by decide)))).trans (hz2402 j)
  have hz2426 : ∀ j, V2420 o274 j = .int 0 := fun j => (uq_ne e2419 (Or.inl (K_ne kz2405 h2394 (by decide)))).trans (hz2404 j)
  have hz2427 : ∀ j, V2420 o423 j = .int 0 := fun j => (uq_ne e2419 (Or.inl (K_ne kz2407 h2394 (by decide)))).trans (hz2406 j)
  have hz2428 : ∀ j, V2420 o1907 j = .int 0 := fun j => (uq_ne e2419 (Or.inl (K_ne kz2409 h2394 (by decide)))).trans (hz2408 j)
  have hz2429 : ∀ j, V2420 o1942 j = .int 0 := fun j => (uq_ne e2419 (Or.inl (K_ne kz2411 h2394 (by decide)))).trans (hz2410 j)
  have hz2430 : ∀ j, V2420 o1980 j = .int 0 := fun j => (uq_ne e2419 (Or.inl (K_ne kz2413 h2394 (by decide)))).trans (hz2412 j)
  have hz2431 : ∀ j, V2420 o2063 j = .int 0 := fun j => (uq_ne e2419 (Or.inl (K_ne kz2415 h2394 (by decide)))).trans (hz2414 j)
  have hz2432 : ∀ j, V2420 o2242 j = .int 0 := fun j => (uq_ne e2419 (Or.inl (K_ne kz2417 h2394 (by decide)))).trans (hz2416 j)
  clear pf2395 hz2396 hz2398 hz2400 hz2402 hz2404 hz2406 hz2408 hz2410 hz2412 hz2414 hz2416
  refine GO.aload_n dX12_init_662 rfl rfl ?_
  refine GO.bipush dX12_init_663 rfl ?_
  refine GO.newT (atype := .int) 87 40 gw_89 rfl rfl (fun _ _ h => h) rfl rfl rfl (Or.inr rfl) (fun _ => okv_df rfl rfl rfl) rfl rfl dX12_init_665 (fun o2433 K2434 V2440 hq2435 hK2436 hE2437 h2438 hz2441 hV2439 => ?_)
  have h2442 := (by rw [hK2436, updK_ne (K_old h2394 hq2435)]; exact h2394 : K2434 x = some (0, 23))
  have pf2443 := PF.nw pf2421 hV2439 (K_old h2394 hq2435)
  have kz2445 := hE2437.arr kz2397
  have hz2444 : ∀ j, V2440 o188 j = .int 0 := fun j => (congrFun (hV2439 _ (K_old kz2397 hq2435)) j).trans (hz2422 j)
  have kz2447 := hE2437.arr kz2399
  have hz2446 : ∀ j, V2440 o205 j = .int 0 := fun j => (congrFun (hV2439 _ (K_old kz2399 hq2435)) j).trans (hz2423 j)
  have kz2449 := hE2437.arr kz2401
  have hz2448 : ∀ j, V2440 o225 j = .int 0 := fun j => (congrFun (hV2439 _ (K_old kz2401 hq2435)) j).trans (hz2424 j)
  have kz2451 := hE2437.arr kz2403
  have hz2450 : ∀ j, V2440 o248 j = .int 0 := fun j => (congrFun (hV2439 _ (K_old kz2403 hq2435)) j).trans (hz2425 j)
  have kz2453 := hE2437.arr kz2405
  have hz2452 : ∀ j, V2440 o274 j = .int 0 := fun j => (congrFun (hV2439 _ (K_old kz2405 hq2435)) j).trans (hz2426 j)
  have kz2455 := hE2437.arr kz2407
  have hz2454 : ∀ j, V2440 o423 j = .int 0 := fun j => (congrFun (hV2439 _ (K_old kz2407 hq2435)) j).trans (hz2427 j)
  have kz2457 := hE2437.arr kz2409
  have hz2456 : ∀ j, V2440 o1907 j = .int 0 := fun j => (congrFun (hV2439 _ (K_old kz2409 hq2435)) j).trans (hz2428 j)
  have kz2459 := hE2437.arr kz2411
  have hz2458 : ∀ j, V2440 o1942 j = .int 0 := fun j => (congrFun (hV2439 _ (K_old kz2411 hq2435)) j).trans (hz2429 j)
  have kz2461 := hE2437.arr kz2413
  have hz2460 : ∀ j, V2440 o1980 j = .int 0 := fun j => (congrFun (hV2439 _ (K_old kz2413 hq2435)) j).trans (hz2430 j)
  have kz2463 := hE2437.arr kz2415
  have hz2462 : ∀ j, V2440 o2063 j = .int 0 := fun j => (congrFun (hV2439 _ (K_old kz2415 hq2435)) j).trans (hz2431 j)
  have kz2465 := hE2437.arr kz2417
  have hz2464 : ∀ j, V2440 o2242 j = .int 0 := fun j => (congrFun (hV2439 _ (K_old kz2417 hq2435)) j).trans (hz2432 j)
  have h2466 := KE.nw (KE.new (KE.new (KE.new (KE.new (KE.new (KE.new (KE.new (KE.new (KE.new (KE.new (KE.new (KE.new (KE.new (KE.new (KE.new (KE.new (KE.new (KE.new (KE.new (KE.new (KE.new (KE.new (KE.new (KE.new (KE.new (KE.new (KE.new (KE.new (KE.new (KE.new (KE.new (KE.new (KE.new (KE.new (KE.new (KE.new (KE.new (KE.new (KE.new (KE.new (KE.new (KE.new (KE.new (KE.new (KE.new (KE.new (KE.new (KE.new (KE.new (KE.new (KE.new (KE.new (KE.new (KE.new (KE.new (KE.new (KE.new (KE.new (KE.new (KE.new (KE.new (KE.new (KE.new (KE.new (KE.new (KE.new (KE.new (KE.new (KE.new (KE.new (KE.new (KE.new (KE.new (KE.new (KE.new (KE.new (KE.new (KE.new KE.rf hq10 hK11) hq25 hK26) hq40 hK41) hq55 hK56) hq70 hK71) hq85 hK86) hq100 hK101) hq115 hK116) hq130 hK131) hq145 hK146) hq160 hK161) hq175 hK176) hq190 hK191) hq207 hK208) hq227 hK228) hq250 hK251) hq276 hK277) hq305 hK306) hq335 hK336) hq365 hK366) hq395 hK396) hq425 hK426) hq457 hK458) hq490 hK491) hq523 hK524) hq556 hK557) hq589 hK590) hq622 hK623) hq655 hK656) hq688 hK689) hq721 hK722) hq754 hK755) hq787 hK788) hq820 hK821) hq853 hK854) hq886 hK887) hq919 hK920) hq952 hK953) hq985 hK986) hq1018 hK1019) hq1051 hK1052) hq1084 hK1085) hq1117 hK1118) hq1150 hK1151) hq1183 hK1184) hq1216 hK1217) hq1249 hK1250) hq1282 hK1283) hq1315 hK1316) hq1348 hK1349) hq1381 hK1382) hq1414 hK1415) hq1447 hK1448) hq1480 hK1481) hq1513 hK1514) hq1546 hK1547) hq1579 hK1580) hq1612 hK1613) hq1645 hK1646) hq1678 hK1679) hq1711 hK1712) hq1744 hK1745) hq1777 hK1778) hq1810 hK1811) hq1843 hK1844) hq1876 hK1877) hq1909 hK1910) hq1944 hK1945) hq1982 hK1983) hq2023 hK2024) hq2065 hK2066) hq2109 hK2110) hq2154 hK2155) hq2199 hK2200) hq2244 hK2245) hq2291 hK2292) hq2339 hK2340) hq2387 hK2388) h2394 hq2435
  clear pf2421 kz2397 hz2422 kz2399 hz2423 kz2401 hz2424 kz2403 hz2425 kz2405 hz2426 kz2407 hz2427 kz2409 hz2428 kz2411 hz2429 kz2413 hz2430 kz2415 hz2431 kz2417 hz2432
  refine GO.putRF rfl rfl (by decide +kernel) h2442 fp_raw_fp_RX12_253 rfl rfl dX12_init_667 (fun V2468 e2467 => ?_)
  have pf2469 := PF.put pf2443 e2467 rfl
  have hz2470 : ∀ j, V2468 o188 j = .int 0 := fun j => (uq_ne e2467 (Or.inl (K_ne kz2445 h2442 (by decide)))).trans (hz2444 j)
  have hz2471 : ∀ j, V2468 o205 j = .int 0 := fun j => (uq_ne e2467 (Or.inl (K_ne kz2447 h2442 (by decide)))).trans (hz2446 j)
  have hz2472 : ∀ j, V2468 o225 j = .int 0 := fun j => (uq_ne e2467 (Or.inl (K_ne kz2449 h2442 (by decide)))).trans (hz2448 j)
  have hz2473 : ∀ j, V2468 o248 j = .int 0 := fun j => (uq_ne e2467 (Or.inl (K_ne kz2451 h2442 (by decide)))).trans (hz2450 j)
  have hz2474 : ∀ j, V2468 o274 j = .int 0 := fun j => (uq_ne e2467 (Or.inl (K_ne kz2453 h2442 (by decide)))).trans (hz2452 j)
  have hz2475 : ∀ j, V2468 o423 j = .int 0 := fun j => (uq_ne e2467 (Or.inl (K_ne kz2455 h2442 (by decide)))).trans (hz2454 j)
  have hz2476 : ∀ j, V2468 o1907 j = .int 0 := fun j => (uq_ne e2467 (Or.inl (K_ne kz2457 h2442 (by decide)))).trans (hz2456 j)
  have hz2477 : ∀ j, V2468 o1942 j = .int 0 := fun j => (uq_ne e2467 (Or.inl (K_ne kz2459 h2442 (by decide)))).trans (hz2458 j)
  have hz2478 : ∀ j, V2468 o1980 j = .int 0 := fun j => (uq_ne e2467 (Or.inl (K_ne kz2461 h2442 (by decide)))).trans (hz2460 j)
  have hz2479 : ∀ j, V2468 o2063 j = .int 0 := fun j => (uq_ne e2467 (Or.inl (K_ne kz2463 h2442 (by decide)))).trans (hz2462 j)
  have hz2480 : ∀ j, V2468 o2242 j = .int 0 := fun j => (uq_ne e2467 (Or.inl (K_ne kz2465 h2442 (by decide)))).trans (hz2464 j)
  clear pf2443 hz2444 hz2446 hz2448 hz2450 hz2452 hz2454 hz2456 hz2458 hz2460 hz2462 hz2464
  refine GO.aload_n dX12_init_670 rfl rfl ?_
  refine GO.bipush dX12_init_671 rfl ?_
  refine GO.newT (atype := .int) 88 40 gw_89 rfl rfl (fun _ _ h => h) rfl rfl rfl (Or.inr rfl) (fun _ => okv_df rfl rfl rfl) rfl rfl dX12_init_673 (fun o2481 K2482 V2488 hq2483 hK2484 hE2485 h2486 hz2489 hV2487 => ?_)
  have h2490 := (by rw [hK2484, updK_ne (K_old h2442 hq2483)]; exact h2442 : K2482 x = some (0, 23))
  have pf2491 := PF.nw pf2469 hV2487 (K_old h2442 hq2483)
  have kz2493 := hE2485.arr kz2445
  have hz2492 : ∀ j, V2488 o188 j = .int 0 := fun j => (congrFun (hV2487 _ (K_old kz2445 hq2483)) j).trans (hz2470 j)
  have kz2495 := hE2485.arr kz2447
  have hz2494 : ∀ j, V2488 o205 j = .int 0 := fun j => (congrFun (hV2487 _ (K_old kz2447 hq2483)) j).trans (hz2471 j)
  have kz2497 := hE2485.arr kz2449
  have hz2496 : ∀ j, V2488 o225 j = .int 0 := fun j => (congrFun (hV2487 _ (K_old kz2449 hq2483)) j).trans (hz2472 j)
  have kz2499 := hE2485.arr kz2451
  have hz2498 : ∀ j, V2488 o248 j = .int 0 := fun j => (congrFun (hV2487 _ (K_old kz2451 hq2483)) j).trans (hz2473 j)
  have kz2501 := hE2485.arr kz2453
  have hz2500 : ∀ j, V2488 o274 j = .int 0 := fun j => (congrFun (hV2487 _ (K_old kz2453 hq2483)) j).trans (hz2474 j)
  have kz2503 := hE2485.arr kz2455
  have hz2502 : ∀ j, V2488 o423 j = .int 0 := fun j => (congrFun (hV2487 _ (K_old kz2455 hq2483)) j).trans (hz2475 j)
  have kz2505 := hE2485.arr kz2457
  have hz2504 : ∀ j, V2488 o1907 j = .int 0 := fun j => (congrFun (hV2487 _ (K_old kz2457 hq2483)) j).trans (hz2476 j)
  have kz2507 := hE2485.arr kz2459
  have hz2506 : ∀ j, V2488 o1942 j = .int 0 := fun j => (congrFun (hV2487 _ (K_old kz2459 hq2483)) j).trans (hz2477 j)
  have kz2509 := hE2485.arr kz2461
  have hz2508 : ∀ j, V2488 o1980 j = .int 0 := fun j => (congrFun (hV2487 _ (K_old kz2461 hq2483)) j).trans (hz2478 j)
  have kz2511 := hE2485.arr kz2463
  have hz2510 : ∀ j, V2488 o2063 j = .int 0 := fun j => (congrFun (hV2487 _ (K_old kz2463 hq2483)) j).trans (hz2479 j)
  have kz2513 := hE2485.arr kz2465
  have hz2512 : ∀ j, V2488 o2242 j = .int 0 := fun j => (congrFun (hV2487 _ (K_old kz2465 hq2483)) j).trans (hz2480 j)
  have h2514 := KE.nw (KE.new (KE.new (KE.new (KE.new (KE.new (KE.new (KE.new (KE.new (KE.new (KE.new (KE.new (KE.new (KE.new (KE.new (KE.new (KE.new (KE.new (KE.new (KE.new (KE.new (KE.new (KE.new (KE.new (KE.new (KE.new (KE.new (KE.new (KE.new (KE.new (KE.new (KE.new (KE.new (KE.new (KE.new (KE.new (KE.new (KE.new (KE.new (KE.new (KE.new (KE.new (KE.new (KE.new (KE.new (KE.new (KE.new (KE.new (KE.new (KE.new (KE.new (KE.new (KE.new (KE.new (KE.new (KE.new (KE.new (KE.new (KE.new (KE.new (KE.new (KE.new (KE.new (KE.new (KE.new (KE.new (KE.new (KE.new (KE.new (KE.new (KE.new (KE.new (KE.new (KE.new (KE.new (KE.new (KE.new (KE.new (KE.new (KE.new KE.rf hq10 hK11) hq25 hK26) hq40 hK41) hq55 hK56) hq70 hK71) hq85 hK86) hq100 hK101) hq115 hK116) hq130 hK131) hq145 hK146) hq160 hK161) hq175 hK176) hq190 hK191) hq207 hK208) hq227 hK228) hq250 hK251) hq276 hK277) hq305 hK306) hq335 hK336) hq365 hK366) hq395 hK396) hq425 hK426) hq457 hK458) hq490 hK491) hq523 hK524) hq556 hK557) hq589 hK590) hq622 hK623) hq655 hK656) hq688 hK689) hq721 hK722) hq754 hK755) hq787 hK788) hq820 hK821) hq853 hK854) hq886 hK887) hq919 hK920) hq952 hK953) hq985 hK986) hq1018 hK1019) hq1051 hK1052) hq1084 hK1085) hq1117 hK1118) hq1150 hK1151) hq1183 hK1184) hq1216 hK1217) hq1249 hK1250) hq1282 hK1283) hq1315 hK1316) hq1348 hK1349) hq1381 hK1382) hq1414 hK1415) hq1447 hK1448) hq1480 hK1481) hq1513 hK1514) hq1546 hK1547) hq1579 hK1580) hq1612 hK1613) hq1645 hK1646) hq1678 hK1679) hq1711 hK1712) hq1744 hK1745) hq1777 hK1778) hq1810 hK1811) hq1843 hK1844) hq1876 hK1877) hq1909 hK1910) hq1944 hK1945) hq1982 hK1983) hq2023 hK2024) hq2065 hK2066) hq2109 hK2110) hq2154 hK2155) hq2199 hK2200) hq2244 hK2245) hq2291 hK2292) hq2339 hK2340) hq2387 hK2388) hq2435 hK2436) h2442 hq2483
  clear pf2469 kz2445 hz2470 kz2447 hz2471 kz2449 hz2472 kz2451 hz2473 kz2453 hz2474 kz2455 hz2475 kz2457 hz2476 kz2459 hz2477 kz2461 hz2478 kz2463 hz2479 kz2465 hz2480
  refine GO.putRF rfl rfl (by decide +kernel) h2490 fp_raw_fp_RX12_256 rfl rfl dX12_init_675 (fun V2516 e2515 => ?_)
  have pf2517 := PF.put pf2491 e2515 rfl
  have hz2518 : ∀ j, V2516 o188 j = .int 0 := fun j => (uq_ne e2515 (Or.inl (K_ne kz2493 h2490 (by decide)))).trans (hz2492 j)
  have hz2519 : ∀ j, V2516 o205 j = .int 0 := fun j => (uq_ne e2515 (Or.inl (K_ne kz2495 h2490 (by decide)))).trans (hz2494 j)
  have hz2520 : ∀ j, V2516 o225 j = .int 0 := fun j => (uq_ne e2515 (Or.inl (K_ne kz2497 h2490 (by decide)))).trans (hz2496 j)
  have hz2521 : ∀ j, V2516 o248 j = .int 0 := fun j => (uq_ne e2515 (Or.inl (K_ne kz2499 h2490 (by decide)))).trans (hz2498 j)
  have hz2522 : ∀ j, V2516 o274 j = .int 0 := fun j => (uq_ne e2515 (Or.inl (K_ne kz2501 h2490 (by decide)))).trans (hz2500 j)
  have hz2523 : ∀ j, V2516 o423 j = .int 0 := fun j => (uq_ne e2515 (Or.inl (K_ne kz2503 h2490 (by decide)))).trans (hz2502 j)
  have hz2524 : ∀ j, V2516 o1907 j = .int 0 := fun j => (uq_ne e2515 (Or.inl (K_ne kz2505 h2490 (by decide)))).trans (hz2504 j)
  have hz2525 : ∀ j, V2516 o1942 j = .int 0 := fun j => (uq_ne e2515 (Or.inl (K_ne kz2507 h2490 (by decide)))).trans (hz2506 j)
  have hz2526 : ∀ j, V2516 o1980 j = .int 0 := fun j => (uq_ne e2515 (Or.inl (K_ne kz2509 h2490 (by decide)))).trans (hz2508 j)
  have hz2527 : ∀ j, V2516 o2063 j = .int 0 := fun j => (uq_ne e2515 (Or.inl (K_ne kz2511 h2490 (by decide)))).trans (hz2510 j)
  have hz2528 : ∀ j, V2516 o2242 j = .int 0 := fun j => (uq_ne e2515 (Or.inl (K_ne kz2513 h2490 (by decide)))).trans (hz2512 j)
  clear pf2491 hz2492 hz2494 hz2496 hz2498 hz2500 hz2502 hz2504 hz2506 hz2508 hz2510 hz2512
  refine GO.aload_n dX12_init_678 rfl rfl ?_
  refine GO.bipush dX12_init_679 rfl ?_
  refine GO.newT (atype := .boolean) 89 40 gw_1936 rfl rfl (fun _ _ h => h) rfl rfl rfl (Or.inr rfl) (fun _ => okv_df rfl rfl rfl) rfl rfl dX12_init_681 (fun o2529 K2530 V2536 hq2531 hK2532 hE2533 h2534 hz2537 hV2535 => ?_)
  have h2538 := (by rw [hK2532, updK_ne (K_old h2490 hq2531)]; exact h2490 : K2530 x = some (0, 23))
  have pf2539 := PF.nw pf2517 hV2535 (K_old h2490 hq2531)
  have kz2541 := hE2533.arr kz2493
  have hz2540 : ∀ j, V2536 o188 j = .int 0 := fun j => (congrFun (hV2535 _ (K_old kz2493 hq2531)) j).trans (hz2518 j)
  have kz2543 := hE2533.arr kz2495
  have hz2542 : ∀ j, V2536 o205 j = .int 0 := fun j => (congrFun (hV2535 _ (K_old kz2495 hq2531)) j).trans (hz2519 j)
  have kz2545 := hE2533.arr kz2497
  have hz2544 : ∀ j, V2536 o225 j = .int 0 := fun j => (congrFun (hV2535 _ (K_old kz2497 hq2531)) j).trans (hz2520 j)
  have kz2547 := hE2533.arr kz2499
  have hz2546 : ∀ j, V2536 o248 j = .int 0 := fun j => (congrFun (hV2535 _ (K_old kz2499 hq2531)) j).trans (hz2521 j)
  have kz2549 := hE2533.arr kz2501
  have hz2548 : ∀ j, V2536 o274 j = .int 0 := fun j => (congrFun (hV2535 _ (K_old kz2501 hq2531)) j).trans (hz2522 j)
  have kz2551 := hE2533.arr kz2503
  have hz2550 : ∀ j, V2536 o423 j = .int 0 := fun j => (congrFun (hV2535 _ (K_old kz2503 hq2531)) j).trans (hz2523 j)
  have kz2553 := hE2533.arr kz2505
  have hz2552 : ∀ j, V2536 o1907 j = .int 0 := fun j => (congrFun (hV2535 _ (K_old kz2505 hq2531)) j).trans (hz2524 j)
  have kz2555 := hE2533.arr kz2507
  have hz2554 : ∀ j, V2536 o1942 j = .int 0 := fun j => (congrFun (hV2535 _ (K_old kz2507 hq2531)) j).trans (hz2525 j)
  have kz2557 := hE2533.arr kz2509
  have hz2556 : ∀ j, V2536 o1980 j = .int 0 := fun j => (congrFun (hV2535 _ (K_old kz2509 hq2531)) j).trans (hz2526 j)
  have kz2559 := hE2533.arr kz2511
  have hz2558 : ∀ j, V2536 o2063 j = .int 0 := fun j => (congrFun (hV2535 _ (K_old kz2511 hq2531)) j).trans (hz2527 j)
  have kz2561 := hE2533.arr kz2513
  have hz2560 : ∀ j, V2536 o2242 j = .int 0 := fun j => (congrFun (hV2535 _ (K_old kz2513 hq2531)) j).trans (hz2528 j)
  have h2562 := KE.nw (KE.new (KE.new (KE.new (KE.new (KE.new (KE.new (KE.new (KE.new (KE.new (KE.new (KE.new (KE.new (KE.new (KE.new (KE.new (KE.new (KE.new (KE.new (KE.new (KE.new (KE.new (KE.new (KE.new (KE.new (KE.new (KE.new (KE.new (KE.new (KE.new (KE.new (KE.new (KE.new (KE.new (KE.new (KE.new (KE.new (KE.new (KE.new (KE.new (KE.new (KE.new (KE.new (KE.new (KE.new (KE.new (KE.new (KE.new (KE.new (KE.new (KE.new (KE.new (KE.new (KE.new (KE.new (KE.new (KE.new (KE.new (KE.new (KE.new (KE.new (KE.new (KE.new (KE.new (KE.new (KE.new (KE.new (KE.new (KE.new (KE.new (KE.new (KE.new (KE.new (KE.new (KE.new (KE.new (KE.new (KE.new (KE.new (KE.new (KE.new KE.rf hq10 hK11) hq25 hK26) hq40 hK41) hq55 hK56) hq70 hK71) hq85 hK86) hq100 hK101) hq115 hK116) hq130 hK131) hq145 hK146) hq160 hK161) hq175 hK176) hq190 hK191) hq207 hK208) hq227 hK228) hq250 hK251) hq276 hK277) hq305 hK306) hq335 hK336) hq365 hK366) hq395 hK396) hq425 hK426) hq457 hK458) hq490 hK491) hq523 hK524) hq556 hK557) hq589 hK590) hq622 hK623) hq655 hK656) hq688 hK689) hq721 hK722) hq754 hK755) hq787 hK788) hq820 hK821) hq853 hK854) hq886 hK887) hq919 hK920) hq952 hK953) hq985 hK986) hq1018 hK1019) hq1051 hK1052) hq1084 hK1085) hq1117 hK1118) hq1150 hK1151) hq1183 hK1184) hq1216 hK1217) hq1249 hK1250) hq1282 hK1283) hq1315 hK1316) hq1348 hK1349) hq1381 hK1382) hq1414 hK1415) hq1447 hK1448) hq1480 hK1481) hq1513 hK1514) hq1546 hK1547) hq1579 hK1580) hq1612 hK1613) hq1645 hK1646) hq1678 hK1679) hq1711 hK1712) hq1744 hK1745) hq1777 hK1778) hq1810 hK1811) hq1843 hK1844) hq1876 hK1877) hq1909 hK1910) hq1944 hK1945) hq1982 hK1983) hq2023 hK2024) hq2065 hK2066) hq2109 hK2110) hq2154 hK2155) hq2199 hK2200) hq2244 hK2245) hq2291 hK2292) hq2339 hK2340) hq2387 hK2388) hq2435 hK2436) hq2483 hK2484) h2490 hq2531
  clear pf2517 kz2493 hz2518 kz2495 hz2519 kz2497 hz2520 kz2499 hz2521 kz2501 hz2522 kz2503 hz2523 kz2505 hz2524 kz2507 hz2525 kz2509 hz2526 kz2511 hz2527 kz2513 hz2528
  refine GO.putRF rfl rfl (by decide +kernel) h2538 fp_raw_fp_RX12_259 rfl rfl dX12_init_683 (fun V2564 e2563 => ?_)
  have pf2565 := PF.put pf2539 e2563 rfl
  have hz2566 : ∀ j, V2564 o188 j = .int 0 := fun j => (uq_ne e2563 (Or.inl (K_ne kz2541 h2538 (by decide)))).trans (hz2540 j)
  have hz2567 : ∀ j, V2564 o205 j = .int 0 := fun j => (uq_ne e2563 (Or.inl (K_ne kz2543 h2538 (by decide)))).trans (hz2542 j)
  have hz2568 : ∀ j, V2564 o225 j = .int 0 := fun j => (uq_ne e2563 (Or.inl (K_ne kz2545 h2538 (by decide)))).trans (hz2544 j)
  have hz2569 : ∀ j, V2564 o248 j = .int 0 := fun j => (uq_ne e2563 (Or.inl (K_ne kz2547 h2538 (by decide)))).trans (hz2546 j)
  have hz2570 : ∀ j, V2564 o274 j = .int 0 := fun j => (uq_ne e2563 (Or.inl (K_ne kz2549 h2538 (by decide)))).trans (hz2548 j)
  have hz2571 : ∀ j, V2564 o423 j = .int 0 := fun j => (uq_ne e2563 (Or.inl (K_ne kz2551 h2538 (by decide)))).trans (hz2550 j)
  have hz2572 : ∀ j, V2564 o1907 j = .int 0 := fun j => (uq_ne e2563 (Or.inl (K_ne kz2553 h2538 (by decide)))).trans (hz2552 j)
  have hz2573 : ∀ j, V2564 o1942 j = .int 0 := fun j => (uq_ne e2563 (Or.inl (K_ne kz2555 h2538 (by decide)))).trans (hz2554 j)
  have hz2574 : ∀ j, V2564 o1980 j = .int 0 := fun j => (uq_ne e2563 (Or.inl (K_ne kz2557 h2538 (by decide)))).trans (hz2556 j)
  have hz2575 : ∀ j, V2564 o2063 j = .int 0 := fun j => (uq_ne e2563 (Or.inl (K_ne kz2559 h2538 (by decide)))).trans (hz2558 j)
  have hz2576 : ∀ j, V2564 o2242 j = .int 0 := fun j => (uq_ne e2563 (Or.inl (K_ne kz2561 h2538 (by decide)))).trans (hz2560 j)
  clear pf2539 hz2540 hz2542 hz2544 hz2546 hz2548 hz2550 hz2552 hz2554 hz2556 hz2558 hz2560
  refine GO.aload_n dX12_init_686 rfl rfl ?_
  refine GO.bipush dX12_init_687 rfl ?_
  refine GO.newT (atype := .int) 90 60 gw_89 rfl rfl (fun _ _ h => h) rfl rfl rfl (Or.inr rfl) (fun _ => okv_df rfl rfl rfl) rfl rfl dX12_init_689 (fun o2577 K2578 V2584 hq2579 hK2580 hE2581 h2582 hz2585 hV2583 => ?_)
  have h2586 := (by rw [hK2580, updK_ne (K_old h2538 hq2579)]; exact h2538 : K2578 x = some (0, 23))
  have pf2587 := PF.nw pf2565 hV2583 (K_old h2538 hq2579)
  have kz2589 := hE2581.arr kz2541
  have hz2588 : ∀ j, V2584 o188 j = .int 0 := fun j => (congrFun (hV2583 _ (K_old kz2541 hq2579)) j).trans (hz2566 j)
  have kz2591 := hE2581.arr kz2543
  have hz2590 : ∀ j, V2584 o205 j = .int 0 := fun j => (congrFun (hV2583 _ (K_old kz2543 hq2579)) j).trans (hz2567 j)
  have kz2593 := hE2581.arr kz2545
  have hz2592 : ∀ j, V2584 o225 j = .int 0 := fun j => (congrFun (hV2583 _ (K_old kz2545 hq2579)) j).trans (hz2568 j)
  have kz2595 := hE2581.arr kz2547
  have hz2594 : ∀ j, V2584 o248 j = .int 0 := fun j => (congrFun (hV2583 _ (K_old kz2547 hq2579)) j).trans (hz2569 j)
  have kz2597 := hE2581.arr kz2549
  have hz2596 : ∀ j, V2584 o274 j = .int 0 := fun j => (congrFun (hV2583 _ (K_old kz2549 hq2579)) j).trans (hz2570 j)
  have kz2599 := hE2581.arr kz2551
  have hz2598 : ∀ j, V2584 o423 j = .int 0 := fun j => (congrFun (hV2583 _ (K_old kz2551 hq2579)) j).trans (hz2571 j)
  have kz2601 := hE2581.arr kz2553
  have hz2600 : ∀ j, V2584 o1907 j = .int 0 := fun j => (congrFun (hV2583 _ (K_old kz2553 hq2579)) j).trans (hz2572 j)
  have kz2603 := hE2581.arr kz2555
  have hz2602 : ∀ j, V2584 o1942 j = .int 0 := fun j => (congrFun (hV2583 _ (K_old kz2555 hq2579)) j).trans (hz2573 j)
  have kz2605 := hE2581.arr kz2557
  have hz2604 : ∀ j, V2584 o1980 j = .int 0 := fun j => (congrFun (hV2583 _ (K_old kz2557 hq2579)) j).trans (hz2574 j)
  have kz2607 := hE2581.arr kz2559
  have hz2606 : ∀ j, V2584 o2063 j = .int 0 := fun j => (congrFun (hV2583 _ (K_old kz2559 hq2579)) j).trans (hz2575 j)
  have kz2609 := hE2581.arr kz2561
  have hz2608 : ∀ j, V2584 o2242 j = .int 0 := fun j => (congrFun (hV2583 _ (K_old kz2561 hq2579)) j).trans (hz2576 j)
  have h2610 := KE.nw (KE.new (KE.new (KE.new (KE.new (KE.new (KE.new (KE.new (KE.new (KE.new (KE.new (KE.new (KE.new (KE.new (KE.new (KE.new (KE.new (KE.new (KE.new (KE.new (KE.new (KE.new (KE.new (KE.new (KE.new (KE.new (KE.new (KE.new (KE.new (KE.new (KE.new (KE.new (KE.new (KE.new (KE.new (KE.new (KE.new (KE.new (KE.new (KE.new (KE.new (KE.new (KE.new (KE.new (KE.new (KE.new (KE.new (KE.new (KE.new (KE.new (KE.new (KE.new (KE.new (KE.new (KE.new (KE.new (KE.new (KE.new (KE.new (KE.new (KE.new (KE.new (KE.new (KE.new (KE.new (KE.new (KE.new (KE.new (KE.new (KE.new (KE.new (KE.new (KE.new (KE.new (KE.new (KE.new (KE.new (KE.new (KE.new (KE.new (KE.new (KE.new KE.rf hq10 hK11) hq25 hK26) hq40 hK41) hq55 hK56) hq70 hK71) hq85 hK86) hq100 hK101) hq115 hK116) hq130 hK131) hq145 hK146) hq160 hK161) hq175 hK176) hq190 hK191) hq207 hK208) hq227 hK228) hq250 hK251) hq276 hK277) hq305 hK306) hq335 hK336) hq365 hK366) hq395 hK396) hq425 hK426) hq457 hK458) hq490 hK491) hq523 hK524) hq556 hK557) hq589 hK590) hq622 hK623) hq655 hK656) hq688 hK689) hq721 hK722) hq754 hK755) hq787 hK788) hq820 hK821) hq853 hK854) hq886 hK887) hq919 hK920) hq952 hK953) hq985 hK986) hq1018 hK1019) hq1051 hK1052) hq1084 hK1085) hq1117 hK1118) hq1150 hK1151) hq1183 hK1184) hq1216 hK1217) hq1249 hK1250) hq1282 hK1283) hq1315 hK1316) hq1348 hK1349) hq1381 hK1382) hq1414 hK1415) hq1447 hK1448) hq1480 hK1481) hq1513 hK1514) hq1546 hK1547) hq1579 hK1580) hq1612 hK1613) hq1645 hK1646) hq1678 hK1679) hq1711 hK1712) hq1744 hK1745) hq1777 hK1778) hq1810 hK1811) hq1843 hK1844) hq1876 hK1877) hq1909 hK1910) hq1944 hK1945) hq1982 hK1983) hq2023 hK2024) hq2065 hK2066) hq2109 hK2110) hq2154 hK2155) hq2199 hK2200) hq2244 hK2245) hq2291 hK2292) hq2339 hK2340) hq2387 hK2388) hq2435 hK2436) hq2483 hK2484) hq2531 hK2532) h2538 hq2579
  clear pf2565 kz2541 hz2566 kz2543 hz2567 kz2545 hz2568 kz2547 hz2569 kz2549 hz2570 kz2551 hz2571 kz2553 hz2572 kz2555 hz2573 kz2557 hz2574 kz2559 hz2575 kz2561 hz2576
  refine GO.putRF rfl rfl (by decide +kernel) h2586 fp_raw_fp_RX12_262 rfl rfl dX12_init_691 (fun V2612 e2611 => ?_)
  have pf2613 := PF.put pf2587 e2611 rfl
  have hz2614 : ∀ j, V2612 o188 j = .int 0 := fun j => (uq_ne e2611 (Or.inl (K_ne kz2589 h2586 (by decide)))).trans (hz2588 j)
  have hz2615 : ∀ j, V2612 o205 j = .int 0 := fun j => (uq_ne e2611 (Or.inl (K_ne kz2591 h2586 (by decide)))).trans (hz2590 j)
  have hz2616 : ∀ j, V2612 o225 j = .int 0 := fun j => (uq_ne e2611 (Or.inl (K_ne kz2593 h2586 (by decide)))).trans (hz2592 j)
  have hz2617 : ∀ j, V2612 o248 j = .int 0 := fun j => (uq_ne e2611 (Or.inl (K_ne kz2595 h2586 (by decide)))).trans (hz2594 j)
  have hz2618 : ∀ j, V2612 o274 j = .int 0 := fun j => (uq_ne e2611 (Or.inl (K_ne kz2597 h2586 (by decide)))).trans (hz2596 j)
  have hz2619 : ∀ j, V2612 o423 j = .int 0 := fun j => (uq_ne e2611 (Or.inl (K_ne kz2599 h2586 (by decide)))).trans (hz2598 j)
  have hz2620 : ∀ j, V2612 o1907 j = .int 0 := fun j => (uq_ne e2611 (Or.inl (K_ne kz2601 h2586 (by decide)))).trans (hz2600 j)
  have hz2621 : ∀ j, V2612 o1942 j = .int 0 := fun j => (uq_ne e2611 (Or.inl (K_ne kz2603 h2586 (by decide)))).trans (hz2602 j)
  have hz2622 : ∀ j, V2612 o1980 j = .int 0 := fun j => (uq_ne e2611 (Or.inl (K_ne kz2605 h2586 (by decide)))).trans (hz2604 j)
  have hz2623 : ∀ j, V2612 o2063 j = .int 0 := fun j => (uq_ne e2611 (Or.inl (K_ne kz2607 h2586 (by decide)))).trans (hz2606 j)
  have hz2624 : ∀ j, V2612 o2242 j = .int 0 := fun j => (uq_ne e2611 (Or.inl (K_ne kz2609 h2586 (by decide)))).trans (hz2608 j)
  clear pf2587 hz2588 hz2590 hz2592 hz2594 hz2596 hz2598 hz2600 hz2602 hz2604 hz2606 hz2608
  refine GO.aload_n dX12_init_694 rfl rfl ?_
  refine GO.bipush dX12_init_695 rfl ?_
  refine GO.newT (atype := .int) 91 60 gw_89 rfl rfl (fun _ _ h => h) rfl rfl rfl (Or.inr rfl) (fun _ => okv_df rfl rfl rfl) rfl rfl dX12_init_697 (fun o2625 K2626 V2632 hq2627 hK2628 hE2629 h2630 hz2633 hV2631 => ?_)
  have h2634 := (by rw [hK2628, updK_ne (K_old h2586 hq2627)]; exact h2586 : K2626 x = some (0, 23))
  have pf2635 := PF.nw pf2613 hV2631 (K_old h2586 hq2627)
  have kz2637 := hE2629.arr kz2589
  have hz2636 : ∀ j, V2632 o188 j = .int 0 := fun j => (congrFun (hV2631 _ (K_old kz2589 hq2627)) j).trans (hz2614 j)
  have kz2639 := hE2629.arr kz2591
  have hz2638 : ∀ j, V2632 o205 j = .int 0 := fun j => (congrFun (hV2631 _ (K_old kz2591 hq2627)) j).trans (hz2615 j)
  have kz2641 := hE2629.arr kz2593
  have hz2640 : ∀ j, V2632 o225 j = .int 0 := fun j => (congrFun (hV2631 _ (K_old kz2593 hq2627)) j).trans (hz2616 j)
  have kz2643 := hE2629.arr kz2595
  have hz2642 : ∀ j, V2632 o248 j = .int 0 := fun j => (congrFun (hV2631 _ (K_old kz2595 hq2627)) j).trans (hz2617 j)
  have kz2645 := hE2629.arr kz2597
  have hz2644 : ∀ j, V2632 o274 j = .int 0 := fun j => (congrFun (hV2631 _ (K_old kz2597 hq2627)) j).trans (hz2618 j)
  have kz2647 := hE2629.arr kz2599
  have hz2646 : ∀ j, V2632 o423 j = .int 0 := fun j => (congrFun (hV2631 _ (K_old kz2599 hq2627)) j).trans (hz2619 j)
  have kz2649 := hE2629.arr kz2601
  have hz2648 : ∀ j, V2632 o1907 j = .int 0 := fun j => (congrFun (hV2631 _ (K_old kz2601 hq2627)) j).trans (hz2620 j)
  have kz2651 := hE2629.arr kz2603
  have hz2650 : ∀ j, V2632 o1942 j = .int 0 := fun j => (congrFun (hV2631 _ (K_old kz2603 hq2627)) j).trans (hz2621 j)
  have kz2653 := hE2629.arr kz2605
  have hz2652 : ∀ j, V2632 o1980 j = .int 0 := fun j => (congrFun (hV2631 _ (K_old kz2605 hq2627)) j).trans (hz2622 j)
  have kz2655 := hE2629.arr kz2607
  have hz2654 : ∀ j, V2632 o2063 j = .int 0 := fun j => (congrFun (hV2631 _ (K_old kz2607 hq2627)) j).trans (hz2623 j)
  have kz2657 := hE2629.arr kz2609
  have hz2656 : ∀ j, V2632 o2242 j = .int 0 := fun j => (congrFun (hV2631 _ (K_old kz2609 hq2627)) j).trans (hz2624 j)
  have h2658 := KE.nw (KE.new (KE.new (KE.new (KE.new (KE.new (KE.new (KE.new (KE.new (KE.new (KE.new (KE.new (KE.new (KE.new (KE.new (KE.new (KE.new (KE.new (KE.new (KE.new (KE.new (KE.new (KE.new (KE.new (KE.new (KE.new (KE.new (KE.new (KE.new (KE.new (KE.new (KE.new (KE.new (KE.new (KE.new (KE.new (KE.new (KE.new (KE.new (KE.new (KE.new (KE.new (KE.new (KE.new (KE.new (KE.new (KE.new (KE.new (KE.new (KE.new (KE.new (KE.new (KE.new (KE.new (KE.new (KE.new (KE.new (KE.new (KE.new (KE.new (KE.new (KE.new (KE.new (KE.new (KE.new (KE.new (KE.new (KE.new (KE.new (KE.new (KE.new (KE.new (KE.new (KE.new (KE.new (KE.new (KE.new (KE.new (KE.new (KE.new (KE.new (KE.new (KE.new KE.rf hq10 hK11) hq25 hK26) hq40 hK41) hq55 hK56) hq70 hK71) hq85 hK86) hq100 hK101) hq115 hK116) hq130 hK131) hq145 hK146) hq160 hK161) hq175 hK176) hq190 hK191) hq207 hK208) hq227 hK228) hq250 hK251) hq276 hK277) hq305 hK306) hq335 hK336) hq365 hK366) hq395 hK396) hq425 hK426) hq457 hK458) hq490 hK491) hq523 hK524) hq556 hK557) hq589 hK590) hq622 hK623) hq655 hK656) hq688 hK689) hq721 hK722) hq754 hK755) hq787 hK788) hq820 hK821) hq853 hK854) hq886 hK887) hq919 hK920) hq952 hK953) hq985 hK986) hq1018 hK1019) hq1051 hK1052) hq1084 hK1085) hq1117 hK1118) hq1150 hK1151) hq1183 hK1184) hq1216 hK1217) hq1249 hK1250) hq1282 hK1283) hq1315 hK1316) hq1348 hK1349) hq1381 hK1382) hq1414 hK1415) hq1447 hK1448) hq1480 hK1481) hq1513 hK1514) hq1546 hK1547) hq1579 hK1580) hq1612 hK1613) hq1645 hK1646) hq1678 hK1679) hq1711 hK1712) hq1744 hK1745) hq1777 hK1778) hq1810 hK1811) hq1843 hK1844) hq1876 hK1877) hq1909 hK1910) hq1944 hK1945) hq1982 hK1983) hq2023 hK2024) hq2065 hK2066) hq2109 hK2110) hq2154 hK2155) hq2199 hK2200) hq2244 hK2245) hq2291 hK2292) hq2339 hK2340) hq2387 hK2388) hq2435 hK2436) hq2483 hK2484) hq2531 hK2532) hq2579 hK2580) h2586 hq2627
  clear pf2613 kz2589 hz2614 kz2591 hz2615 kz2593 hz2616 kz2595 hz2617 kz2597 hz2618 kz2599 hz2619 kz2601 hz2620 kz2603 hz2621 kz2605 hz2622 kz2607 hz2623 kz2609 hz2624
  refine GO.putRF rfl rfl (by decide +kernel) h2634 fp_raw_fp_RX12_265 rfl rfl dX12_init_699 (fun V2660 e2659 => ?_)
  have pf2661 := PF.put pf2635 e2659 rfl
  have hz2662 : ∀ j, V2660 o188 j = .int 0 := fun j => (uq_ne e2659 (Or.inl (K_ne kz2637 h2634 (by decide)))).trans (hz2636 j)
  have hz2663 : ∀ j, V2660 o205 j = .int 0 := fun j => (uq_ne e2659 (Or.inl (K_ne kz2639 h2634 (by decide)))).trans (hz2638 j)
  have hz2664 : ∀ j, V2660 o225 j = .int 0 := fun j => (uq_ne e2659 (Or.inl (K_ne kz2641 h2634 (by decide)))).trans (hz2640 j)
  have hz2665 : ∀ j, V2660 o248 j = .int 0 := fun j => (uq_ne e2659 (Or.inl (K_ne kz2643 h2634 (by decide)))).trans (hz2642 j)
  have hz2666 : ∀ j, V2660 o274 j = .int 0 := fun j => (uq_ne e2659 (Or.inl (K_ne kz2645 h2634 (by decide)))).trans (hz2644 j)
  have hz2667 : ∀ j, V2660 o423 j = .int 0 := fun j => (uq_ne e2659 (Or.inl (K_ne kz2647 h2634 (by decide)))).trans (hz2646 j)
  have hz2668 : ∀ j, V2660 o1907 j = .int 0 := fun j => (uq_ne e2659 (Or.inl (K_ne kz2649 h2634 (by decide)))).trans (hz2648 j)
  have hz2669 : ∀ j, V2660 o1942 j = .int 0 := fun j => (uq_ne e2659 (Or.inl (K_ne kz2651 h2634 (by decide)))).trans (hz2650 j)
  have hz2670 : ∀ j, V2660 o1980 j = .int 0 := fun j => (uq_ne e2659 (Or.inl (K_ne kz2653 h2634 (by decide)))).trans (hz2652 j)
  have hz2671 : ∀ j, V2660 o2063 j = .int 0 := fun j => (uq_ne e2659 (Or.inl (K_ne kz2655 h2634 (by decide)))).trans (hz2654 j)
  have hz2672 : ∀ j, V2660 o2242 j = .int 0 := fun j => (uq_ne e2659 (Or.inl (K_ne kz2657 h2634 (by decide)))).trans (hz2656 j)
  clear pf2635 hz2636 hz2638 hz2640 hz2642 hz2644 hz2646 hz2648 hz2650 hz2652 hz2654 hz2656
  refine GO.aload_n dX12_init_702 rfl rfl ?_
  refine GO.bipush dX12_init_703 rfl ?_
  refine GO.newT (atype := .int) 92 60 gw_89 rfl rfl (fun _ _ h => h) rfl rfl rfl (Or.inr rfl) (fun _ => okv_df rfl rfl rfl) rfl rfl dX12_init_705 (fun o2673 K2674 V2680 hq2675 hK2676 hE2677 h2678 hz2681 hV2679 => ?_)
  have h2682 := (by rw [hK2676, updK_ne (K_old h2634 hq2675)]; exact h2634 : K2674 x = some (0, 23))
  have pf2683 := PF.nw pf2661 hV2679 (K_old h2634 hq2675)
  have kz2685 := hE2677.arr kz2637
  have hz2684 : ∀ j, V2680 o188 j = .int 0 := fun j => (congrFun (hV2679 _ (K_old kz2637 hq2675)) j).trans (hz2662 j)
  have kz2687 := hE2677.arr kz2639
  have hz2686 : ∀ j, V2680 o205 j = .int 0 := fun j => (congrFun (hV2679 _ (K_old kz2639 hq2675)) j).trans (hz2663 j)
  have kz2689 := hE2677.arr kz2641
  have hz2688 : ∀ j, V2680 o225 j = .int 0 := fun j => (congrFun (hV2679 _ (K_old kz2641 hq2675)) j).trans (hz2664 j)
  have kz2691 := hE2677.arr kz2643
  have hz2690 : ∀ j, V2680 o248 j = .int 0 := fun j => (congrFun (hV2679 _ (K_old kz2643 hq2675)) j).trans (hz2665 j)
  have kz2693 := hE2677.arr kz2645
  have hz2692 : ∀ j, V2680 o274 j = .int 0 := fun j => (congrFun (hV2679 _ (K_old kz2645 hq2675)) j).trans (hz2666 j)
  have kz2695 := hE2677.arr kz2647
  have hz2694 : ∀ j, V2680 o423 j = .int 0 := fun j => (congrFun (hV2679 _ (K_old kz2647 hq2675)) j).trans (hz2667 j)
  have kz2697 := hE2677.arr kz2649
  have hz2696 : ∀ j, V2680 o1907 j = .int 0 := fun j => (congrFun (hV2679 _ (K_old kz2649 hq2675)) j).trans (hz2668 j)
  have kz2699 := hE2677.arr kz2651
  have hz2698 : ∀ j, V2680 o1942 j = .int 0 := fun j => (congrFun (hV2679 _ (K_old kz2651 hq2675)) j).trans (hz2669 j)
  have kz2701 := hE2677.arr kz2653
  have hz2700 : ∀ j, V2680 o1980 j = .int 0 := fun j => (congrFun (hV2679 _ (K_old kz2653 hq2675)) j).trans (hz2670 j)
  have kz2703 := hE2677.arr kz2655
  have hz2702 : ∀ j, V2680 o2063 j = .int 0 := fun j => (congrFun (hV2679 _ (K_old kz2655 hq2675)) j).trans (hz2671 j)
  have kz2705 := hE2677.arr kz2657
  have hz2704 : ∀ j, V2680 o2242 j = .int 0 := fun j => (congrFun (hV2679 _ (K_old kz2657 hq2675)) j).trans (hz2672 j)
  have h2706 := KE.nw (KE.new (KE.new (KE.new (KE.new (KE.new (KE.new (KE.new (KE.new (KE.new (KE.new (KE.new (KE.new (KE.new (KE.new (KE.new (KE.new (KE.new (KE.new (KE.new (KE.new (KE.new (KE.new (KE.new (KE.new (KE.new (KE.new (KE.new (KE.new (KE.new (KE.new (KE.new (KE.new (KE.new (KE.new (KE.new (KE.new (KE.new (KE.new (KE.new (KE.new (KE.new (KE.new (KE.new (KE.new (KE.new (KE.new (KE.new (KE.new (KE.new (KE.new (KE.new (KE.new (KE.new (KE.new (KE.new (KE.new (KE.new (KE.new (KE.new (KE.new (KE.new (KE.new (KE.new (KE.new (KE.new (KE.new (KE.new (KE.new (KE.new (KE.new (KE.new (KE.new (KE.new (KE.new (KE.new (KE.new (KE.new (KE.new (KE.new (KE.new (KE.new (KE.new (KE.new KE.rf hq10 hK11) hq25 hK26) hq40 hK41) hq55 hK56) hq70 hK71) hq85 hK86) hq100 hK101) hq115 hK116) hq130 hK131) hq145 hK146) hq160 hK161) hq175 hK176) hq190 hK191) hq207 hK208) hq227 hK228) hq250 hK251) hq276 hK277) hq305 hK306) hq335 hK336) hq365 hK366) hq395 hK396) hq425 hK426) hq457 hK458) hq490 hK491) hq523 hK524) hq556 hK557) hq589 hK590) hq622 hK623) hq655 hK656) hq688 hK689) hq721 hK722) hq754 hK755) hq787 hK788) hq820 hK821) hq853 hK854) hq886 hK887) hq919 hK920) hq952 hK953) hq985 hK986) hq1018 hK1019) hq1051 hK1052) hq1084 hK1085) hq1117 hK1118) hq1150 hK1151) hq1183 hK1184) hq1216 hK1217) hq1249 hK1250) hq1282 hK1283) hq1315 hK1316) hq1348 hK1349) hq1381 hK1382) hq1414 hK1415) hq1447 hK1448) hq1480 hK1481) hq1513 hK1514) hq1546 hK1547) hq1579 hK1580) hq1612 hK1613) hq1645 hK1646) hq1678 hK1679) hq1711 hK1712) hq1744 hK1745) hq1777 hK1778) hq1810 hK1811) hq1843 hK1844) hq1876 hK1877) hq1909 hK1910) hq1944 hK1945) hq1982 hK1983) hq2023 hK2024) hq2065 hK2066) hq2109 hK2110) hq2154 hK2155) hq2199 hK2200) hq2244 hK2245) hq2291 hK2292) hq2339 hK2340) hq2387 hK2388) hq2435 hK2436) hq2483 hK2484) hq2531 hK2532) hq2579 hK2580) hq2627 hK2628) h2634 hq2675
  clear pf2661 kz2637 hz2662 kz2639 hz2663 kz2641 hz2664 kz2643 hz2665 kz2645 hz2666 kz2647 hz2667 kz2649 hz2668 kz2651 hz2669 kz2653 hz2670 kz2655 hz2671 kz2657 hz2672
  refine GO.putRF rfl rfl (by decide +kernel) h2682 fp_raw_fp_RX12_268 rfl rfl dX12_init_707 (fun V2708 e2707 => ?_)
  have pf2709 := PF.put pf2683 e2707 rfl
  have hz2710 : ∀ j, V2708 o188 j = .int 0 := fun j => (uq_ne e2707 (Or.inl (K_ne kz2685 h2682 (by decide)))).trans (hz2684 j)
  have hz2711 : ∀ j, V2708 o205 j = .int 0 := fun j => (uq_ne e2707 (Or.inl (K_ne kz2687 h2682 (by decide)))).trans (hz2686 j)
  have hz2712 : ∀ j, V2708 o225 j = .int 0 := fun j => (uq_ne e2707 (Or.inl (K_ne kz2689 h2682 (by decide)))).trans (hz2688 j)
  have hz2713 : ∀ j, V2708 o248 j = .int 0 := fun j => (uq_ne e2707 (Or.inl (K_ne kz2691 h2682 (by decide)))).trans (hz2690 j)
  have hz2714 : ∀ j, V2708 o274 j = .int 0 := fun j => (uq_ne e2707 (Or.inl (K_ne kz2693 h2682 (by decide)))).trans (hz2692 j)
  have hz2715 : ∀ j, V2708 o423 j = .int 0 := fun j => (uq_ne e2707 (Or.inl (K_ne kz2695 h2682 (by decide)))).trans (hz2694 j)
  have hz2716 : ∀ j, V2708 o1907 j = .int 0 := fun j => (uq_ne e2707 (Or.inl (K_ne kz2697 h2682 (by decide)))).trans (hz2696 j)
  have hz2717 : ∀ j, V2708 o1942 j = .int 0 := fun j => (uq_ne e2707 (Or.inl (K_ne kz2699 h2682 (by decide)))).trans (hz2698 j)
  have hz2718 : ∀ j, V2708 o1980 j = .int 0 := fun j => (uq_ne e2707 (Or.inl (K_ne kz2701 h2682 (by decide)))).trans (hz2700 j)
  have hz2719 : ∀ j, V2708 o2063 j = .int 0 := fun j => (uq_ne e2707 (Or.inl (K_ne kz2703 h2682 (by decide)))).trans (hz2702 j)
  have hz2720 : ∀ j, V2708 o2242 j = .int 0 := fun j => (uq_ne e2707 (Or.inl (K_ne kz2705 h2682 (by decide)))).trans (hz2704 j)
  clear pf2683 hz2684 hz2686 hz2688 hz2690 hz2692 hz2694 hz2696 hz2698 hz2700 hz2702 hz2704
  refine GO.aload_n dX12_init_710 rfl rfl ?_
  refine GO.bipush dX12_init_711 rfl ?_
  refine GO.newT (atype := .int) 93 60 gw_89 rfl rfl (fun _ _ h => h) rfl rfl rfl (Or.inr rfl) (fun _ => okv_df rfl rfl rfl) rfl rfl dX12_init_713 (fun o2721 K2722 V2728 hq2723 hK2724 hE2725 h2726 hz2729 hV2727 => ?_)
  have h2730 := (by rw [hK2724, updK_ne (K_old h2682 hq2723)]; exact h2682 : K2722 x = some (0, 23))
  have pf2731 := PF.nw pf2709 hV2727 (K_old h2682 hq2723)
  have kz2733 := hE2725.arr kz2685
  have hz2732 : ∀ j, V2728 o188 j = .int 0 := fun j => (congrFun (hV2727 _ (K_old kz2685 hq2723)) j).trans (hz2710 j)
  have kz2735 := hE2725.arr kz2687
  have hz2734 : ∀ j, V2728 o205 j = .int 0 := fun j => (congrFun (hV2727 _ (K_old kz2687 hq2723)) j).trans (hz2711 j)
  have kz2737 := hE2725.arr kz2689
  have hz2736 : ∀ j, V2728 o225 j = .int 0 := fun j => (congrFun (hV2727 _ (K_old kz2689 hq2723)) j).trans (hz2712 j)
  have kz2739 := hE2725.arr kz2691
  have hz2738 : ∀ j, V2728 o248 j = .int 0 := fun j => (congrFun (hV2727 _ (K_old kz2691 hq2723)) j).trans (hz2713 j)
  have kz2741 := hE2725.arr kz2693
  have hz2740 : ∀ j, V2728 o274 j = .int 0 := fun j => (congrFun (hV2727 _ (K_old kz2693 hq2723)) j).trans (hz2714 j)
  have kz2743 := hE2725.arr kz2695
  have hz2742 : ∀ j, V2728 o423 j = .int 0 := fun j => (congrFun (hV2727 _ (K_old kz2695 hq2723)) j).trans (hz2715 j)
  have kz2745 := hE2725.arr kz2697
  have hz2744 : ∀ j, V2728 o1907 j = .int 0 := fun j => (congrFun (hV2727 _ (K_old kz2697 hq2723)) j).trans (hz2716 j)
  have kz2747 := hE2725.arr kz2699
  have hz2746 : ∀ j, V2728 o1942 j = .int 0 := fun j => (congrFun (hV2727 _ (K_old kz2699 hq2723)) j).trans (hz2717 j)
  have kz2749 := hE2725.arr kz2701
  have hz2748 : ∀ j, V2728 o1980 j = .int 0 := fun j => (congrFun (hV2727 _ (K_old kz2701 hq2723)) j).trans (hz2718 j)
  have kz2751 := hE2725.arr kz2703
  have hz2750 : ∀ j, V2728 o2063 j = .int 0 := fun j => (congrFun (hV2727 _ (K_old kz2703 hq2723)) j).trans (hz2719 j)
  have kz2753 := hE2725.arr kz2705
  have hz2752 : ∀ j, V2728 o2242 j = .int 0 := fun j => (congrFun (hV2727 _ (K_old kz2705 hq2723)) j).trans (hz2720 j)
  have h2754 := KE.nw (KE.new (KE.new (KE.new (KE.new (KE.new (KE.new (KE.new (KE.new (KE.new (KE.new (KE.new (KE.new (KE.new (KE.new (KE.new (KE.new (KE.new (KE.new (KE.new (KE.new (KE.new (KE.new (KE.new (KE.new (KE.new (KE.new (KE.new (KE.new (KE.new (KE.new (KE.new (KE.new (KE.new (KE.new (KE.new (KE.new (KE.new (KE.new (KE.new (KE.new (KE.new (KE.new (KE.new (KE.new (KE.new (KE.new (KE.new (KE.new (KE.new (KE.new (KE.new (KE.new (KE.new (KE.new (KE.new (KE.new (KE.new (KE.new (KE.new (KE.new (KE.new (KE.new (KE.new (KE.new (KE.new (KE.new (KE.new (KE.new (KE.new (KE.new (KE.new (KE.new (KE.new (KE.new (KE.new (KE.new (KE.new (KE.new (KE.new (KE.new (KE.new (KE.new (KE.new (KE.new KE.rf hq10 hK11) hq25 hK26) hq40 hK41) hq55 hK56) hq70 hK71) hq85 hK86) hq100 hK101) hq115 hK116) hq130 hK131) hq145 hK146) hq160 hK161) hq175 hK176) hq190 hK191) hq207 hK208) hq227 hK228) hq250 hK251) hq276 hK277) hq305 hK306) hq335 hK336) hq365 hK366) hq395 hK396) hq425 hK426) hq457 hK458) hq490 hK491) hq523 hK524) hq556 hK557) hq589 hK590) hq622 hK623) hq655 hK656) hq688 hK689) hq721 hK722) hq754 hK755) hq787 hK788) hq820 hK821) hq853 hK854) hq886 hK887) hq919 hK920) hq952 hK953) hq985 hK986) hq1018 hK1019) hq1051 hK1052) hq1084 hK1085) hq1117 hK1118) hq1150 hK1151) hq1183 hK1184) hq1216 hK1217) hq1249 hK1250) hq1282 hK1283) hq1315 hK1316) hq1348 hK1349) hq1381 hK1382) hq1414 hK1415) hq1447 hK1448) hq1480 hK1481) hq1513 hK1514) hq1546 hK1547) hq1579 hK1580) hq1612 hK1613) hq1645 hK1646) hq1678 hK1679) hq1711 hK1712) hq1744 hK1745) hq1777 hK1778) hq1810 hK1811) hq1843 hK1844) hq1876 hK1877) hq1909 hK1910) hq1944 hK1945) hq1982 hK1983) hq2023 hK2024) hq2065 hK2066) hq2109 hK2110) hq2154 hK2155) hq2199 hK2200) hq2244 hK2245) hq2291 hK2292) hq2339 hK2340) hq2387 hK2388) hq2435 hK2436) hq2483 hK2484) hq2531 hK2532) hq2579 hK2580) hq2627 hK2628) hq2675 hK2676) h2682 hq2723
  clear pf2709 kz2685 hz2710 kz2687 hz2711 kz2689 hz2712 kz2691 hz2713 kz2693 hz2714 kz2695 hz2715 kz2697 hz2716 kz2699 hz2717 kz2701 hz2718 kz2703 hz2719 kz2705 hz2720
  refine GO.putRF rfl rfl (by decide +kernel) h2730 fp_raw_fp_RX12_271 rfl rfl dX12_init_715 (fun V2756 e2755 => ?_)
  have pf2757 := PF.put pf2731 e2755 rfl
  have hz2758 : ∀ j, V2756 o188 j = .int 0 := fun j => (uq_ne e2755 (Or.inl (K_ne kz2733 h2730 (by decide)))).trans (hz2732 j)
  have hz2759 : ∀ j, V2756 o205 j = .int 0 := fun j => (uq_ne e2755 (Or.inl (K_ne kz2735 h2730 (by decide)))).trans (hz2734 j)
  have hz2760 : ∀ j, V2756 o225 j = .int 0 := fun j => (uq_ne e2755 (Or.inl (K_ne kz2737 h2730 (by decide)))).trans (hz2736 j)
  have hz2761 : ∀ j, V2756 o248 j = .int 0 := fun j => (uq_ne e2755 (Or.inl (K_ne kz2739 h2730 (by decide)))).trans (hz2738 j)
  have hz2762 : ∀ j, V2756 o274 j = .int 0 := fun j => (uq_ne e2755 (Or.inl (K_ne kz2741 h2730 (by decide)))).trans (hz2740 j)
  have hz2763 : ∀ j, V2756 o423 j = .int 0 := fun j => (uq_ne e2755 (Or.inl (K_ne kz2743 h2730 (by decide)))).trans (hz2742 j)
  have hz2764 : ∀ j, V2756 o1907 j = .int 0 := fun j => (uq_ne e2755 (Or.inl (K_ne kz2745 h2730 (by decide)))).trans (hz2744 j)
  have hz2765 : ∀ j, V2756 o1942 j = .int 0 := fun j => (uq_ne e2755 (Or.inl (K_ne kz2747 h2730 (by decide)))).trans (hz2746 j)
  have hz2766 : ∀ j, V2756 o1980 j = .int 0 := fun j => (uq_ne e2755 (Or.inl (K_ne kz2749 h2730 (by decide)))).trans (hz2748 j)
  have hz2767 : ∀ j, V2756 o2063 j = .int 0 := fun j => (uq_ne e2755 (Or.inl (K_ne kz2751 h2730 (by decide)))).trans (hz2750 j)
  have hz2768 : ∀ j, V2756 o2242 j = .int 0 := fun j => (uq_ne e2755 (Or.inl (K_ne kz2753 h2730 (by decide)))).trans (hz2752 j)
  clear pf2731 hz2732 hz2734 hz2736 hz2738 hz2740 hz2742 hz2744 hz2746 hz2748 hz2750 hz2752
  refine GO.aload_n dX12_init_718 rfl rfl ?_
  refine GO.bipush dX12_init_719 rfl ?_
  refine GO.newT (atype := .int) 94 60 gw_89 rfl rfl (fun _ _ h => h) rfl rfl rfl (Or.inr rfl) (fun _ => okv_df rfl rfl rfl) rfl rfl dX12_init_721 (fun o2769 K2770 V2776 hq2771 hK2772 hE2773 h2774 hz2777 hV2775 => ?_)
  have h2778 := (by rw [hK2772, updK_ne (K_old h2730 hq2771)]; exact h2730 : K2770 x = some (0, 23))
  have pf2779 := PF.nw pf2757 hV2775 (K_old h2730 hq2771)
  have kz2781 := hE2773.arr kz2733
  have hz2780 : ∀ j, V2776 o188 j = .int 0 := fun j => (congrFun (hV2775 _ (K_old kz2733 hq2771)) j).trans (hz2758 j)
  have kz2783 := hE2773.arr kz2735
  have hz2782 : ∀ j, V2776 o205 j = .int 0 := fun j => (congrFun (hV2775 _ (K_old kz2735 hq2771)) j).trans (hz2759 j)
  have kz2785 := hE2773.arr kz2737
  have hz2784 : ∀ j, V2776 o225 j = .int 0 := fun j => (congrFun (hV2775 _ (K_old kz2737 hq2771)) j).trans (hz2760 j)
  have kz2787 := hE2773.arr kz2739
  have hz2786 : ∀ j, V2776 o248 j = .int 0 := fun j => (congrFun (hV2775 _ (K_old kz2739 hq2771)) j).trans (hz2761 j)
  have kz2789 := hE2773.arr kz2741
  have hz2788 : ∀ j, V2776 o274 j = .int 0 := fun j => (congrFun (hV2775 _ (K_old kz2741 hq2771)) j).trans (hz2762 j)
  have kz2791 := hE2773.arr kz2743
  have hz2790 : ∀ j, V2776 o423 j = .int 0 := fun j => (congrFun (hV2775 _ (K_old kz2743 hq2771)) j).trans (hz2763 j)
  have kz2793 := hE2773.arr kz2745
  have hz2792 : ∀ j, V2776 o1907 j = .int 0 := fun j => (congrFun (hV2775 _ (K_old kz2745 hq2771)) j).trans (hz2764 j)
  have kz2795 := hE2773.arr kz2747
  have hz2794 : ∀ j, V2776 o1942 j = .int 0 := fun j => (congrFun (hV2775 _ (K_old kz2747 hq2771)) j).trans (hz2765 j)
  have kz2797 := hE2773.arr kz2749
  have hz2796 : ∀ j, V2776 o1980 j = .int 0 := fun j => (congrFun (hV2775 _ (K_old kz2749 hq2771)) j).trans (hz2766 j)
  have kz2799 := hE2773.arr kz2751
  have hz2798 : ∀ j, V2776 o2063 j = .int 0 := fun j => (congrFun (hV2775 _ (K_old kz2751 hq2771)) j).trans (hz2767 j)
  have kz2801 := hE2773.arr kz2753
  have hz2800 : ∀ j, V2776 o2242 j = .int 0 := fun j => (congrFun (hV2775 _ (K_old kz2753 hq2771)) j).trans (hz2768 j)
  have h2802 := KE.nw (KE.new (KE.new (KE.new (KE.new (KE.new (KE.new (KE.new (KE.new (KE.new (KE.new (KE.new (KE.new (KE.new (KE.new (KE.new (KE.new (KE.new (KE.new (KE.new (KE.new (KE.new (KE.new (KE.new (KE.new (KE.new (KE.new (KE.new (KE.new (KE.new (KE.new (KE.new (KE.new (KE.new (KE.new (KE.new (KE.new (KE.new (KE.new (KE.new (KE.new (KE.new (KE.new (KE.new (KE.new (KE.new (KE.new (KE.new (KE.new (KE.new (KE.new (KE.new (KE.new (KE.new (KE.new (KE.new (KE.new (KE.new (KE.new (KE.new (KE.new (KE.new (KE.new (KE.new (KE.new (KE.new (KE.new (KE.new (KE.new (KE.new (KE.new (KE.new (KE.new (KE.new (KE.new (KE.new (KE.new (KE.new (KE.new (KE.new (KE.new (KE.new (KE.new (KE.new (KE.new (KE.new KE.rf hq10 hK11) hq25 hK26) hq40 hK41) hq55 hK56) hq70 hK71) hq85 hK86) hq100 hK101) hq115 hK116) hq130 hK131) hq145 hK146) hq160 hK161) hq175 hK176) hq190 hK191) hq207 hK208) hq227 hK228) hq250 hK251) hq276 hK277) hq305 hK306) hq335 hK336) hq365 hK366) hq395 hK396) hq425 hK426) hq457 hK458) hq490 hK491) hq523 hK524) hq556 hK557) hq589 hK590) hq622 hK623) hq655 hK656) hq688 hK689) hq721 hK722) hq754 hK755) hq787 hK788) hq820 hK821) hq853 hK854) hq886 hK887) hq919 hK920) hq952 hK953) hq985 hK986) hq1018 hK1019) hq1051 hK1052) hq1084 hK1085) hq1117 hK1118) hq1150 hK1151) hq1183 hK1184) hq1216 hK1217) hq1249 hK1250) hq1282 hK1283) hq1315 hK1316) hq1348 hK1349) hq1381 hK1382) hq1414 hK1415) hq1447 hK1448) hq1480 hK1481) hq1513 hK1514) hq1546 hK1547) hq1579 hK1580) hq1612 hK1613) hq1645 hK1646) hq1678 hK1679) hq1711 hK1712) hq1744 hK1745) hq1777 hK1778) hq1810 hK1811) hq1843 hK1844) hq1876 hK1877) hq1909 hK1910) hq1944 hK1945) hq1982 hK1983) hq2023 hK2024) hq2065 hK2066) hq2109 hK2110) hq2154 hK2155) hq2199 hK2200) hq2244 hK2245) hq2291 hK2292) hq2339 hK2340) hq2387 hK2388) hq2435 hK2436) hq2483 hK2484) hq2531 hK2532) hq2579 hK2580) hq2627 hK2628) hq2675 hK2676) hq2723 hK2724) h2730 hq2771
  clear pf2757 kz2733 hz2758 kz2735 hz2759 kz2737 hz2760 kz2739 hz2761 kz2741 hz2762 kz2743 hz2763 kz2745 hz2764 kz2747 hz2765 kz2749 hz2766 kz2751 hz2767 kz2753 hz2768
  refine GO.putRF rfl rfl (by decide +kernel) h2778 fp_raw_fp_RX12_274 rfl rfl dX12_init_723 (fun V2804 e2803 => ?_)
  have pf2805 := PF.put pf2779 e2803 rfl
  have hz2806 : ∀ j, V2804 o188 j = .int 0 := fun j => (uq_ne e2803 (Or.inl (K_ne kz2781 h2778 (by decide)))).trans (hz2780 j)
  have hz2807 : ∀ j, V2804 o205 j = .int 0 := fun j => (uq_ne e2803 (Or.inl (K_ne kz2783 h2778 (by decide)))).trans (hz2782 j)
  have hz2808 : ∀ j, V2804 o225 j = .int 0 := fun j => (uq_ne e2803 (Or.inl (K_ne kz2785 h2778 (by decide)))).trans (hz2784 j)
  have hz2809 : ∀ j, V2804 o248 j = .int 0 := fun j => (uq_ne e2803 (Or.inl (K_ne kz2787 h2778 (by decide)))).trans (hz2786 j)
  have hz2810 : ∀ j, V2804 o274 j = .int 0 := fun j => (uq_ne e2803 (Or.inl (K_ne kz2789 h2778 (by decide)))).trans (hz2788 j)
  have hz2811 : ∀ j, V2804 o423 j = .int 0 := fun j => (uq_ne e2803 (Or.inl (K_ne kz2791 h2778 (by decide)))).trans (hz2790 j)
  have hz2812 : ∀ j, V2804 o1907 j = .int 0 := fun j => (uq_ne e2803 (Or.inl (K_ne kz2793 h2778 (by decide)))).trans (hz2792 j)
  have hz2813 : ∀ j, V2804 o1942 j = .int 0 := fun j => (uq_ne e2803 (Or.inl (K_ne kz2795 h2778 (by decide)))).trans (hz2794 j)
  have hz2814 : ∀ j, V2804 o1980 j = .int 0 := fun j => (uq_ne e2803 (Or.inl (K_ne kz2797 h2778 (by decide)))).trans (hz2796 j)
  have hz2815 : ∀ j, V2804 o2063 j = .int 0 := fun j => (uq_ne e2803 (Or.inl (K_ne kz2799 h2778 (by decide)))).trans (hz2798 j)
  have hz2816 : ∀ j, V2804 o2242 j = .int 0 := fun j => (uq_ne e2803 (Or.inl (K_ne kz2801 h2778 (by decide)))).trans (hz2800 j)
  clear pf2779 hz2780 hz2782 hz2784 hz2786 hz2788 hz2790 hz2792 hz2794 hz2796 hz2798 hz2800
  refine GO.aload_n dX12_init_726 rfl rfl ?_
  refine GO.sipush dX12_init_727 rfl ?_
  refine GO.newT (atype := .int) 95 144 gw_89 rfl rfl (fun _ _ h => h) rfl rfl rfl (Or.inr rfl) (fun _ => okv_df rfl rfl rfl) rfl rfl dX12_init_730 (fun o2817 K2818 V2824 hq2819 hK2820 hE2821 h2822 hz2825 hV2823 => ?_)
  have h2826 := (by rw [hK2820, updK_ne (K_old h2778 hq2819)]; exact h2778 : K2818 x = some (0, 23))
  have pf2827 := PF.nw pf2805 hV2823 (K_old h2778 hq2819)
  have kz2829 := hE2821.arr kz2781
  have hz2828 : ∀ j, V2824 o188 j = .int 0 := fun j => (congrFun (hV2823 _ (K_old kz2781 hq2819)) j).trans (hz2806 j)
  have kz2831 := hE2821.arr kz2783
  have hz2830 : ∀ j, V2824 o205 j = .int 0 := fun j => (congrFun (hV2823 _ (K_old kz2783 hq2819)) j).trans (hz2807 j)
  have kz2833 := hE2821.arr kz2785
  have hz2832 : ∀ j, V2824 o225 j = .int 0 := fun j => (congrFun (hV2823 _ (K_old kz2785 hq2819)) j).trans (hz2808 j)
  have kz2835 := hE2821.arr kz2787
  have hz2834 : ∀ j, V2824 o248 j = .int 0 := fun j => (congrFun (hV2823 _ (K_old kz2787 hq2819)) j).trans (hz2809 j)
  have kz2837 := hE2821.arr kz2789
  have hz2836 : ∀ j, V2824 o274 j = .int 0 := fun j => (congrFun (hV2823 _ (K_old kz2789 hq2819)) j).trans (hz2810 j)
  have kz2839 := hE2821.arr kz2791
  have hz2838 : ∀ j, V2824 o423 j = .int 0 := fun j => (congrFun (hV2823 _ (K_old kz2791 hq2819)) j).trans (hz2811 j)
  have kz2841 := hE2821.arr kz2793
  have hz2840 : ∀ j, V2824 o1907 j = .int 0 := fun j => (congrFun (hV2823 _ (K_old kz2793 hq2819)) j).trans (hz2812 j)
  have kz2843 := hE2821.arr kz2795
  have hz2842 : ∀ j, V2824 o1942 j = .int 0 := fun j => (congrFun (hV2823 _ (K_old kz2795 hq2819)) j).trans (hz2813 j)
  have kz2845 := hE2821.arr kz2797
  have hz2844 : ∀ j, V2824 o1980 j = .int 0 := fun j => (congrFun (hV2823 _ (K_old kz2797 hq2819)) j).trans (hz2814 j)
  have kz2847 := hE2821.arr kz2799
  have hz2846 : ∀ j, V2824 o2063 j = .int 0 := fun j => (congrFun (hV2823 _ (K_old kz2799 hq2819)) j).trans (hz2815 j)
  have kz2849 := hE2821.arr kz2801
  have hz2848 : ∀ j, V2824 o2242 j = .int 0 := fun j => (congrFun (hV2823 _ (K_old kz2801 hq2819)) j).trans (hz2816 j)
  have h2850 := KE.nw (KE.new (KE.new (KE.new (KE.new (KE.new (KE.new (KE.new (KE.new (KE.new (KE.new (KE.new (KE.new (KE.new (KE.new (KE.new (KE.new (KE.new (KE.new (KE.new (KE.new (KE.new (KE.new (KE.new (KE.new (KE.new (KE.new (KE.new (KE.new (KE.new (KE.new (KE.new (KE.new (KE.new (KE.new (KE.new (KE.new (KE.new (KE.new (KE.new (KE.new (KE.new (KE.new (KE.new (KE.new (KE.new (KE.new (KE.new (KE.new (KE.new (KE.new (KE.new (KE.new (KE.new (KE.new (KE.new (KE.new (KE.new (KE.new (KE.new (KE.new (KE.new (KE.new (KE.new (KE.new (KE.new (KE.new (KE.new (KE.new (KE.new (KE.new (KE.new (KE.new (KE.new (KE.new (KE.new (KE.new (KE.new (KE.new (KE.new (KE.new (KE.new (KE.new (KE.new (KE.new (KE.new (KE.new KE.rf hq10 hK11) hq25 hK26) hq40 hK41) hq55 hK56) hq70 hK71) hq85 hK86) hq100 hK101) hq115 hK116) hq130 hK131) hq145 hK146) hq160 hK161) hq175 hK176) hq190 hK191) hq207 hK208) hq227 hK228) hq250 hK251) hq276 hK277) hq305 hK306) hq335 hK336) hq365 hK366) hq395 hK396) hq425 hK426) hq457 hK458) hq490 hK491) hq523 hK524) hq556 hK557) hq589 hK590) hq622 hK623) hq655 hK656) hq688 hK689) hq721 hK722) hq754 hK755) hq787 hK788) hq820 hK821) hq853 hK854) hq886 hK887) hq919 hK920) hq952 hK953) hq985 hK986) hq1018 hK1019) hq1051 hK1052) hq1084 hK1085) hq1117 hK1118) hq1150 hK1151) hq1183 hK1184) hq1216 hK1217) hq1249 hK1250) hq1282 hK1283) hq1315 hK1316) hq1348 hK1349) hq1381 hK1382) hq1414 hK1415) hq1447 hK1448) hq1480 hK1481) hq1513 hK1514) hq1546 hK1547) hq1579 hK1580) hq1612 hK1613) hq1645 hK1646) hq1678 hK1679) hq1711 hK1712) hq1744 hK1745) hq1777 hK1778) hq1810 hK1811) hq1843 hK1844) hq1876 hK1877) hq1909 hK1910) hq1944 hK1945) hq1982 hK1983) hq2023 hK2024) hq2065 hK2066) hq2109 hK2110) hq2154 hK2155) hq2199 hK2200) hq2244 hK2245) hq2291 hK2292) hq2339 hK2340) hq2387 hK2388) hq2435 hK2436) hq2483 hK2484) hq2531 hK2532) hq2579 hK2580) hq2627 hK2628) hq2675 hK2676) hq2723 hK2724) hq2771 hK2772) h2778 hq2819
  clear pf2805 kz2781 hz2806 kz2783 hz2807 kz2785 hz2808 kz2787 hz2809 kz2789 hz2810 kz2791 hz2811 kz2793 hz2812 kz2795 hz2813 kz2797 hz2814 kz2799 hz2815 kz2801 hz2816
  refine GO.putRF rfl rfl (by decide +kernel) h2826 fp_raw_fp_RX12_277 rfl rfl dX12_init_732 (fun V2852 e2851 => ?_)
  have pf2853 := PF.put pf2827 e2851 rfl
  have hz2854 : ∀ j, V2852 o188 j = .int 0 := fun j => (uq_ne e2851 (Or.inl (K_ne kz2829 h2826 (by decide)))).trans (hz2828 j)
  have hz2855 : ∀ j, V2852 o205 j = .int 0 := fun j => (uq_ne e2851 (Or.inl (K_ne kz2831 h2826 (by decide)))).trans (hz2830 j)
  have hz2856 : ∀ j, V2852 o225 j = .int 0 := fun j => (uq_ne e2851 (Or.inl (K_ne kz2833 h2826 (by decide)))).trans (hz2832 j)
  have hz2857 : ∀ j, V2852 o248 j = .int 0 := fun j => (uq_ne e2851 (Or.inl (K_ne kz2835 h2826 (by decide)))).trans (hz2834 j)
  have hz2858 : ∀ j, V2852 o274 j = .int 0 := fun j => (uq_ne e2851 (Or.inl (K_ne kz2837 h2826 (by decide)))).trans (hz2836 j)
  have hz2859 : ∀ j, V2852 o423 j = .int 0 := fun j => (uq_ne e2851 (Or.inl (K_ne kz2839 h2826 (by decide)))).trans (hz2838 j)
  have hz2860 : ∀ j, V2852 o1907 j = .int 0 := fun j => (uq_ne e2851 (Or.inl (K_ne kz2841 h2826 (by decide)))).trans (hz2840 j)
  have hz2861 : ∀ j, V2852 o1942 j = .int 0 := fun j => (uq_ne e2851 (Or.inl (K_ne kz2843 h2826 (by decide)))).trans (hz2842 j)
  have hz2862 : ∀ j, V2852 o1980 j = .int 0 := fun j => (uq_ne e2851 (Or.inl (K_ne kz2845 h2826 (by decide)))).trans (hz2844 j)
  have hz2863 : ∀ j, V2852 o2063 j = .int 0 := fun j => (uq_ne e2851 (Or.inl (K_ne kz2847 h2826 (by decide)))).trans (hz2846 j)
  have hz2864 : ∀ j, V2852 o2242 j = .int 0 := fun j => (uq_ne e2851 (Or.inl (K_ne kz2849 h2826 (by decide)))).trans (hz2848 j)
  clear pf2827 hz2828 hz2830 hz2832 hz2834 hz2836 hz2838 hz2840 hz2842 hz2844 hz2846 hz2848
  refine GO.aload_n dX12_init_735 rfl rfl ?_
  refine GO.bipush dX12_init_736 rfl ?_
  refine GO.putRW rfl (by decide +kernel) h2826 fp_raw_fp_RX12_280 rfl rfl dX12_init_738 (fun V2866 e2865 => ?_)
  have pf2867 := PF.put pf2853 e2865 rfl
  have hz2868 : ∀ j, V2866 o188 j = .int 0 := fun j => (uq_ne e2865 (Or.inl (K_ne kz2829 h2826 (by decide)))).trans (hz2854 j)
  have hz2869 : ∀ j, V2866 o205 j = .int 0 := fun j => (uq_ne e2865 (Or.inl (K_ne kz2831 h2826 (by decide)))).trans (hz2855 j)
  have hz2870 : ∀ j, V2866 o225 j = .int 0 := fun j => (uq_ne e2865 (Or.inl (K_ne kz2833 h2826 (by decide)))).trans (hz2856 j)
  have hz2871 : ∀ j, V2866 o248 j = .int 0 := fun j => (uq_ne e2865 (Or.inl (K_ne kz2835 h2826 (by decide)))).trans (hz2857 j)
  have hz2872 : ∀ j, V2866 o274 j = .int 0 := fun j => (uq_ne e2865 (Or.inl (K_ne kz2837 h2826 (by decide)))).trans (hz2858 j)
  have hz2873 : ∀ j, V2866 o423 j = .int 0 := fun j => (uq_ne e2865 (Or.inl (K_ne kz2839 h2826 (by decide)))).trans (hz2859 j)
  have hz2874 : ∀ j, V2866 o1907 j = .int 0 := fun j => (uq_ne e2865 (Or.inl (K_ne kz2841 h2826 (by decide)))).trans (hz2860 j)
  have hz2875 : ∀ j, V2866 o1942 j = .int 0 := fun j => (uq_ne e2865 (Or.inl (K_ne kz2843 h2826 (by decide)))).trans (hz2861 j)
  have hz2876 : ∀ j, V2866 o1980 j = .int 0 := fun j => (uq_ne e2865 (Or.inl (K_ne kz2845 h2826 (by decide)))).trans (hz2862 j)
  have hz2877 : ∀ j, V2866 o2063 j = .int 0 := fun j => (uq_ne e2865 (Or.inl (K_ne kz2847 h2826 (by decide)))).trans (hz2863 j)
  have hz2878 : ∀ j, V2866 o2242 j = .int 0 := fun j => (uq_ne e2865 (Or.inl (K_ne kz2849 h2826 (by decide)))).trans (hz2864 j)
  clear pf2853 hz2854 hz2855 hz2856 hz2857 hz2858 hz2859 hz2860 hz2861 hz2862 hz2863 hz2864
  refine GO.aload_n dX12_init_741 rfl rfl ?_
  refine GO.bipush dX12_init_742 rfl ?_
  refine GO.newT (atype := .int) 96 60 gw_89 rfl rfl (fun _ _ h => h) rfl rfl rfl (Or.inr rfl) (fun _ => okv_df rfl rfl rfl) rfl rfl dX12_init_744 (fun o2879 K2880 V2886 hq2881 hK2882 hE2883 h2884 hz2887 hV2885 => ?_)
  have h2888 := (by rw [hK2882, updK_ne (K_old h2826 hq2881)]; exact h2826 : K2880 x = some (0, 23))
  have pf2889 := PF.nw pf2867 hV2885 (K_old h2826 hq2881)
  have kz2891 := hE2883.arr kz2829
  have hz2890 : ∀ j, V2886 o188 j = .int 0 := fun j => (congrFun (hV2885 _ (K_old kz2829 hq2881)) j).trans (hz2868 j)
  have kz2893 := hE2883.arr kz2831
  have hz2892 : ∀ j, V2886 o205 j = .int 0 := fun j => (congrFun (hV2885 _ (K_old kz2831 hq2881)) j).trans (hz2869 j)
  have kz2895 := hE2883.arr kz2833
  have hz2894 : ∀ j, V2886 o225 j = .int 0 := fun j => (congrFun (hV2885 _ (K_old kz2833 hq2881)) j).trans (hz2870 j)
  have kz2897 := hE2883.arr kz2835
  have hz2896 : ∀ j, V2886 o248 j = .int 0 := fun j => (congrFun (hV2885 _ (K_old kz2835 hq2881)) j).trans (hz2871 j)
  have kz2899 := hE2883.arr kz2837
  have hz2898 : ∀ j, V2886 o274 j = .int 0 := fun j => (congrFun (hV2885 _ (K_old kz2837 hq2881)) j).trans (hz2872 j)
  have kz2901 := hE2883.arr kz2839
  have hz2900 : ∀ j, V2886 o423 j = .int 0 := fun j => (congrFun (hV2885 _ (K_old kz2839 hq2881)) j).trans (hz2873 j)
  have kz2903 := hE2883.arr kz2841
  have hz2902 : ∀ j, V2886 o1907 j = .int 0 := fun j => (congrFun (hV2885 _ (K_old kz2841 hq2881)) j).trans (hz2874 j)
  have kz2905 := hE2883.arr kz2843
  have hz2904 : ∀ j, V2886 o1942 j = .int 0 := fun j => (congrFun (hV2885 _ (K_old kz2843 hq2881)) j).trans (hz2875 j)
  have kz2907 := hE2883.arr kz2845
  have hz2906 : ∀ j, V2886 o1980 j = .int 0 := fun j => (congrFun (hV2885 _ (K_old kz2845 hq2881)) j).trans (hz2876 j)
  have kz2909 := hE2883.arr kz2847
  have hz2908 : ∀ j, V2886 o2063 j = .int 0 := fun j => (congrFun (hV2885 _ (K_old kz2847 hq2881)) j).trans (hz2877 j)
  have kz2911 := hE2883.arr kz2849
  have hz2910 : ∀ j, V2886 o2242 j = .int 0 := fun j => (congrFun (hV2885 _ (K_old kz2849 hq2881)) j).trans (hz2878 j)
  have h2912 := KE.nw (KE.new (KE.new (KE.new (KE.new (KE.new (KE.new (KE.new (KE.new (KE.new (KE.new (KE.new (KE.new (KE.new (KE.new (KE.new (KE.new (KE.new (KE.new (KE.new (KE.new (KE.new (KE.new (KE.new (KE.new (KE.new (KE.new (KE.new (KE.new (KE.new (KE.new (KE.new (KE.new (KE.new (KE.new (KE.new (KE.new (KE.new (KE.new (KE.new (KE.new (KE.new (KE.new (KE.new (KE.new (KE.new (KE.new (KE.new (KE.new (KE.new (KE.new (KE.new (KE.new (KE.new (KE.new (KE.new (KE.new (KE.new (KE.new (KE.new (KE.new (KE.new (KE.new (KE.new (KE.new (KE.new (KE.new (KE.new (KE.new (KE.new (KE.new (KE.new (KE.new (KE.new (KE.new (KE.new (KE.new (KE.new (KE.new (KE.new (KE.new (KE.new (KE.new (KE.new (KE.new (KE.new (KE.new (KE.new KE.rf hq10 hK11) hq25 hK26) hq40 hK41) hq55 hK56) hq70 hK71) hq85 hK86) hq100 hK101) hq115 hK116) hq130 hK131) hq145 hK146) hq160 hK161) hq175 hK176) hq190 hK191) hq207 hK208) hq227 hK228) hq250 hK251) hq276 hK277) hq305 hK306) hq335 hK336) hq365 hK366) hq395 hK396) hq425 hK426) hq457 hK458) hq490 hK491) hq523 hK524) hq556 hK557) hq589 hK590) hq622 hK623) hq655 hK656) hq688 hK689) hq721 hK722) hq754 hK755) hq787 hK788) hq820 hK821) hq853 hK854) hq886 hK887) hq919 hK920) hq952 hK953) hq985 hK986) hq1018 hK1019) hq1051 hK1052) hq1084 hK1085) hq1117 hK1118) hq1150 hK1151) hq1183 hK1184) hq1216 hK1217) hq1249 hK1250) hq1282 hK1283) hq1315 hK1316) hq1348 hK1349) hq1381 hK1382) hq1414 hK1415) hq1447 hK1448) hq1480 hK1481) hq1513 hK1514) hq1546 hK1547) hq1579 hK1580) hq1612 hK1613) hq1645 hK1646) hq1678 hK1679) hq1711 hK1712) hq1744 hK1745) hq1777 hK1778) hq1810 hK1811) hq1843 hK1844) hq1876 hK1877) hq1909 hK1910) hq1944 hK1945) hq1982 hK1983) hq2023 hK2024) hq2065 hK2066) hq2109 hK2110) hq2154 hK2155) hq2199 hK2200) hq2244 hK2245) hq2291 hK2292) hq2339 hK2340) hq2387 hK2388) hq2435 hK2436) hq2483 hK2484) hq2531 hK2532) hq2579 hK2580) hq2627 hK2628) hq2675 hK2676) hq2723 hK2724) hq2771 hK2772) hq2819 hK2820) h2826 hq2881
  clear pf2867 kz2829 hz2868 kz2831 hz2869 kz2833 hz2870 kz2835 hz2871 kz2837 hz2872 kz2839 hz2873 kz2841 hz2874 kz2843 hz2875 kz2845 hz2876 kz2847 hz2877 kz2849 hz2878
  refine GO.putRF rfl rfl (by decide +kernel) h2888 fp_raw_fp_RX12_283 rfl rfl dX12_init_746 (fun V2914 e2913 => ?_)
  have pf2915 := PF.put pf2889 e2913 rfl
  have hz2916 : ∀ j, V2914 o188 j = .int 0 := fun j => (uq_ne e2913 (Or.inl (K_ne kz2891 h2888 (by decide)))).trans (hz2890 j)
  have hz2917 : ∀ j, V2914 o205 j = .int 0 := fun j => (uq_ne e2913 (Or.inl (K_ne kz2893 h2888 (by decide)))).trans (hz2892 j)
  have hz2918 : ∀ j, V2914 o225 j = .int 0 := fun j => (uq_ne e2913 (Or.inl (K_ne kz2895 h2888 (by decide)))).trans (hz2894 j)
  have hz2919 : ∀ j, V2914 o248 j = .int 0 := fun j => (uq_ne e2913 (Or.inl (K_ne kz2897 h2888 (by decide)))).trans (hz2896 j)
  have hz2920 : ∀ j, V2914 o274 j = .int 0 := fun j => (uq_ne e2913 (Or.inl (K_ne kz2899 h2888 (by decide)))).trans (hz2898 j)
  have hz2921 : ∀ j, V2914 o423 j = .int 0 := fun j => (uq_ne e2913 (Or.inl (K_ne kz2901 h2888 (by decide)))).trans (hz2900 j)
  have hz2922 : ∀ j, V2914 o1907 j = .int 0 := fun j => (uq_ne e2913 (Or.inl (K_ne kz2903 h2888 (by decide)))).trans (hz2902 j)
  have hz2923 : ∀ j, V2914 o1942 j = .int 0 := fun j => (uq_ne e2913 (Or.inl (K_ne kz2905 h2888 (by decide)))).trans (hz2904 j)
  have hz2924 : ∀ j, V2914 o1980 j = .int 0 := fun j => (uq_ne e2913 (Or.inl (K_ne kz2907 h2888 (by decide)))).trans (hz2906 j)
  have hz2925 : ∀ j, V2914 o2063 j = .int 0 := fun j => (uq_ne e2913 (Or.inl (K_ne kz2909 h2888 (by decide)))).trans (hz2908 j)
  have hz2926 : ∀ j, V2914 o2242 j = .int 0 := fun j => (uq_ne e2913 (Or.inl (K_ne kz2911 h2888 (by decide)))).trans (hz2910 j)
  clear pf2889 hz2890 hz2892 hz2894 hz2896 hz2898 hz2900 hz2902 hz2904 hz2906 hz2908 hz2910
  refine GO.aload_n dX12_init_749 rfl rfl ?_
  refine GO.sipush dX12_init_750 rfl ?_
  refine GO.newT (atype := .int) 97 480 gw_89 rfl rfl (fun _ _ h => h) rfl rfl rfl (Or.inr rfl) (fun _ => okv_df rfl rfl rfl) rfl rfl dX12_init_753 (fun o2927 K2928 V2934 hq2929 hK2930 hE2931 h2932 hz2935 hV2933 => ?_)
  have h2936 := (by rw [hK2930, updK_ne (K_old h2888 hq2929)]; exact h2888 : K2928 x = some (0, 23))
  have pf2937 := PF.nw pf2915 hV2933 (K_old h2888 hq2929)
  have kz2939 := hE2931.arr kz2891
  have hz2938 : ∀ j, V2934 o188 j = .int 0 := fun j => (congrFun (hV2933 _ (K_old kz2891 hq2929)) j).trans (hz2916 j)
  have kz2941 := hE2931.arr kz2893
  have hz2940 : ∀ j, V2934 o205 j = .int 0 := fun j => (congrFun (hV2933 _ (K_old kz2893 hq2929)) j).trans (hz2917 j)
  have kz2943 := hE2931.arr kz2895
  have hz2942 : ∀ j, V2934 o225 j = .int 0 := fun j => (congrFun (hV2933 _ (K_old kz2895 hq2929)) j).trans (hz2918 j)
  have kz2945 := hE2931.arr kz2897
  have hz2944 : ∀ j, V2934 o248 j = .int 0 := fun j => (congrFun (hV2933 _ (K_old kz2897 hq2929)) j).trans (hz2919 j)
  have kz2947 := hE2931.arr kz2899
  have hz2946 : ∀ j, V2934 o274 j = .int 0 := fun j => (congrFun (hV2933 _ (K_old kz2899 hq2929)) j).trans (hz2920 j)
  have kz2949 := hE2931.arr kz2901
  have hz2948 : ∀ j, V2934 o423 j = .int 0 := fun j => (congrFun (hV2933 _ (K_old kz2901 hq2929)) j).trans (hz2921 j)
  have kz2951 := hE2931.arr kz2903
  have hz2950 : ∀ j, V2934 o1907 j = .int 0 := fun j => (congrFun (hV2933 _ (K_old kz2903 hq2929)) j).trans (hz2922 j)
  have kz2953 := hE2931.arr kz2905
  have hz2952 : ∀ j, V2934 o1942 j = .int 0 := fun j => (congrFun (hV2933 _ (K_old kz2905 hq2929)) j).trans (hz2923 j)
  have kz2955 := hE2931.arr kz2907
  have hz2954 : ∀ j, V2934 o1980 j = .int 0 := fun j => (congrFun (hV2933 _ (K_old kz2907 hq2929)) j).trans (hz2924 j)
  have kz2957 := hE2931.arr kz2909
  have hz2956 : ∀ j, V2934 o2063 j = .int 0 := fun j => (congrFun (hV2933 _ (K_old kz2909 hq2929)) j).trans (hz2925 j)
  have kz2959 := hE2931.arr kz2911
  have hz2958 : ∀ j, V2934 o2242 j = .int 0 := fun j => (congrFun (hV2933 _ (K_old kz2911 hq2929)) j).trans (hz2926 j)
  have h2960 := KE.nw (KE.new (KE.new (KE.new (KE.new (KE.new (KE.new (KE.new (KE.new (KE.new (KE.new (KE.new (KE.new (KE.new (KE.new (KE.new (KE.new (KE.new (KE.new (KE.new (KE.new (KE.new (KE.new (KE.new (KE.new (KE.new (KE.new (KE.new (KE.new (KE.new (KE.new (KE.new (KE.new (KE.new (KE.new (KE.new (KE.new (KE.new (KE.new (KE.new (KE.new (KE.new (KE.new (KE.new (KE.new (KE.new (KE.new (KE.new (KE.new (KE.new (KE.new (KE.new (KE.new (KE.new (KE.new (KE.new (KE.new (KE.new (KE.new (KE.new (KE.new (KE.new (KE.new (KE.new (KE.new (KE.new (KE.new (KE.new (KE.new (KE.new (KE.new (KE.new (KE.new (KE.new (KE.new (KE.new (KE.new (KE.new (KE.new (KE.new (KE.new (KE.new (KE.new (KE.new (KE.new (KE.new (KE.new (KE.new (KE.new KE.rf hq10 hK11) hq25 hK26) hq40 hK41) hq55 hK56) hq70 hK71) hq85 hK86) hq100 hK101) hq115 hK116) hq130 hK131) hq145 hK146) hq160 hK161) hq175 hK176) hq190 hK191) hq207 hK208) hq227 hK228) hq250 hK251) hq276 hK277) hq305 hK306) hq335 hK336) hq365 hK366) hq395 hK396) hq425 hK426) hq457 hK458) hq490 hK491) hq523 hK524) hq556 hK557) hq589 hK590) hq622 hK623) hq655 hK656) hq688 hK689) hq721 hK722) hq754 hK755) hq787 hK788) hq820 hK821) hq853 hK854) hq886 hK887) hq919 hK920) hq952 hK953) hq985 hK986) hq1018 hK1019) hq1051 hK1052) hq1084 hK1085) hq1117 hK1118) hq1150 hK1151) hq1183 hK1184) hq1216 hK1217) hq1249 hK1250) hq1282 hK1283) hq1315 hK1316) hq1348 hK1349) hq1381 hK1382) hq1414 hK1415) hq1447 hK1448) hq1480 hK1481) hq1513 hK1514) hq1546 hK1547) hq1579 hK1580) hq1612 hK1613) hq1645 hK1646) hq1678 hK1679) hq1711 hK1712) hq1744 hK1745) hq1777 hK1778) hq1810 hK1811) hq1843 hK1844) hq1876 hK1877) hq1909 hK1910) hq1944 hK1945) hq1982 hK1983) hq2023 hK2024) hq2065 hK2066) hq2109 hK2110) hq2154 hK2155) hq2199 hK2200) hq2244 hK2245) hq2291 hK2292) hq2339 hK2340) hq2387 hK2388) hq2435 hK2436) hq2483 hK2484) hq2531 hK2532) hq2579 hK2580) hq2627 hK2628) hq2675 hK2676) hq2723 hK2724) hq2771 hK2772) hq2819 hK2820) hq2881 hK2882) h2888 hq2929
  clear pf2915 kz2891 hz2916 kz2893 hz2917 kz2895 hz2918 kz2897 hz2919 kz2899 hz2920 kz2901 hz2921 kz2903 hz2922 kz2905 hz2923 kz2907 hz2924 kz2909 hz2925 kz2911 hz2926
  refine GO.putRF rfl rfl (by decide +kernel) h2936 fp_raw_fp_RX12_286 rfl rfl dX12_init_755 (fun V2962 e2961 => ?_)
  have pf2963 := PF.put pf2937 e2961 rfl
  have hz2964 : ∀ j, V2962 o188 j = .int 0 := fun j => (uq_ne e2961 (Or.inl (K_ne kz2939 h2936 (by decide)))).trans (hz2938 j)
  have hz2965 : ∀ j, V2962 o205 j = .int 0 := fun j => (uq_ne e2961 (Or.inl (K_ne kz2941 h2936 (by decide)))).trans (hz2940 j)
  have hz2966 : ∀ j, V2962 o225 j = .int 0 := fun j => (uq_ne e2961 (Or.inl (K_ne kz2943 h2936 (by decide)))).trans (hz2942 j)
  have hz2967 : ∀ j, V2962 o248 j = .int 0 := fun j => (uq_ne e2961 (Or.inl (K_ne kz2945 h2936 (by decide)))).trans (hz2944 j)
  have hz2968 : ∀ j, V2962 o274 j = .int 0 := fun j => (uq_ne e2961 (Or.inl (K_ne kz2947 h2936 (by decide)))).trans (hz2946 j)
  have hz2969 : ∀ j, V2962 o423 j = .int 0 := fun j => (uq_ne e2961 (Or.inl (K_ne kz2949 h2936 (by decide)))).trans (hz2948 j)
  have hz2970 : ∀ j, V2962 o1907 j = .int 0 := fun j => (uq_ne e2961 (Or.inl (K_ne kz2951 h2936 (by decide)))).trans (hz2950 j)
  have hz2971 : ∀ j, V2962 o1942 j = .int 0 := fun j => (uq_ne e2961 (Or.inl (K_ne kz2953 h2936 (by decide)))).trans (hz2952 j)
  have hz2972 : ∀ j, V2962 o1980 j = .int 0 := fun j => (uq_ne e2961 (Or.inl (K_ne kz2955 h2936 (by decide)))).trans (hz2954 j)
  have hz2973 : ∀ j, V2962 o2063 j = .int 0 := fun j => (uq_ne e2961 (Or.inl (K_ne kz2957 h2936 (by decide)))).trans (hz2956 j)
  have hz2974 : ∀ j, V2962 o2242 j = .int 0 := fun j => (uq_ne e2961 (Or.inl (K_ne kz2959 h2936 (by decide)))).trans (hz2958 j)
  clear pf2937 hz2938 hz2940 hz2942 hz2944 hz2946 hz2948 hz2950 hz2952 hz2954 hz2956 hz2958
  refine GO.aload_n dX12_init_758 rfl rfl ?_
  refine GO.sipush dX12_init_759 rfl ?_
  refine GO.newT (atype := .int) 98 480 gw_89 rfl rfl (fun _ _ h => h) rfl rfl rfl (Or.inr rfl) (fun _ => okv_df rfl rfl rfl) rfl rfl dX12_init_762 (fun o2975 K2976 V2982 hq2977 hK2978 hE2979 h2980 hz2983 hV2981 => ?_)
  have h2984 := (by rw [hK2978, updK_ne (K_old h2936 hq2977)]; exact h2936 : K2976 x = some (0, 23))
  have pf2985 := PF.nw pf2963 hV2981 (K_old h2936 hq2977)
  have kz2987 := hE2979.arr kz2939
  have hz2986 : ∀ j, V2982 o188 j = .int 0 := fun j => (congrFun (hV2981 _ (K_old kz2939 hq2977)) j).trans (hz2964 j)
  have kz2989 := hE2979.arr kz2941
  have hz2988 : ∀ j, V2982 o205 j = .int 0 := fun j => (congrFun (hV2981 _ (K_old kz2941 hq2977)) j).trans (hz2965 j)
  have kz2991 := hE2979.arr kz2943
  have hz2990 : ∀ j, V2982 o225 j = .int 0 := fun j => (congrFun (hV2981 _ (K_old kz2943 hq2977)) j).trans (hz2966 j)
  have kz2993 := hE2979.arr kz2945
  have hz2992 : ∀ j, V2982 o248 j = .int 0 := fun j => (congrFun (hV2981 _ (K_old kz2945 hq2977)) j).trans (hz2967 j)
  have kz2995 := hE2979.arr kz2947
  have hz2994 : ∀ j, V2982 o274 j = .int 0 := fun j => (congrFun (hV2981 _ (K_old kz2947 hq2977)) j).trans (hz2968 j)
  have kz2997 := hE2979.arr kz2949
  have hz2996 : ∀ j, V2982 o423 j = .int 0 := fun j => (congrFun (hV2981 _ (K_old kz2949 hq2977)) j).trans (hz2969 j)
  have kz2999 := hE2979.arr kz2951
  have hz2998 : ∀ j, V2982 o1907 j = .int 0 := fun j => (congrFun (hV2981 _ (K_old kz2951 hq2977)) j).trans (hz2970 j)
  have kz3001 := hE2979.arr kz2953
  have hz3000 : ∀ j, V2982 o1942 j = .int 0 := fun j => (congrFun (hV2981 _ (K_old kz2953 hq2977)) j).trans (hz2971 j)
  have kz3003 := hE2979.arr kz2955
  have hz3002 : ∀ j, V2982 o1980 j = .int 0 := fun j => (congrFun (hV2981 _ (K_old kz2955 hq2977)) j).trans (hz2972 j)
  have kz3005 := hE2979.arr kz2957
  have hz3004 : ∀ j, V2982 o2063 j = .int 0 := fun j => (congrFun (hV2981 _ (K_old kz2957 hq2977)) j).trans (hz2973 j)
  have kz3007 := hE2979.arr kz2959
  have hz3006 : ∀ j, V2982 o2242 j = .int 0 := fun j => (congrFun (hV2981 _ (K_old kz2959 hq2977)) j).trans (hz2974 j)
  have h3008 := KE.nw (KE.new (KE.new (KE.new (KE.new (KE.new (KE.new (KE.new (KE.new (KE.new (KE.new (KE.new (KE.new (KE.new (KE.new (KE.new (KE.new (KE.new (KE.new (KE.new (KE.new (KE.new (KE.new (KE.new (KE.new (KE.new (KE.new (KE.new (KE.new (KE.new (KE.new (KE.new (KE.new (KE.new (KE.new (KE.new (KE.new (KE.new (KE.new (KE.new (KE.new (KE.new (KE.new (KE.new (KE.new (KE.new (KE.new (KE.new (KE.new (KE.new (KE.new (KE.new (KE.new (KE.new (KE.new (KE.new (KE.new (KE.new (KE.new (KE.new (KE.new (KE.new (KE.new (KE.new (KE.new (KE.new (KE.new (KE.new (KE.new (KE.new (KE.new (KE.new (KE.new (KE.new (KE.new (KE.new (KE.new (KE.new (KE.new (KE.new (KE.new (KE.new (KE.new (KE.new (KE.new (KE.new (KE.new (KE.new (KE.new (KE.new KE.rf hq10 hK11) hq25 hK26) hq40 hK41) hq55 hK56) hq70 hK71) hq85 hK86) hq100 hK101) hq115 hK116) hq130 hK131) hq145 hK146) hq160 hK161) hq175 hK176) hq190 hK191) hq207 hK208) hq227 hK228) hq250 hK251) hq276 hK277) hq305 hK306) hq335 hK336) hq365 hK366) hq395 hK396) hq425 hK426) hq457 hK458) hq490 hK491) hq523 hK524) hq556 hK557) hq589 hK590) hq622 hK623) hq655 hK656) hq688 hK689) hq721 hK722) hq754 hK755) hq787 hK788) hq820 hK821) hq853 hK854) hq886 hK887) hq919 hK920) hq952 hK953) hq985 hK986) hq1018 hK1019) hq1051 hK1052) hq1084 hK1085) hq1117 hK1118) hq1150 hK1151) hq1183 hK1184) hq1216 hK1217) hq1249 hK1250) hq1282 hK1283) hq1315 hK1316) hq1348 hK1349) hq1381 hK1382) hq1414 hK1415) hq1447 hK1448) hq1480 hK1481) hq1513 hK1514) hq1546 hK1547) hq1579 hK1580) hq1612 hK1613) hq1645 hK1646) hq1678 hK1679) hq1711 hK1712) hq1744 hK1745) hq1777 hK1778) hq1810 hK1811) hq1843 hK1844) hq1876 hK1877) hq1909 hK1910) hq1944 hK1945) hq1982 hK1983) hq2023 hK2024) hq2065 hK2066) hq2109 hK2110) hq2154 hK2155) hq2199 hK2200) hq2244 hK2245) hq2291 hK2292) hq2339 hK2340) hq2387 hK2388) hq2435 hK2436) hq2483 hK2484) hq2531 hK2532) hq2579 hK2580) hq2627 hK2628) hq2675 hK2676) hq2723 hK2724) hq2771 hK2772) hq2819 hK2820) hq2881 hK2882) hq2929 hK2930) h2936 hq2977
  clear pf2963 kz2939 hz2964 kz2941 hz2965 kz2943 hz2966 kz2945 hz2967 kz2947 hz2968 kz2949 hz2969 kz2951 hz2970 kz2953 hz2971 kz2955 hz2972 kz2957 hz2973 kz2959 hz2974
  refine GO.putRF rfl rfl (by decide +kernel) h2984 fp_raw_fp_RX12_289 rfl rfl dX12_init_764 (fun V3010 e3009 => ?_)
  have pf3011 := PF.put pf2985 e3009 rfl
  have hz3012 : ∀ j, V3010 o188 j = .int 0 := fun j => (uq_ne e3009 (Or.inl (K_ne kz2987 h2984 (by decide)))).trans (hz2986 j)
  have hz3013 : ∀ j, V3010 o205 j = .int 0 := fun j => (uq_ne e3009 (Or.inl (K_ne kz2989 h2984 (by decide)))).trans (hz2988 j)
  have hz3014 : ∀ j, V3010 o225 j = .int 0 := fun j => (uq_ne e3009 (Or.inl (K_ne kz2991 h2984 (by decide)))).trans (hz2990 j)
  have hz3015 : ∀ j, V3010 o248 j = .int 0 := fun j => (uq_ne e3009 (Or.inl (K_ne kz2993 h2984 (by decide)))).trans (hz2992 j)
  have hz3016 : ∀ j, V3010 o274 j = .int 0 := fun j => (uq_ne e3009 (Or.inl (K_ne kz2995 h2984 (by decide)))).trans (hz2994 j)
  have hz3017 : ∀ j, V3010 o423 j = .int 0 := fun j => (uq_ne e3009 (Or.inl (K_ne kz2997 h2984 (by decide)))).trans (hz2996 j)
  have hz3018 : ∀ j, V3010 o1907 j = .int 0 := fun j => (uq_ne e3009 (Or.inl (K_ne kz2999 h2984 (by decide)))).trans (hz2998 j)
  have hz3019 : ∀ j, V3010 o1942 j = .int 0 := fun j => (uq_ne e3009 (Or.inl (K_ne kz3001 h2984 (by decide)))).trans (hz3000 j)
  have hz3020 : ∀ j, V3010 o1980 j = .int 0 := fun j => (uq_ne e3009 (Or.inl (K_ne kz3003 h2984 (by decide)))).trans (hz3002 j)
  have hz3021 : ∀ j, V3010 o2063 j = .int 0 := fun j => (uq_ne e3009 (Or.inl (K_ne kz3005 h2984 (by decide)))).trans (hz3004 j)
  have hz3022 : ∀ j, V3010 o2242 j = .int 0 := fun j => (uq_ne e3009 (Or.inl (K_ne kz3007 h2984 (by decide)))).trans (hz3006 j)
  clear pf2985 hz2986 hz2988 hz2990 hz2992 hz2994 hz2996 hz2998 hz3000 hz3002 hz3004 hz3006
  refine GO.aload_n dX12_init_767 rfl rfl ?_
  refine GO.bipush dX12_init_768 rfl ?_
  refine GO.newT (atype := .int) 99 10 gw_89 rfl rfl (fun _ _ h => h) rfl rfl rfl (Or.inr rfl) (fun _ => okv_df rfl rfl rfl) rfl rfl dX12_init_770 (fun o3023 K3024 V3030 hq3025 hK3026 hE3027 h3028 hz3031 hV3029 => ?_)
  have h3032 := (by rw [hK3026, updK_ne (K_old h2984 hq3025)]; exact h2984 : K3024 x = some (0, 23))
  have pf3033 := PF.nw pf3011 hV3029 (K_old h2984 hq3025)
  have kz3035 := hE3027.arr kz2987
  have hz3034 : ∀ j, V3030 o188 j = .int 0 := fun j => (congrFun (hV3029 _ (K_old kz2987 hq3025)) j).trans (hz3012 j)
  have kz3037 := hE3027.arr kz2989
  have hz3036 : ∀ j, V3030 o205 j = .int 0 := fun j => (congrFun (hV3029 _ (K_old kz2989 hq3025)) j).trans (hz3013 j)
  have kz3039 := hE3027.arr kz2991
  have hz3038 : ∀ j, V3030 o225 j = .int 0 := fun j => (congrFun (hV3029 _ (K_old kz2991 hq3025)) j).trans (hz3014 j)
  have kz3041 := hE3027.arr kz2993
  have hz3040 : ∀ j, V3030 o248 j = .int 0 := fun j => (congrFun (hV3029 _ (K_old kz2993 hq3025)) j).trans (hz3015 j)
  have kz3043 := hE3027.arr kz2995
  have hz3042 : ∀ j, V3030 o274 j = .int 0 := fun j => (congrFun (hV3029 _ (K_old kz2995 hq3025)) j).trans (hz3016 j)
  have kz3045 := hE3027.arr kz2997
  have hz3044 : ∀ j, V3030 o423 j = .int 0 := fun j => (congrFun (hV3029 _ (K_old kz2997 hq3025)) j).trans (hz3017 j)
  have kz3047 := hE3027.arr kz2999
  have hz3046 : ∀ j, V3030 o1907 j = .int 0 := fun j => (congrFun (hV3029 _ (K_old kz2999 hq3025)) j).trans (hz3018 j)
  have kz3049 := hE3027.arr kz3001
  have hz3048 : ∀ j, V3030 o1942 j = .int 0 := fun j => (congrFun (hV3029 _ (K_old kz3001 hq3025)) j).trans (hz3019 j)
  have kz3051 := hE3027.arr kz3003
  have hz3050 : ∀ j, V3030 o1980 j = .int 0 := fun j => (congrFun (hV3029 _ (K_old kz3003 hq3025)) j).trans (hz3020 j)
  have kz3053 := hE3027.arr kz3005
  have hz3052 : ∀ j, V3030 o2063 j = .int 0 := fun j => (congrFun (hV3029 _ (K_old kz3005 hq3025)) j).trans (hz3021 j)
  have kz3055 := hE3027.arr kz3007
  have hz3054 : ∀ j, V3030 o2242 j = .int 0 := fun j => (congrFun (hV3029 _ (K_old kz3007 hq3025)) j).trans (hz3022 j)
  have h3056 := KE.nw (KE.new (KE.new (KE.new (KE.new (KE.new (KE.new (KE.new (KE.new (KE.new (KE.new (KE.new (KE.new (KE.new (KE.new (KE.new (KE.new (KE.new (KE.new (KE.new (KE.new (KE.new (KE.new (KE.new (KE.new (KE.new (KE.new (KE.new (KE.new (KE.new (KE.new (KE.new (KE.new (KE.new (KE.new (KE.new (KE.new (KE.new (KE.new (KE.new (KE.new (KE.new (KE.new (KE.new (KE.new (KE.new (KE.new (KE.new (KE.new (KE.new (KE.new (KE.new (KE.new (KE.new (KE.new (KE.new (KE.new (KE.new (KE.new (KE.new (KE.new (KE.new (KE.new (KE.new (KE.new (KE.new (KE.new (KE.new (KE.new (KE.new (KE.new (KE.new (KE.new (KE.new (KE.new (KE.new (KE.new (KE.new (KE.new (KE.new (KE.new (KE.new (KE.new (KE.new (KE.new (KE.new (KE.new (KE.new (KE.new (KE.new (KE.new KE.rf hq10 hK11) hq25 hK26) hq40 hK41) hq55 hK56) hq70 hK71) hq85 hK86) hq100 hK101) hq115 hK116) hq130 hK131) hq145 hK146) hq160 hK161) hq175 hK176) hq190 hK191) hq207 hK208) hq227 hK228) hq250 hK251) hq276 hK277) hq305 hK306) hq335 hK336) hq365 hK366) hq395 hK396) hq425 hK426) hq457 hK458) hq490 hK491) hq523 hK524) hq556 hK557) hq589 hK590) hq622 hK623) hq655 hK656) hq688 hK689) hq721 hK722) hq754 hK755) hq787 hK788) hq820 hK821) hq853 hK854) hq886 hK887) hq919 hK920) hq952 hK953) hq985 hK986) hq1018 hK1019) hq1051 hK1052) hq1084 hK1085) hq1117 hK1118) hq1150 hK1151) hq1183 hK1184) hq1216 hK1217) hq1249 hK1250) hq1282 hK1283) hq1315 hK1316) hq1348 hK1349) hq1381 hK1382) hq1414 hK1415) hq1447 hK1448) hq1480 hK1481) hq1513 hK1514) hq1546 hK1547) hq1579 hK1580) hq1612 hK1613) hq1645 hK1646) hq1678 hK1679) hq1711 hK1712) hq1744 hK1745) hq1777 hK1778) hq1810 hK1811) hq1843 hK1844) hq1876 hK1877) hq1909 hK1910) hq1944 hK1945) hq1982 hK1983) hq2023 hK2024) hq2065 hK2066) hq2109 hK2110) hq2154 hK2155) hq2199 hK2200) hq2244 hK2245) hq2291 hK2292) hq2339 hK2340) hq2387 hK2388) hq2435 hK2436) hq2483 hK2484) hq2531 hK2532) hq2579 hK2580) hq2627 hK2628) hq2675 hK2676) hq2723 hK2724) hq2771 hK2772) hq2819 hK2820) hq2881 hK2882) hq2929 hK2930) hq2977 hK2978) h2984 hq3025
  clear pf3011 kz2987 hz3012 kz2989 hz3013 kz2991 hz3014 kz2993 hz3015 kz2995 hz3016 kz2997 hz3017 kz2999 hz3018 kz3001 hz3019 kz3003 hz3020 kz3005 hz3021 kz3007 hz3022
  refine GO.putRF rfl rfl (by decide +kernel) h3032 fp_raw_fp_RX12_292 rfl rfl dX12_init_772 (fun V3058 e3057 => ?_)
  have pf3059 := PF.put pf3033 e3057 rfl
  have hz3060 : ∀ j, V3058 o188 j = .int 0 := fun j => (uq_ne e3057 (Or.inl (K_ne kz3035 h3032 (by decide)))).trans (hz3034 j)
  have hz3061 : ∀ j, V3058 o205 j = .int 0 := fun j => (uq_ne e3057 (Or.inl (K_ne kz3037 h3032 (by decide)))).trans (hz3036 j)
  have hz3062 : ∀ j, V3058 o225 j = .int 0 := fun j => (uq_ne e3057 (Or.inl (K_ne kz3039 h3032 (by decide)))).trans (hz3038 j)
  have hz3063 : ∀ j, V3058 o248 j = .int 0 := fun j => (uq_ne e3057 (Or.inl (K_ne kz3041 h3032 (by decide)))).trans (hz3040 j)
  have hz3064 : ∀ j, V3058 o274 j = .int 0 := fun j => (uq_ne e3057 (Or.inl (K_ne kz3043 h3032 (by decide)))).trans (hz3042 j)
  have hz3065 : ∀ j, V3058 o423 j = .int 0 := fun j => (uq_ne e3057 (Or.inl (K_ne kz3045 h3032 (by decide)))).trans (hz3044 j)
  have hz3066 : ∀ j, V3058 o1907 j = .int 0 := fun j => (uq_ne e3057 (Or.inl (K_ne kz3047 h3032 (by decide)))).trans (hz3046 j)
  have hz3067 : ∀ j, V3058 o1942 j = .int 0 := fun j => (uq_ne e3057 (Or.inl (K_ne kz3049 h3032 (by decide)))).trans (hz3048 j)
  have hz3068 : ∀ j, V3058 o1980 j = .int 0 := fun j => (uq_ne e3057 (Or.inl (K_ne kz3051 h3032 (by decide)))).trans (hz3050 j)
  have hz3069 : ∀ j, V3058 o2063 j = .int 0 := fun j => (uq_ne e3057 (Or.inl (K_ne kz3053 h3032 (by decide)))).trans (hz3052 j)
  have hz3070 : ∀ j, V3058 o2242 j = .int 0 := fun j => (uq_ne e3057 (Or.inl (K_ne kz3055 h3032 (by decide)))).trans (hz3054 j)
  clear pf3033 hz3034 hz3036 hz3038 hz3040 hz3042 hz3044 hz3046 hz3048 hz3050 hz3052 hz3054
  refine GO.aload_n dX12_init_775 rfl rfl ?_
  refine GO.bipush dX12_init_776 rfl ?_
  refine GO.newT (atype := .int) 100 10 gw_89 rfl rfl (fun _ _ h => h) rfl rfl rfl (Or.inr rfl) (fun _ => okv_df rfl rfl rfl) rfl rfl dX12_init_778 (fun o3071 K3072 V3078 hq3073 hK3074 hE3075 h3076 hz3079 hV3077 => ?_)
  have h3080 := (by rw [hK3074, updK_ne (K_old h3032 hq3073)]; exact h3032 : K3072 x = some (0, 23))
  have pf3081 := PF.nw pf3059 hV3077 (K_old h3032 hq3073)
  have kz3083 := hE3075.arr kz3035
  have hz3082 : ∀ j, V3078 o188 j = .int 0 := fun j => (congrFun (hV3077 _ (K_old kz3035 hq3073)) j).trans (hz3060 j)
  have kz3085 := hE3075.arr kz3037
  have hz3084 : ∀ j, V3078 o205 j = .int 0 := fun j => (congrFun (hV3077 _ (K_old kz3037 hq3073)) j).trans (hz3061 j)
  have kz3087 := hE3075.arr kz3039
  have hz3086 : ∀ j, V3078 o225 j = .int 0 := fun j => (congrFun (hV3077 _ (K_old kz3039 hq3073)) j).trans (hz3062 j)
  have kz3089 := hE3075.arr kz3041
  have hz3088 : ∀ j, V3078 o248 j = .int 0 := fun j => (congrFun (hV3077 _ (K_old kz3041 hq3073)) j).trans (hz3063 j)
  have kz3091 := hE3075.arr kz3043
  have hz3090 : ∀ j, V3078 o274 j = .int 0 := fun j => (congrFun (hV3077 _ (K_old kz3043 hq3073)) j).trans (hz3064 j)
  have kz3093 := hE3075.arr kz3045
  have hz3092 : ∀ j, V3078 o423 j = .int 0 := fun j => (congrFun (hV3077 _ (K_old kz3045 hq3073)) j).trans (hz3065 j)
  have kz3095 := hE3075.arr kz3047
  have hz3094 : ∀ j, V3078 o1907 j = .int 0 := fun j => (congrFun (hV3077 _ (K_old kz3047 hq3073)) j).trans (hz3066 j)
  have kz3097 := hE3075.arr kz3049
  have hz3096 : ∀ j, V3078 o1942 j = .int 0 := fun j => (congrFun (hV3077 _ (K_old kz3049 hq3073)) j).trans (hz3067 j)
  have kz3099 := hE3075.arr kz3051
  have hz3098 : ∀ j, V3078 o1980 j = .int 0 := fun j => (congrFun (hV3077 _ (K_old kz3051 hq3073)) j).trans (hz3068 j)
  have kz3101 := hE3075.arr kz3053
  have hz3100 : ∀ j, V3078 o2063 j = .int 0 := fun j => (congrFun (hV3077 _ (K_old kz3053 hq3073)) j).trans (hz3069 j)
  have kz3103 := hE3075.arr kz3055
  have hz3102 : ∀ j, V3078 o2242 j = .int 0 := fun j => (congrFun (hV3077 _ (K_old kz3055 hq3073)) j).trans (hz3070 j)
  have h3104 := KE.nw (KE.new (KE.new (KE.new (KE.new (KE.new (KE.new (KE.new (KE.new (KE.new (KE.new (KE.new (KE.new (KE.new (KE.new (KE.new (KE.new (KE.new (KE.new (KE.new (KE.new (KE.new (KE.new (KE.new (KE.new (KE.new (KE.new (KE.new (KE.new (KE.new (KE.new (KE.new (KE.new (KE.new (KE.new (KE.new (KE.new (KE.new (KE.new (KE.new (KE.new (KE.new (KE.new (KE.new (KE.new (KE.new (KE.new (KE.new (KE.new (KE.new (KE.new (KE.new (KE.new (KE.new (KE.new (KE.new (KE.new (KE.new (KE.new (KE.new (KE.new (KE.new (KE.new (KE.new (KE.new (KE.new (KE.new (KE.new (KE.new (KE.new (KE.new (KE.new (KE.new (KE.new (KE.new (KE.new (KE.new (KE.new (KE.new (KE.new (KE.new (KE.new (KE.new (KE.new (KE.new (KE.new (KE.new (KE.new (KE.new (KE.new (KE.new (KE.new KE.rf hq10 hK11) hq25 hK26) hq40 hK41) hq55 hK56) hq70 hK71) hq85 hK86) hq100 hK101) hq115 hK116) hq130 hK131) hq145 hK146) hq160 hK161) hq175 hK176) hq190 hK191) hq207 hK208) hq227 hK228) hq250 hK251) hq276 hK277) hq305 hK306) hq335 hK336) hq365 hK366) hq395 hK396) hq425 hK426) hq457 hK458) hq490 hK491) hq523 hK524) hq556 hK557) hq589 hK590) hq622 hK623) hq655 hK656) hq688 hK689) hq721 hK722) hq754 hK755) hq787 hK788) hq820 hK821) hq853 hK854) hq886 hK887) hq919 hK920) hq952 hK953) hq985 hK986) hq1018 hK1019) hq1051 hK1052) hq1084 hK1085) hq1117 hK1118) hq1150 hK1151) hq1183 hK1184) hq1216 hK1217) hq1249 hK1250) hq1282 hK1283) hq1315 hK1316) hq1348 hK1349) hq1381 hK1382) hq1414 hK1415) hq1447 hK1448) hq1480 hK1481) hq1513 hK1514) hq1546 hK1547) hq1579 hK1580) hq1612 hK1613) hq1645 hK1646) hq1678 hK1679) hq1711 hK1712) hq1744 hK1745) hq1777 hK1778) hq1810 hK1811) hq1843 hK1844) hq1876 hK1877) hq1909 hK1910) hq1944 hK1945) hq1982 hK1983) hq2023 hK2024) hq2065 hK2066) hq2109 hK2110) hq2154 hK2155) hq2199 hK2200) hq2244 hK2245) hq2291 hK2292) hq2339 hK2340) hq2387 hK2388) hq2435 hK2436) hq2483 hK2484) hq2531 hK2532) hq2579 hK2580) hq2627 hK2628) hq2675 hK2676) hq2723 hK2724) hq2771 hK2772) hq2819 hK2820) hq2881 hK2882) hq2929 hK2930) hq2977 hK2978) hq3025 hK3026) h3032 hq3073
  clear pf3059 kz3035 hz3060 kz3037 hz3061 kz3039 hz3062 kz3041 hz3063 kz3043 hz3064 kz3045 hz3065 kz3047 hz3066 kz3049 hz3067 kz3051 hz3068 kz3053 hz3069 kz3055 hz3070
  refine GO.putRF rfl rfl (by decide +kernel) h3080 fp_raw_fp_RX12_295 rfl rfl dX12_init_780 (fun V3106 e3105 => ?_)
  have pf3107 := PF.put pf3081 e3105 rfl
  have hz3108 : ∀ j, V3106 o188 j = .int 0 := fun j => (uq_ne e3105 (Or.inl (K_ne kz3083 h3080 (by decide)))).trans (hz3082 j)
  have hz3109 : ∀ j, V3106 o205 j = .int 0 := fun j => (uq_ne e3105 (Or.inl (K_ne kz3085 h3080 (by decide)))).trans (hz3084 j)
  have hz3110 : ∀ j, V3106 o225 j = .int 0 := fun j => (uq_ne e3105 (Or.inl (K_ne kz3087 h3080 (by decide)))).trans (hz3086 j)
  have hz3111 : ∀ j, V3106 o248 j = .int 0 := fun j => (uq_ne e3105 (Or.inl (K_ne kz3089 h3080 (by decide)))).trans (hz3088 j)
  have hz3112 : ∀ j, V3106 o274 j = .int 0 := fun j => (uq_ne e3105 (Or.inl (K_ne kz3091 h3080 (by decide)))).trans (hz3090 j)
  have hz3113 : ∀ j, V3106 o423 j = .int 0 := fun j => (uq_ne e3105 (Or.inl (K_ne kz3093 h3080 (by decide)))).trans (hz3092 j)
  have hz3114 : ∀ j, V3106 o1907 j = .int 0 := fun j => (uq_ne e3105 (Or.inl (K_ne kz3095 h3080 (by decide)))).trans (hz3094 j)
  have hz3115 : ∀ j, V3106 o1942 j = .int 0 := fun j => (uq_ne e3105 (Or.inl (K_ne kz3097 h3080 (by decide)))).trans (hz3096 j)
  have hz3116 : ∀ j, V3106 o1980 j = .int 0 := fun j => (uq_ne e3105 (Or.inl (K_ne kz3099 h3080 (by decide)))).trans (hz3098 j)
  have hz3117 : ∀ j, V3106 o2063 j = .int 0 := fun j => (uq_ne e3105 (Or.inl (K_ne kz3101 h3080 (by decide)))).trans (hz3100 j)
  have hz3118 : ∀ j, V3106 o2242 j = .int 0 := fun j => (uq_ne e3105 (Or.inl (K_ne kz3103 h3080 (by decide)))).trans (hz3102 j)
  clear pf3081 hz3082 hz3084 hz3086 hz3088 hz3090 hz3092 hz3094 hz3096 hz3098 hz3100 hz3102
  refine GO.aload_n dX12_init_783 rfl rfl ?_
  refine GO.bipush dX12_init_784 rfl ?_
  refine GO.newT (atype := .int) 101 10 gw_89 rfl rfl (fun _ _ h => h) rfl rfl rfl (Or.inr rfl) (fun _ => okv_df rfl rfl rfl) rfl rfl dX12_init_786 (fun o3119 K3120 V3126 hq3121 hK3122 hE3123 h3124 hz3127 hV3125 => ?_)
  have h3128 := (by rw [hK3122, updK_ne (K_old h3080 hq3121)]; exact h3080 : K3120 x = some (0, 23))
  have pf3129 := PF.nw pf3107 hV3125 (K_old h3080 hq3121)
  have kz3131 := hE3123.arr kz3083
  have hz3130 : ∀ j, V3126 o188 j = .int 0 := fun j => (congrFun (hV3125 _ (K_old kz3083 hq3121)) j).trans (hz3108 j)
  have kz3133 := hE3123.arr kz3085
  have hz3132 : ∀ j, V3126 o205 j = .int 0 := fun j => (congrFun (hV3125 _ (K_old kz3085 hq3121)) j).trans (hz3109 j)
  have kz3135 := hE3123.arr kz3087
  have hz3134 : ∀ j, V3126 o225 j = .int 0 := fun j => (congrFun (hV3125 _ (K_old kz3087 hq3121)) j).trans (hz3110 j)
  have kz3137 := hE3123.arr kz3089
  have hz3136 : ∀ j, V3126 o248 j = .int 0 := fun j => (congrFun (hV3125 _ (K_old kz3089 hq3121)) j).trans (hz3111 j)
  have kz3139 := hE3123.arr kz3091
  have hz3138 : ∀ j, V3126 o274 j = .int 0 := fun j => (congrFun (hV3125 _ (K_old kz3091 hq3121)) j).trans (hz3112 j)
  have kz3141 := hE3123.arr kz3093
  have hz3140 : ∀ j, V3126 o423 j = .int 0 := fun j => (congrFun (hV3125 _ (K_old kz3093 hq3121)) j).trans (hz3113 j)
  have kz3143 := hE3123.arr kz3095
  have hz3142 : ∀ j, V3126 o1907 j = .int 0 := fun j => (congrFun (hV3125 _ (K_old kz3095 hq3121)) j).trans (hz3114 j)
  have kz3145 := hE3123.arr kz3097
  have hz3144 : ∀ j, V3126 o1942 j = .int 0 := fun j => (congrFun (hV3125 _ (K_old kz3097 hq3121)) j).trans (hz3115 j)
  have kz3147 := hE3123.arr kz3099
  have hz3146 : ∀ j, V3126 o1980 j = .int 0 := fun j => (congrFun (hV3125 _ (K_old kz3099 hq3121)) j).trans (hz3116 j)
  have kz3149 := hE3123.arr kz3101
  have hz3148 : ∀ j, V3126 o2063 j = .int 0 := fun j => (congrFun (hV3125 _ (K_old kz3101 hq3121)) j).trans (hz3117 j)
  have kz3151 := hE3123.arr kz3103
  have hz3150 : ∀ j, V3126 o2242 j = .int 0 := fun j => (congrFun (hV3125 _ (K_old kz3103 hq3121)) j).trans (hz3118 j)
  have h3152 := KE.nw (KE.new (KE.new (KE.new (KE.new (KE.new (KE.new (KE.new (KE.new (KE.new (KE.new (KE.new (KE.new (KE.new (KE.new (KE.new (KE.new (KE.new (KE.new (KE.new (KE.new (KE.new (KE.new (KE.new (KE.new (KE.new (KE.new (KE.new (KE.new (KE.new (KE.new (KE.new (KE.new (KE.new (KE.new (KE.new (KE.new (KE.new (KE.new (KE.new (KE.new (KE.new (KE.new (KE.new (KE.new (KE.new (KE.new (KE.new (KE.new (KE.new (KE.new (KE.new (KE.new (KE.new (KE.new (KE.new (KE.new (KE.new (KE.new (KE.new (KE.new (KE.new (KE.new (KE.new (KE.new (KE.new (KE.new (KE.new (KE.new (KE.new (KE.new (KE.new (KE.new (KE.new (KE.new (KE.new (KE.new (KE.new (KE.new (KE.new (KE.new (KE.new (KE.new (KE.new (KE.new (KE.new (KE.new (KE.new (KE.new (KE.new (KE.new (KE.new (KE.new KE.rf hq10 hK11) hq25 hK26) hq40 hK41) hq55 hK56) hq70 hK71) hq85 hK86) hq100 hK101) hq115 hK116) hq130 hK131) hq145 hK146) hq160 hK161) hq175 hK176) hq190 hK191) hq207 hK208) hq227 hK228) hq250 hK251) hq276 hK277) hq305 hK306) hq335 hK336) hq365 hK366) hq395 hK396) hq425 hK426) hq457 hK458) hq490 hK491) hq523 hK524) hq556 hK557) hq589 hK590) hq622 hK623) hq655 hK656) hq688 hK689) hq721 hK722) hq754 hK755) hq787 hK788) hq820 hK821) hq853 hK854) hq886 hK887) hq919 hK920) hq952 hK953) hq985 hK986) hq1018 hK1019) hq1051 hK1052) hq1084 hK1085) hq1117 hK1118) hq1150 hK1151) hq1183 hK1184) hq1216 hK1217) hq1249 hK1250) hq1282 hK1283) hq1315 hK1316) hq1348 hK1349) hq1381 hK1382) hq1414 hK1415) hq1447 hK1448) hq1480 hK1481) hq1513 hK1514) hq1546 hK1547) hq1579 hK1580) hq1612 hK1613) hq1645 hK1646) hq1678 hK1679) hq1711 hK1712) hq1744 hK1745) hq1777 hK1778) hq1810 hK1811) hq1843 hK1844) hq1876 hK1877) hq1909 hK1910) hq1944 hK1945) hq1982 hK1983) hq2023 hK2024) hq2065 hK2066) hq2109 hK2110) hq2154 hK2155) hq2199 hK2200) hq2244 hK2245) hq2291 hK2292) hq2339 hK2340) hq2387 hK2388) hq2435 hK2436) hq2483 hK2484) hq2531 hK2532) hq2579 hK2580) hq2627 hK2628) hq2675 hK2676) hq2723 hK2724) hq2771 hK2772) hq2819 hK2820) hq2881 hK2882) hq2929 hK2930) hq2977 hK2978) hq3025 hK3026) hq3073 hK3074) h3080 hq3121
  clear pf3107 kz3083 hz3108 kz3085 hz3109 kz3087 hz3110 kz3089 hz3111 kz3091 hz3112 kz3093 hz3113 kz3095 hz3114 kz3097 hz3115 kz3099 hz3116 kz3101 hz3117 kz3103 hz3118
  refine GO.putRF rfl rfl (by decide +kernel) h3128 fp_raw_fp_RX12_298 rfl rfl dX12_init_788 (fun V3154 e3153 => ?_)
  have pf3155 := PF.put pf3129 e3153 rfl
  have hz3156 : ∀ j, V3154 o188 j = .int 0 := fun j => (uq_ne e3153 (Or.inl (K_ne kz3131 h3128 (by decide)))).trans (hz3130 j)
  have hz3157 : ∀ j, V3154 o205 j = .int 0 := fun j => (uq_ne e3153 (Or.inl (K_ne kz3133 h3128 (by decide)))).trans (hz3132 j)
  have hz3158 : ∀ j, V3154 o225 j = .int 0 := fun j => (uq_ne e3153 (Or.inl (K_ne kz3135 h3128 (by decide)))).trans (hz3134 j)
  have hz3159 : ∀ j, V3154 o248 j = .int 0 := fun j => (uq_ne e3153 (Or.inl (K_ne kz3137 h3128 (by decide)))).trans (hz3136 j)
  have hz3160 : ∀ j, V3154 o274 j = .int 0 := fun j => (uq_ne e3153 (Or.inl (K_ne kz3139 h3128 (by decide)))).trans (hz3138 j)
  have hz3161 : ∀ j, V3154 o423 j = .int 0 := fun j => (uq_ne e3153 (Or.inl (K_ne kz3141 h3128 (by decide)))).trans (hz3140 j)
  have hz3162 : ∀ j, V3154 o1907 j = .int 0 := fun j => (uq_ne e3153 (Or.inl (K_ne kz3143 h3128 (by decide)))).trans (hz3142 j)
  have hz3163 : ∀ j, V3154 o1942 j = .int 0 := fun j => (uq_ne e3153 (Or.inl (K_ne kz3145 h3128 (by decide)))).trans (hz3144 j)
  have hz3164 : ∀ j, V3154 o1980 j = .int 0 := fun j => (uq_ne e3153 (Or.inl (K_ne kz3147 h3128 (by decide)))).trans (hz3146 j)
  have hz3165 : ∀ j, V3154 o2063 j = .int 0 := fun j => (uq_ne e3153 (Or.inl (K_ne kz3149 h3128 (by decide)))).trans (hz3148 j)
  have hz3166 : ∀ j, V3154 o2242 j = .int 0 := fun j => (uq_ne e3153 (Or.inl (K_ne kz3151 h3128 (by decide)))).trans (hz3150 j)
  clear pf3129 hz3130 hz3132 hz3134 hz3136 hz3138 hz3140 hz3142 hz3144 hz3146 hz3148 hz3150
  refine GO.aload_n dX12_init_791 rfl rfl ?_
  refine GO.bipush dX12_init_792 rfl ?_
  refine GO.newT (atype := .int) 102 10 gw_89 rfl rfl (fun _ _ h => h) rfl rfl rfl (Or.inr rfl) (fun _ => okv_df rfl rfl rfl) rfl rfl dX12_init_794 (fun o3167 K3168 V3174 hq3169 hK3170 hE3171 h3172 hz3175 hV3173 => ?_)
  have h3176 := (by rw [hK3170, updK_ne (K_old h3128 hq3169)]; exact h3128 : K3168 x = some (0, 23))
  have pf3177 := PF.nw pf3155 hV3173 (K_old h3128 hq3169)
  have kz3179 := hE3171.arr kz3131
  have hz3178 : ∀ j, V3174 o188 j = .int 0 := fun j => (congrFun (hV3173 _ (K_old kz3131 hq3169)) j).trans (hz3156 j)
  have kz3181 := hE3171.arr kz3133
  have hz3180 : ∀ j, V3174 o205 j = .int 0 := fun j => (congrFun (hV3173 _ (K_old kz3133 hq3169)) j).trans (hz3157 j)
  have kz3183 := hE3171.arr kz3135
  have hz3182 : ∀ j, V3174 o225 j = .int 0 := fun j => (congrFun (hV3173 _ (K_old kz3135 hq3169)) j).trans (hz3158 j)
  have kz3185 := hE3171.arr kz3137
  have hz3184 : ∀ j, V3174 o248 j = .int 0 := fun j => (congrFun (hV3173 _ (K_old kz3137 hq3169)) j).trans (hz3159 j)
  have kz3187 := hE3171.arr kz3139
  have hz3186 : ∀ j, V3174 o274 j = .int 0 := fun j => (congrFun (hV3173 _ (K_old kz3139 hq3169)) j).trans (hz3160 j)
  have kz3189 := hE3171.arr kz3141
  have hz3188 : ∀ j, V3174 o423 j = .int 0 := fun j => (congrFun (hV3173 _ (K_old kz3141 hq3169)) j).trans (hz3161 j)
  have kz3191 := hE3171.arr kz3143
  have hz3190 : ∀ j, V3174 o1907 j = .int 0 := fun j => (congrFun (hV3173 _ (K_old kz3143 hq3169)) j).trans (hz3162 j)
  have kz3193 := hE3171.arr kz3145
  have hz3192 : ∀ j, V3174 o1942 j = .int 0 := fun j => (congrFun (hV3173 _ (K_old kz3145 hq3169)) j).trans (hz3163 j)
  have kz3195 := hE3171.arr kz3147
  have hz3194 : ∀ j, V3174 o1980 j = .int 0 := fun j => (congrFun (hV3173 _ (K_old kz3147 hq3169)) j).trans (hz3164 j)
  have kz3197 := hE3171.arr kz3149
  have hz3196 : ∀ j, V3174 o2063 j = .int 0 := fun j => (congrFun (hV3173 _ (K_old kz3149 hq3169)) j).trans (hz3165 j)
  have kz3199 := hE3171.arr kz3151
  have hz3198 : ∀ j, V3174 o2242 j = .int 0 := fun j => (congrFun (hV3173 _ (K_old kz3151 hq3169)) j).trans (hz3166 j)
  have h3200 := KE.nw (KE.new (KE.new (KE.new (KE.new (KE.new (KE.new (KE.new (KE.new (KE.new (KE.new (KE.new (KE.new (KE.new (KE.new (KE.new (KE.new (KE.new (KE.new (KE.new (KE.new (KE.new (KE.new (KE.new (KE.new (KE.new (KE.new (KE.new (KE.new (KE.new (KE.new (KE.new (KE.new (KE.new (KE.new (KE.new (KE.new (KE.new (KE.new (KE.new (KE.new (KE.new (KE.new (KE.new (KE.new (KE.new (KE.new (KE.new (KE.new (KE.new (KE.new (KE.new (KE.new (KE.new (KE.new (KE.new (KE.new (KE.new (KE.new (KE.new (KE.new (KE.new (KE.new (KE.new (KE.new (KE.new (KE.new (KE.new (KE.new (KE.new (KE.new (KE.new (KE.new (KE.new (KE.new (KE.new (KE.new (KE.new (KE.new (KE.new (KE.new (KE.new (KE.new (KE.new (KE.new (KE.new (KE.new (KE.new (KE.new (KE.new (KE.new (KE.new (KE.new (KE.new KE.rf hq10 hK11) hq25 hK26) hq40 hK41) hq55 hK56) hq70 hK71) hq85 hK86) hq100 hK101) hq115 hK116) hq130 hK131) hq145 hK146) hq160 hK161) hq175 hK176) hq190 hK191) hq207 hK208) hq227 hK228) hq250 hK251) hq276 hK277) hq305 hK306) hq335 hK336) hq365 hK366) hq395 hK396) hq425 hK426) hq457 hK458) hq490 hK491) hq523 hK524) hq556 hK557) hq589 hK590) hq622 hK623) hq655 hK656) hq688 hK689) hq721 hK722) hq754 hK755) hq787 hK788) hq820 hK821) hq853 hK854) hq886 hK887) hq919 hK920) hq952 hK953) hq985 hK986) hq1018 hK1019) hq1051 hK1052) hq1084 hK1085) hq1117 hK1118) hq1150 hK1151) hq1183 hK1184) hq1216 hK1217) hq1249 hK1250) hq1282 hK1283) hq1315 hK1316) hq1348 hK1349) hq1381 hK1382) hq1414 hK1415) hq1447 hK1448) hq1480 hK1481) hq1513 hK1514) hq1546 hK1547) hq1579 hK1580) hq1612 hK1613) hq1645 hK1646) hq1678 hK1679) hq1711 hK1712) hq1744 hK1745) hq1777 hK1778) hq1810 hK1811) hq1843 hK1844) hq1876 hK1877) hq1909 hK1910) hq1944 hK1945) hq1982 hK1983) hq2023 hK2024) hq2065 hK2066) hq2109 hK2110) hq2154 hK2155) hq2199 hK2200) hq2244 hK2245) hq2291 hK2292) hq2339 hK2340) hq2387 hK2388) hq2435 hK2436) hq2483 hK2484) hq2531 hK2532) hq2579 hK2580) hq2627 hK2628) hq2675 hK2676) hq2723 hK2724) hq2771 hK2772) hq2819 hK2820) hq2881 hK2882) hq2929 hK2930) hq2977 hK2978) hq3025 hK3026) hq3073 hK3074) hq3121 hK3122) h3128 hq3169
  clear pf3155 kz3131 hz3156 kz3133 hz3157 kz3135 hz3158 kz3137 hz3159 kz3139 hz3160 kz3141 hz3161 kz3143 hz3162 kz3145 hz3163 kz3147 hz3164 kz3149 hz3165 kz3151 hz3166
  refine GO.putRF rfl rfl (by decide +kernel) h3176 fp_raw_fp_RX12_301 rfl rfl dX12_init_796 (fun V3202 e3201 => ?_)
  have pf3203 := PF.put pf3177 e3201 rfl
  have hz3204 : ∀ j, V3202 o188 j = .int 0 := fun j => (uq_ne e3201 (Or.inl (K_ne kz3179 h3176 (by decide)))).trans (hz3178 j)
  have hz3205 : ∀ j, V3202 o205 j = .int 0 := fun j => (uq_ne e3201 (Or.inl (K_ne kz3181 h3176 (by decide)))).trans (hz3180 j)
  have hz3206 : ∀ j, V3202 o225 j = .int 0 := fun j => (uq_ne e3201 (Or.inl (K_ne kz3183 h3176 (by decide)))).trans (hz3182 j)
  have hz3207 : ∀ j, V3202 o248 j = .int 0 := fun j => (uq_ne e3201 (Or.inl (K_ne kz3185 h3176 (by decide)))).trans (hz3184 j)
  have hz3208 : ∀ j, V3202 o274 j = .int 0 := fun j => (uq_ne e3201 (Or.inl (K_ne kz3187 h3176 (by decide)))).trans (hz3186 j)
  have hz3209 : ∀ j, V3202 o423 j = .int 0 := fun j => (uq_ne e3201 (Or.inl (K_ne kz3189 h3176 (by decide)))).trans (hz3188 j)
  have hz3210 : ∀ j, V3202 o1907 j = .int 0 := fun j => (uq_ne e3201 (Or.inl (K_ne kz3191 h3176 (by decide)))).trans (hz3190 j)
  have hz3211 : ∀ j, V3202 o1942 j = .int 0 := fun j => (uq_ne e3201 (Or.inl (K_ne kz3193 h3176 (by decide)))).trans (hz3192 j)
  have hz3212 : ∀ j, V3202 o1980 j = .int 0 := fun j => (uq_ne e3201 (Or.inl (K_ne kz3195 h3176 (by decide)))).trans (hz3194 j)
  have hz3213 : ∀ j, V3202 o2063 j = .int 0 := fun j => (uq_ne e3201 (Or.inl (K_ne kz3197 h3176 (by decide)))).trans (hz3196 j)
  have hz3214 : ∀ j, V3202 o2242 j = .int 0 := fun j => (uq_ne e3201 (Or.inl (K_ne kz3199 h3176 (by decide)))).trans (hz3198 j)
  clear pf3177 hz3178 hz3180 hz3182 hz3184 hz3186 hz3188 hz3190 hz3192 hz3194 hz3196 hz3198
  refine GO.aload_n dX12_init_799 rfl rfl ?_
  refine GO.sipush dX12_init_800 rfl ?_
  refine GO.newT (atype := .int) 103 200 gw_89 rfl rfl (fun _ _ h => h) rfl rfl rfl (Or.inr rfl) (fun _ => okv_df rfl rfl rfl) rfl rfl dX12_init_803 (fun o3215 K3216 V3222 hq3217 hK3218 hE3219 h3220 hz3223 hV3221 => ?_)
  have h3224 := (by rw [hK3218, updK_ne (K_old h3176 hq3217)]; exact h3176 : K3216 x = some (0, 23))
  have pf3225 := PF.nw pf3203 hV3221 (K_old h3176 hq3217)
  have kz3227 := hE3219.arr kz3179
  have hz3226 : ∀ j, V3222 o188 j = .int 0 := fun j => (congrFun (hV3221 _ (K_old kz3179 hq3217)) j).trans (hz3204 j)
  have kz3229 := hE3219.arr kz3181
  have hz3228 : ∀ j, V3222 o205 j = .int 0 := fun j => (congrFun (hV3221 _ (K_old kz3181 hq3217)) j).trans (hz3205 j)
  have kz3231 := hE3219.arr kz3183
  have hz3230 : ∀ j, V3222 o225 j = .int 0 := fun j => (congrFun (hV3221 _ (K_old kz3183 hq3217)) j).trans (hz3206 j)
  have kz3233 := hE3219.arr kz3185
  have hz3232 : ∀ j, V3222 o248 j = .int 0 := fun j => (congrFun (hV3221 _ (K_old kz3185 hq3217)) j).trans (hz3207 j)
  have kz3235 := hE3219.arr kz3187
  have hz3234 : ∀ j, V3222 o274 j = .int 0 := fun j => (congrFun (hV3221 _ (K_old kz3187 hq3217)) j).trans (hz3208 j)
  have kz3237 := hE3219.arr kz3189
  have hz3236 : ∀ j, V3222 o423 j = .int 0 := fun j => (congrFun (hV3221 _ (K_old kz3189 hq3217)) j).trans (hz3209 j)
  have kz3239 := hE3219.arr kz3191
  have hz3238 : ∀ j, V3222 o1907 j = .int 0 := fun j => (congrFun (hV3221 _ (K_old kz3191 hq3217)) j).trans (hz3210 j)
  have kz3241 := hE3219.arr kz3193
  have hz3240 : ∀ j, V3222 o1942 j = .int 0 := fun j => (congrFun (hV3221 _ (K_old kz3193 hq3217)) j).trans (hz3211 j)
  have kz3243 := hE3219.arr kz3195
  have hz3242 : ∀ j, V3222 o1980 j = .int 0 := fun j => (congrFun (hV3221 _ (K_old kz3195 hq3217)) j).trans (hz3212 j)
  have kz3245 := hE3219.arr kz3197
  have hz3244 : ∀ j, V3222 o2063 j = .int 0 := fun j => (congrFun (hV3221 _ (K_old kz3197 hq3217)) j).trans (hz3213 j)
  have kz3247 := hE3219.arr kz3199
  have hz3246 : ∀ j, V3222 o2242 j = .int 0 := fun j => (congrFun (hV3221 _ (K_old kz3199 hq3217)) j).trans (hz3214 j)
  have h3248 := KE.nw (KE.new (KE.new (KE.new (KE.new (KE.new (KE.new (KE.new (KE.new (KE.new (KE.new (KE.new (KE.new (KE.new (KE.new (KE.new (KE.new (KE.new (KE.new (KE.new (KE.new (KE.new (KE.new (KE.new (KE.new (KE.new (KE.new (KE.new (KE.new (KE.new (KE.new (KE.new (KE.new (KE.new (KE.new (KE.new (KE.new (KE.new (KE.new (KE.new (KE.new (KE.new (KE.new (KE.new (KE.new (KE.new (KE.new (KE.new (KE.new (KE.new (KE.new (KE.new (KE.new (KE.new (KE.new (KE.new (KE.new (KE.new (KE.new (KE.new (KE.new (KE.new (KE.new (KE.new (KE.new (KE.new (KE.new (KE.new (KE.new (KE.new (KE.new (KE.new (KE.new (KE.new (KE.new (KE.new (KE.new (KE.new (KE.new (KE.new (KE.new (KE.new (KE.new (KE.new (KE.new (KE.new (KE.new (KE.new (KE.new (KE.new (KE.new (KE.new (KE.new (KE.new (KE.new KE.rf hq10 hK11) hq25 hK26) hq40 hK41) hq55 hK56) hq70 hK71) hq85 hK86) hq100 hK101) hq115 hK116) hq130 hK131) hq145 hK146) hq160 hK161) hq175 hK176) hq190 hK191) hq207 hK208) hq227 hK228) hq250 hK251) hq276 hK277) hq305 hK306) hq335 hK336) hq365 hK366) hq395 hK396) hq425 hK426) hq457 hK458) hq490 hK491) hq523 hK524) hq556 hK557) hq589 hK590) hq622 hK623) hq655 hK656) hq688 hK689) hq721 hK722) hq754 hK755) hq787 hK788) hq820 hK821) hq853 hK854) hq886 hK887) hq919 hK920) hq952 hK953) hq985 hK986) hq1018 hK1019) hq1051 hK1052) hq1084 hK1085) hq1117 hK1118) hq1150 hK1151) hq1183 hK1184) hq1216 hK1217) hq1249 hK1250) hq1282 hK1283) hq1315 hK1316) hq1348 hK1349) hq1381 hK1382) hq1414 hK1415) hq1447 hK1448) hq1480 hK1481) hq1513 hK1514) hq1546 hK1547) hq1579 hK1580) hq1612 hK1613) hq1645 hK1646) hq1678 hK1679) hq1711 hK1712) hq1744 hK1745) hq1777 hK1778) hq1810 hK1811) hq1843 hK1844) hq1876 hK1877) hq1909 hK1910) hq1944 hK1945) hq1982 hK1983) hq2023 hK2024) hq2065 hK2066) hq2109 hK2110) hq2154 hK2155) hq2199 hK2200) hq2244 hK2245) hq2291 hK2292) hq2339 hK2340) hq2387 hK2388) hq2435 hK2436) hq2483 hK2484) hq2531 hK2532) hq2579 hK2580) hq2627 hK2628) hq2675 hK2676) hq2723 hK2724) hq2771 hK2772) hq2819 hK2820) hq2881 hK2882) hq2929 hK2930) hq2977 hK2978) hq3025 hK3026) hq3073 hK3074) hq3121 hK3122) hq3169 hK3170) h3176 hq3217
  clear pf3203 kz3179 hz3204 kz3181 hz3205 kz3183 hz3206 kz3185 hz3207 kz3187 hz3208 kz3189 hz3209 kz3191 hz3210 kz3193 hz3211 kz3195 hz3212 kz3197 hz3213 kz3199 hz3214
  refine GO.putRF rfl rfl (by decide +kernel) h3224 fp_raw_fp_RX12_304 rfl rfl dX12_init_805 (fun V3250 e3249 => ?_)
  have pf3251 := PF.put pf3225 e3249 rfl
  have hz3252 : ∀ j, V3250 o188 j = .int 0 := fun j => (uq_ne e3249 (Or.inl (K_ne kz3227 h3224 (by decide)))).trans (hz3226 j)
  have hz3253 : ∀ j, V3250 o205 j = .int 0 := fun j => (uq_ne e3249 (Or.inl (K_ne kz3229 h3224 (by decide)))).trans (hz3228 j)
  have hz3254 : ∀ j, V3250 o225 j = .int 0 := fun j => (uq_ne e3249 (Or.inl (K_ne kz3231 h3224 (by decide)))).trans (hz3230 j)
  have hz3255 : ∀ j, V3250 o248 j = .int 0 := fun j => (uq_ne e3249 (Or.inl (K_ne kz3233 h3224 (by decide)))).trans (hz3232 j)
  have hz3256 : ∀ j, V3250 o274 j = .int 0 := fun j => (uq_ne e3249 (Or.inl (K_ne kz3235 h3224 (by decide)))).trans (hz3234 j)
  have hz3257 : ∀ j, V3250 o423 j = .int 0 := fun j => (uq_ne e3249 (Or.inl (K_ne kz3237 h3224 (by decide)))).trans (hz3236 j)
  have hz3258 : ∀ j, V3250 o1907 j = .int 0 := fun j => (uq_ne e3249 (Or.inl (K_ne kz3239 h3224 (by decide)))).trans (hz3238 j)
  have hz3259 : ∀ j, V3250 o1942 j = .int 0 := fun j => (uq_ne e3249 (Or.inl (K_ne kz3241 h3224 (by decide)))).trans (hz3240 j)
  have hz3260 : ∀ j, V3250 o1980 j = .int 0 := fun j => (uq_ne e3249 (Or.inl (K_ne kz3243 h3224 (by decide)))).trans (hz3242 j)
  have hz3261 : ∀ j, V3250 o2063 j = .int 0 := fun j => (uq_ne e3249 (Or.inl (K_ne kz3245 h3224 (by decide)))).trans (hz3244 j)
  have hz3262 : ∀ j, V3250 o2242 j = .int 0 := fun j => (uq_ne e3249 (Or.inl (K_ne kz3247 h3224 (by decide)))).trans (hz3246 j)
  clear pf3225 hz3226 hz3228 hz3230 hz3232 hz3234 hz3236 hz3238 hz3240 hz3242 hz3244 hz3246
  refine GO.aload_n dX12_init_808 rfl rfl ?_
  refine GO.sipush dX12_init_809 rfl ?_
  refine GO.newT (atype := .int) 104 200 gw_89 rfl rfl (fun _ _ h => h) rfl rfl rfl (Or.inr rfl) (fun _ => okv_df rfl rfl rfl) rfl rfl dX12_init_812 (fun o3263 K3264 V3270 hq3265 hK3266 hE3267 h3268 hz3271 hV3269 => ?_)
  have h3272 := (by rw [hK3266, updK_ne (K_old h3224 hq3265)]; exact h3224 : K3264 x = some (0, 23))
  have pf3273 := PF.nw pf3251 hV3269 (K_old h3224 hq3265)
  have kz3275 := hE3267.arr kz3227
  have hz3274 : ∀ j, V3270 o188 j = .int 0 := fun j => (congrFun (hV3269 _ (K_old kz3227 hq3265)) j).trans (hz3252 j)
  have kz3277 := hE3267.arr kz3229
  have hz3276 : ∀ j, V3270 o205 j = .int 0 := fun j => (congrFun (hV3269 _ (K_old kz3229 hq3265)) j).trans (hz3253 j)
  have kz3279 := hE3267.arr kz3231
  have hz3278 : ∀ j, V3270 o225 j = .int 0 := fun j => (congrFun (hV3269 _ (K_old kz3231 hq3265)) j).trans (hz3254 j)
  have kz3281 := hE3267.arr kz3233
  have hz3280 : ∀ j, V3270 o248 j = .int 0 := fun j => (congrFun (hV3269 _ (K_old kz3233 hq3265)) j).trans (hz3255 j)
  have kz3283 := hE3267.arr kz3235
  have hz3282 : ∀ j, V3270 o274 j = .int 0 := fun j => (congrFun (hV3269 _ (K_old kz3235 hq3265)) j).trans (hz3256 j)
  have kz3285 := hE3267.arr kz3237
  have hz3284 : ∀ j, V3270 o423 j = .int 0 := fun j => (congrFun (hV3269 _ (K_old kz3237 hq3265)) j).trans (hz3257 j)
  have kz3287 := hE3267.arr kz3239
  have hz3286 : ∀ j, V3270 o1907 j = .int 0 := fun j => (congrFun (hV3269 _ (K_old kz3239 hq3265)) j).trans (hz3258 j)
  have kz3289 := hE3267.arr kz3241
  have hz3288 : ∀ j, V3270 o1942 j = .int 0 := fun j => (congrFun (hV3269 _ (K_old kz3241 hq3265)) j).trans (hz3259 j)
  have kz3291 := hE3267.arr kz3243
  have hz3290 : ∀ j, V3270 o1980 j = .int 0 := fun j => (congrFun (hV3269 _ (K_old kz3243 hq3265)) j).trans (hz3260 j)
  have kz3293 := hE3267.arr kz3245
  have hz3292 : ∀ j, V3270 o2063 j = .int 0 := fun j => (congrFun (hV3269 _ (K_old kz3245 hq3265)) j).trans (hz3261 j)
  have kz3295 := hE3267.arr kz3247
  have hz3294 : ∀ j, V3270 o2242 j = .int 0 := fun j => (congrFun (hV3269 _ (K_old kz3247 hq3265)) j).trans (hz3262 j)
  have h3296 := KE.nw (KE.new (KE.new (KE.new (KE.new (KE.new (KE.new (KE.new (KE.new (KE.new (KE.new (KE.new (KE.new (KE.new (KE.new (KE.new (KE.new (KE.new (KE.new (KE.new (KE.new (KE.new (KE.new (KE.new (KE.new (KE.new (KE.new (KE.new (KE.new (KE.new (KE.new (KE.new (KE.new (KE.new (KE.new (KE.new (KE.new (KE.new (KE.new (KE.new (KE.new (KE.new (KE.new (KE.new (KE.new (KE.new (KE.new (KE.new (KE.new (KE.new (KE.new (KE.new (KE.new (KE.new (KE.new (KE.new (KE.new (KE.new (KE.new (KE.new (KE.new (KE.new (KE.new (KE.new (KE.new (KE.new (KE.new (KE.new (KE.new (KE.new (KE.new (KE.new (KE.new (KE.new (KE.new (KE.new (KE.new (KE.new (KE.new (KE.new (KE.new (KE.new (KE.new (KE.new (KE.new (KE.new (KE.new (KE.new (KE.new (KE.new (KE.new (KE.new (KE.new (KE.new (KE.new (KE.new KE.rf hq10 hK11) hq25 hK26) hq40 hK41) hq55 hK56) hq70 hK71) hq85 hK86) hq100 hK101) hq115 hK116) hq130 hK131) hq145 hK146) hq160 hK161) hq175 hK176) hq190 hK191) hq207 hK208) hq227 hK228) hq250 hK251) hq276 hK277) hq305 hK306) hq335 hK336) hq365 hK366) hq395 hK396) hq425 hK426) hq457 hK458) hq490 hK491) hq523 hK524) hq556 hK557) hq589 hK590) hq622 hK623) hq655 hK656) hq688 hK689) hq721 hK722) hq754 hK755) hq787 hK788) hq820 hK821) hq853 hK854) hq886 hK887) hq919 hK920) hq952 hK953) hq985 hK986) hq1018 hK1019) hq1051 hK1052) hq1084 hK1085) hq1117 hK1118) hq1150 hK1151) hq1183 hK1184) hq1216 hK1217) hq1249 hK1250) hq1282 hK1283) hq1315 hK1316) hq1348 hK1349) hq1381 hK1382) hq1414 hK1415) hq1447 hK1448) hq1480 hK1481) hq1513 hK1514) hq1546 hK1547) hq1579 hK1580) hq1612 hK1613) hq1645 hK1646) hq1678 hK1679) hq1711 hK1712) hq1744 hK1745) hq1777 hK1778) hq1810 hK1811) hq1843 hK1844) hq1876 hK1877) hq1909 hK1910) hq1944 hK1945) hq1982 hK1983) hq2023 hK2024) hq2065 hK2066) hq2109 hK2110) hq2154 hK2155) hq2199 hK2200) hq2244 hK2245) hq2291 hK2292) hq2339 hK2340) hq2387 hK2388) hq2435 hK2436) hq2483 hK2484) hq2531 hK2532) hq2579 hK2580) hq2627 hK2628) hq2675 hK2676) hq2723 hK2724) hq2771 hK2772) hq2819 hK2820) hq2881 hK2882) hq2929 hK2930) hq2977 hK2978) hq3025 hK3026) hq3073 hK3074) hq3121 hK3122) hq3169 hK3170) hq3217 hK3218) h3224 hq3265
  clear pf3251 kz3227 hz3252 kz3229 hz3253 kz3231 hz3254 kz3233 hz3255 kz3235 hz3256 kz3237 hz3257 kz3239 hz3258 kz3241 hz3259 kz3243 hz3260 kz3245 hz3261 kz3247 hz3262
  refine GO.putRF rfl rfl (by decide +kernel) h3272 fp_raw_fp_RX12_307 rfl rfl dX12_init_814 (fun V3298 e3297 => ?_)
  have pf3299 := PF.put pf3273 e3297 rfl
  have hz3300 : ∀ j, V3298 o188 j = .int 0 := fun j => (uq_ne e3297 (Or.inl (K_ne kz3275 h3272 (by decide)))).trans (hz3274 j)
  have hz3301 : ∀ j, V3298 o205 j = .int 0 := fun j => (uq_ne e3297 (Or.inl (K_ne kz3277 h3272 (by decide)))).trans (hz3276 j)
  have hz3302 : ∀ j, V3298 o225 j = .int 0 := fun j => (uq_ne e3297 (Or.inl (K_ne kz3279 h3272 (by decide)))).trans (hz3278 j)
  have hz3303 : ∀ j, V3298 o248 j = .int 0 := fun j => (uq_ne e3297 (Or.inl (K_ne kz3281 h3272 (by decide)))).trans (hz3280 j)
  have hz3304 : ∀ j, V3298 o274 j = .int 0 := fun j => (uq_ne e3297 (Or.inl (K_ne kz3283 h3272 (by decide)))).trans (hz3282 j)
  have hz3305 : ∀ j, V3298 o423 j = .int 0 := fun j => (uq_ne e3297 (Or.inl (K_ne kz3285 h3272 (by decide)))).trans (hz3284 j)
  have hz3306 : ∀ j, V3298 o1907 j = .int 0 := fun j => (uq_ne e3297 (Or.inl (K_ne kz3287 h3272 (by decide)))).trans (hz3286 j)
  have hz3307 : ∀ j, V3298 o1942 j = .int 0 := fun j => (uq_ne e3297 (Or.inl (K_ne kz3289 h3272 (by decide)))).trans (hz3288 j)
  have hz3308 : ∀ j, V3298 o1980 j = .int 0 := fun j => (uq_ne e3297 (Or.inl (K_ne kz3291 h3272 (by decide)))).trans (hz3290 j)
  have hz3309 : ∀ j, V3298 o2063 j = .int 0 := fun j => (uq_ne e3297 (Or.inl (K_ne kz3293 h3272 (by decide)))).trans (hz3292 j)
  have hz3310 : ∀ j, V3298 o2242 j = .int 0 := fun j => (uq_ne e3297 (Or.inl (K_ne kz3295 h3272 (by decide)))).trans (hz3294 j)
  clear pf3273 hz3274 hz3276 hz3278 hz3280 hz3282 hz3284 hz3286 hz3288 hz3290 hz3292 hz3294
  refine GO.aload_n dX12_init_817 rfl rfl ?_
  refine GO.sipush dX12_init_818 rfl ?_
  refine GO.newT (atype := .int) 105 200 gw_89 rfl rfl (fun _ _ h => h) rfl rfl rfl (Or.inr rfl) (fun _ => okv_df rfl rfl rfl) rfl rfl dX12_init_821 (fun o3311 K3312 V3318 hq3313 hK3314 hE3315 h3316 hz3319 hV3317 => ?_)
  have h3320 := (by rw [hK3314, updK_ne (K_old h3272 hq3313)]; exact h3272 : K3312 x = some (0, 23))
  have pf3321 := PF.nw pf3299 hV3317 (K_old h3272 hq3313)
  have kz3323 := hE3315.arr kz3275
  have hz3322 : ∀ j, V3318 o188 j = .int 0 := fun j => (congrFun (hV3317 _ (K_old kz3275 hq3313)) j).trans (hz3300 j)
  have kz3325 := hE3315.arr kz3277
  have hz3324 : ∀ j, V3318 o205 j = .int 0 := fun j => (congrFun (hV3317 _ (K_old kz3277 hq3313)) j).trans (hz3301 j)
  have kz3327 := hE3315.arr kz3279
  have hz3326 : ∀ j, V3318 o225 j = .int 0 := fun j => (congrFun (hV3317 _ (K_old kz3279 hq3313)) j).trans (hz3302 j)
  have kz3329 := hE3315.arr kz3281
  have hz3328 : ∀ j, V3318 o248 j = .int 0 := fun j => (congrFun (hV3317 _ (K_old kz3281 hq3313)) j).trans (hz3303 j)
  have kz3331 := hE3315.arr kz3283
  have hz3330 : ∀ j, V3318 o274 j = .int 0 := fun j => (congrFun (hV3317 _ (K_old kz3283 hq3313)) j).trans (hz3304 j)
  have kz3333 := hE3315.arr kz3285
  have hz3332 : ∀ j, V3318 o423 j = .int 0 := fun j => (congrFun (hV3317 _ (K_old kz3285 hq3313)) j).trans (hz3305 j)
  have kz3335 := hE3315.arr kz3287
  have hz3334 : ∀ j, V3318 o1907 j = .int 0 := fun j => (congrFun (hV3317 _ (K_old kz3287 hq3313)) j).trans (hz3306 j)
  have kz3337 := hE3315.arr kz3289
  have hz3336 : ∀ j, V3318 o1942 j = .int 0 := fun j => (congrFun (hV3317 _ (K_old kz3289 hq3313)) j).trans (hz3307 j)
  have kz3339 := hE3315.arr kz3291
  have hz3338 : ∀ j, V3318 o1980 j = .int 0 := fun j => (congrFun (hV3317 _ (K_old kz3291 hq3313)) j).trans (hz3308 j)
  have kz3341 := hE3315.arr kz3293
  have hz3340 : ∀ j, V3318 o2063 j = .int 0 := fun j => (congrFun (hV3317 _ (K_old kz3293 hq3313)) j).trans (hz3309 j)
  have kz3343 := hE3315.arr kz3295
  have hz3342 : ∀ j, V3318 o2242 j = .int 0 := fun j => (congrFun (hV3317 _ (K_old kz3295 hq3313)) j).trans (hz3310 j)
  have h3344 := KE.nw (KE.new (KE.new (KE.new (KE.new (KE.new (KE.new (KE.new (KE.new (KE.new (KE.new (KE.new (KE.new (KE.new (KE.new (KE.new (KE.new (KE.new (KE.new (KE.new (KE.new (KE.new (KE.new (KE.new (KE.new (KE.new (KE.new (KE.new (KE.new (KE.new (KE.new (KE.new (KE.new (KE.new (KE.new (KE.new (KE.new (KE.new (KE.new (KE.new (KE.new (KE.new (KE.new (KE.new (KE.new (KE.new (KE.new (KE.new (KE.new (KE.new (KE.new (KE.new (KE.new (KE.new (KE.new (KE.new (KE.new (KE.new (KE.new (KE.new (KE.new (KE.new (KE.new (KE.new (KE.new (KE.new (KE.new (KE.new (KE.new (KE.new (KE.new (KE.new (KE.new (KE.new (KE.new (KE.new (KE.new (KE.new (KE.new (KE.new (KE.new (KE.new (KE.new (KE.new (KE.new (KE.new (KE.new (KE.new (KE.new (KE.new (KE.new (KE.new (KE.new (KE.new (KE.new (KE.new (KE.new KE.rf hq10 hK11) hq25 hK26) hq40 hK41) hq55 hK56) hq70 hK71) hq85 hK86) hq100 hK101) hq115 hK116) hq130 hK131) hq145 hK146) hq160 hK161) hq175 hK176) hq190 hK191) hq207 hK208) hq227 hK228) hq250 hK251) hq276 hK277) hq305 hK306) hq335 hK336) hq365 hK366) hq395 hK396) hq425 hK426) hq457 hK458) hq490 hK491) hq523 hK524) hq556 hK557) hq589 hK590) hq622 hK623) hq655 hK656) hq688 hK689) hq721 hK722) hq754 hK755) hq787 hK788) hq820 hK821) hq853 hK854) hq886 hK887) hq919 hK920) hq952 hK953) hq985 hK986) hq1018 hK1019) hq1051 hK1052) hq1084 hK1085) hq1117 hK1118) hq1150 hK1151) hq1183 hK1184) hq1216 hK1217) hq1249 hK1250) hq1282 hK1283) hq1315 hK1316) hq1348 hK1349) hq1381 hK1382) hq1414 hK1415) hq1447 hK1448) hq1480 hK1481) hq1513 hK1514) hq1546 hK1547) hq1579 hK1580) hq1612 hK1613) hq1645 hK1646) hq1678 hK1679) hq1711 hK1712) hq1744 hK1745) hq1777 hK1778) hq1810 hK1811) hq1843 hK1844) hq1876 hK1877) hq1909 hK1910) hq1944 hK1945) hq1982 hK1983) hq2023 hK2024) hq2065 hK2066) hq2109 hK2110) hq2154 hK2155) hq2199 hK2200) hq2244 hK2245) hq2291 hK2292) hq2339 hK2340) hq2387 hK2388) hq2435 hK2436) hq2483 hK2484) hq2531 hK2532) hq2579 hK2580) hq2627 hK2628) hq2675 hK2676) hq2723 hK2724) hq2771 hK2772) hq2819 hK2820) hq2881 hK2882) hq2929 hK2930) hq2977 hK2978) hq3025 hK3026) hq3073 hK3074) hq3121 hK3122) hq3169 hK3170) hq3217 hK3218) hq3265 hK3266) h3272 hq3313
  clear pf3299 kz3275 hz3300 kz3277 hz3301 kz3279 hz3302 kz3281 hz3303 kz3283 hz3304 kz3285 hz3305 kz3287 hz3306 kz3289 hz3307 kz3291 hz3308 kz3293 hz3309 kz3295 hz3310
  refine GO.putRF rfl rfl (by decide +kernel) h3320 fp_raw_fp_RX12_310 rfl rfl dX12_init_823 (fun V3346 e3345 => ?_)
  have pf3347 := PF.put pf3321 e3345 rfl
  have hz3348 : ∀ j, V3346 o188 j = .int 0 := fun j => (uq_ne e3345 (Or.inl (K_ne kz3323 h3320 (by decide)))).trans (hz3322 j)
  have hz3349 : ∀ j, V3346 o205 j = .int 0 := fun j => (uq_ne e3345 (Or.inl (K_ne kz3325 h3320 (by decide)))).trans (hz3324 j)
  have hz3350 : ∀ j, V3346 o225 j = .int 0 := fun j => (uq_ne e3345 (Or.inl (K_ne kz3327 h3320 (by decide)))).trans (hz3326 j)
  have hz3351 : ∀ j, V3346 o248 j = .int 0 := fun j => (uq_ne e3345 (Or.inl (K_ne kz3329 h3320 (by decide)))).trans (hz3328 j)
  have hz3352 : ∀ j, V3346 o274 j = .int 0 := fun j => (uq_ne e3345 (Or.inl (K_ne kz3331 h3320 (by decide)))).trans (hz3330 j)
  have hz3353 : ∀ j, V3346 o423 j = .int 0 := fun j => (uq_ne e3345 (Or.inl (K_ne kz3333 h3320 (by decide)))).trans (hz3332 j)
  have hz3354 : ∀ j, V3346 o1907 j = .int 0 := fun j => (uq_ne e3345 (Or.inl (K_ne kz3335 h3320 (by decide)))).trans (hz3334 j)
  have hz3355 : ∀ j, V3346 o1942 j = .int 0 := fun j => (uq_ne e3345 (Or.inl (K_ne kz3337 h3320 (by decide)))).trans (hz3336 j)
  have hz3356 : ∀ j, V3346 o1980 j = .int 0 := fun j => (uq_ne e3345 (Or.inl (K_ne kz3339 h3320 (by decide)))).trans (hz3338 j)
  have hz3357 : ∀ j, V3346 o2063 j = .int 0 := fun j => (uq_ne e3345 (Or.inl (K_ne kz3341 h3320 (by decide)))).trans (hz3340 j)
  have hz3358 : ∀ j, V3346 o2242 j = .int 0 := fun j => (uq_ne e3345 (Or.inl (K_ne kz3343 h3320 (by decide)))).trans (hz3342 j)
  clear pf3321 hz3322 hz3324 hz3326 hz3328 hz3330 hz3332 hz3334 hz3336 hz3338 hz3340 hz3342
  refine GO.aload_n dX12_init_826 rfl rfl ?_
  refine GO.sipush dX12_init_827 rfl ?_
  refine GO.newT (atype := .int) 106 200 gw_89 rfl rfl (fun _ _ h => h) rfl rfl rfl (Or.inr rfl) (fun _ => okv_df rfl rfl rfl) rfl rfl dX12_init_830 (fun o3359 K3360 V3366 hq3361 hK3362 hE3363 h3364 hz3367 hV3365 => ?_)
  have h3368 := (by rw [hK3362, updK_ne (K_old h3320 hq3361)]; exact h3320 : K3360 x = some (0, 23))
  have pf3369 := PF.nw pf3347 hV3365 (K_old h3320 hq3361)
  have kz3371 := hE3363.arr kz3323
  have hz3370 : ∀ j, V3366 o188 j = .int 0 := fun j => (congrFun (hV3365 _ (K_old kz3323 hq3361)) j).trans (hz3348 j)
  have kz3373 := hE3363.arr kz3325
  have hz3372 : ∀ j, V3366 o205 j = .int 0 := fun j => (congrFun (hV3365 _ (K_old kz3325 hq3361)) j).trans (hz3349 j)
  have kz3375 := hE3363.arr kz3327
  have hz3374 : ∀ j, V3366 o225 j = .int 0 := fun j => (congrFun (hV3365 _ (K_old kz3327 hq3361)) j).trans (hz3350 j)
  have kz3377 := hE3363.arr kz3329
  have hz3376 : ∀ j, V3366 o248 j = .int 0 := fun j => (congrFun (hV3365 _ (K_old kz3329 hq3361)) j).trans (hz3351 j)
  have kz3379 := hE3363.arr kz3331
  have hz3378 : ∀ j, V3366 o274 j = .int 0 := fun j => (congrFun (hV3365 _ (K_old kz3331 hq3361)) j).trans (hz3352 j)
  have kz3381 := hE3363.arr kz3333
  have hz3380 : ∀ j, V3366 o423 j = .int 0 := fun j => (congrFun (hV3365 _ (K_old kz3333 hq3361)) j).trans (hz3353 j)
  have kz3383 := hE3363.arr kz3335
  have hz3382 : ∀ j, V3366 o1907 j = .int 0 := fun j => (congrFun (hV3365 _ (K_old kz3335 hq3361)) j).trans (hz3354 j)
  have kz3385 := hE3363.arr kz3337
  have hz3384 : ∀ j, V3366 o1942 j = .int 0 := fun j => (congrFun (hV3365 _ (K_old kz3337 hq3361)) j).trans (hz3355 j)
  have kz3387 := hE3363.arr kz3339
  have hz3386 : ∀ j, V3366 o1980 j = .int 0 := fun j => (congrFun (hV3365 _ (K_old kz3339 hq3361)) j).trans (hz3356 j)
  have kz3389 := hE3363.arr kz3341
  have hz3388 : ∀ j, V3366 o2063 j = .int 0 := fun j => (congrFun (hV3365 _ (K_old kz3341 hq3361)) j).trans (hz3357 j)
  have kz3391 := hE3363.arr kz3343
  have hz3390 : ∀ j, V3366 o2242 j = .int 0 := fun j => (congrFun (hV3365 _ (K_old kz3343 hq3361)) j).trans (hz3358 j)
  have h3392 := KE.nw (KE.new (KE.new (KE.new (KE.new (KE.new (KE.new (KE.new (KE.new (KE.new (KE.new (KE.new (KE.new (KE.new (KE.new (KE.new (KE.new (KE.new (KE.new (KE.new (KE.new (KE.new (KE.new (KE.new (KE.new (KE.new (KE.new (KE.new (KE.new (KE.new (KE.new (KE.new (KE.new (KE.new (KE.new (KE.new (KE.new (KE.new (KE.new (KE.new (KE.new (KE.new (KE.new (KE.new (KE.new (KE.new (KE.new (KE.new (KE.new (KE.new (KE.new (KE.new (KE.new (KE.new (KE.new (KE.new (KE.new (KE.new (KE.new (KE.new (KE.new (KE.new (KE.new (KE.new (KE.new (KE.new (KE.new (KE.new (KE.new (KE.new (KE.new (KE.new (KE.new (KE.new (KE.new (KE.new (KE.new (KE.new (KE.new (KE.new (KE.new (KE.new (KE.new (KE.new (KE.new (KE.new (KE.new (KE.new (KE.new (KE.new (KE.new (KE.new (KE.new (KE.new (KE.new (KE.new (KE.new (KE.new KE.rf hq10 hK11) hq25 hK26) hq40 hK41) hq55 hK56) hq70 hK71) hq85 hK86) hq100 hK101) hq115 hK116) hq130 hK131) hq145 hK146) hq160 hK161) hq175 hK176) hq190 hK191) hq207 hK208) hq227 hK228) hq250 hK251) hq276 hK277) hq305 hK306) hq335 hK336) hq365 hK366) hq395 hK396) hq425 hK426) hq457 hK458) hq490 hK491) hq523 hK524) hq556 hK557) hq589 hK590) hq622 hK623) hq655 hK656) hq688 hK689) hq721 hK722) hq754 hK755) hq787 hK788) hq820 hK821) hq853 hK854) hq886 hK887) hq919 hK920) hq952 hK953) hq985 hK986) hq1018 hK1019) hq1051 hK1052) hq1084 hK1085) hq1117 hK1118) hq1150 hK1151) hq1183 hK1184) hq1216 hK1217) hq1249 hK1250) hq1282 hK1283) hq1315 hK1316) hq1348 hK1349) hq1381 hK1382) hq1414 hK1415) hq1447 hK1448) hq1480 hK1481) hq1513 hK1514) hq1546 hK1547) hq1579 hK1580) hq1612 hK1613) hq1645 hK1646) hq1678 hK1679) hq1711 hK1712) hq1744 hK1745) hq1777 hK1778) hq1810 hK1811) hq1843 hK1844) hq1876 hK1877) hq1909 hK1910) hq1944 hK1945) hq1982 hK1983) hq2023 hK2024) hq2065 hK2066) hq2109 hK2110) hq2154 hK2155) hq2199 hK2200) hq2244 hK2245) hq2291 hK2292) hq2339 hK2340) hq2387 hK2388) hq2435 hK2436) hq2483 hK2484) hq2531 hK2532) hq2579 hK2580) hq2627 hK2628) hq2675 hK2676) hq2723 hK2724) hq2771 hK2772) hq2819 hK2820) hq2881 hK2882) hq2929 hK2930) hq2977 hK2978) hq3025 hK3026) hq3073 hK3074) hq3121 hK3122) hq3169 hK3170) hq3217 hK3218) hq3265 hK3266) hq3313 hK3314) h3320 hq3361
  clear pf3347 kz3323 hz3348 kz3325 hz3349 kz3327 hz3350 kz3329 hz3351 kz3331 hz3352 kz3333 hz3353 kz3335 hz3354 kz3337 hz3355 kz3339 hz3356 kz3341 hz3357 kz3343 hz3358
  refine GO.putRF rfl rfl (by decide +kernel) h3368 fp_raw_fp_RX12_313 rfl rfl dX12_init_832 (fun V3394 e3393 => ?_)
  have pf3395 := PF.put pf3369 e3393 rfl
  have hz3396 : ∀ j, V3394 o188 j = .int 0 := fun j => (uq_ne e3393 (Or.inl (K_ne kz3371 h3368 (by decide)))).trans (hz3370 j)
  have hz3397 : ∀ j, V3394 o205 j = .int 0 := fun j => (uq_ne e3393 (Or.inl (K_ne kz3373 h3368 (by decide)))).trans (hz3372 j)
  have hz3398 : ∀ j, V3394 o225 j = .int 0 := fun j => (uq_ne e3393 (Or.inl (K_ne kz3375 h3368 (by decide)))).trans (hz3374 j)
  have hz3399 : ∀ j, V3394 o248 j = .int 0 := fun j => (uq_ne e3393 (Or.inl (K_ne kz3377 h3368 (by decide)))).trans (hz3376 j)
  have hz3400 : ∀ j, V3394 o274 j = .int 0 := fun j => (uq_ne e3393 (Or.inl (K_ne kz3379 h3368 (by decide)))).trans (hz3378 j)
  have hz3401 : ∀ j, V3394 o423 j = .int 0 := fun j => (uq_ne e3393 (Or.inl (K_ne kz3381 h3368 (by decide)))).trans (hz3380 j)
  have hz3402 : ∀ j, V3394 o1907 j = .int 0 := fun j => (uq_ne e3393 (Or.inl (K_ne kz3383 h3368 (by decide)))).trans (hz3382 j)
  have hz3403 : ∀ j, V3394 o1942 j = .int 0 := fun j => (uq_ne e3393 (Or.inl (K_ne kz3385 h3368 (by decide)))).trans (hz3384 j)
  have hz3404 : ∀ j, V3394 o1980 j = .int 0 := fun j => (uq_ne e3393 (Or.inl (K_ne kz3387 h3368 (by decide)))).trans (hz3386 j)
  have hz3405 : ∀ j, V3394 o2063 j = .int 0 := fun j => (uq_ne e3393 (Or.inl (K_ne kz3389 h3368 (by decide)))).trans (hz3388 j)
  have hz3406 : ∀ j, V3394 o2242 j = .int 0 := fun j => (uq_ne e3393 (Or.inl (K_ne kz3391 h3368 (by decide)))).trans (hz3390 j)
  clear pf3369 hz3370 hz3372 hz3374 hz3376 hz3378 hz3380 hz3382 hz3384 hz3386 hz3388 hz3390
  refine GO.aload_n dX12_init_835 rfl rfl ?_
  refine GO.sipush dX12_init_836 rfl ?_
  refine GO.newT (atype := .int) 107 200 gw_89 rfl rfl (fun _ _ h => h) rfl rfl rfl (Or.inr rfl) (fun _ => okv_df rfl rfl rfl) rfl rfl dX12_init_839 (fun o3407 K3408 V3414 hq3409 hK3410 hE3411 h3412 hz3415 hV3413 => ?_)
  have h3416 := (by rw [hK3410, updK_ne (K_old h3368 hq3409)]; exact h3368 : K3408 x = some (0, 23))
  have pf3417 := PF.nw pf3395 hV3413 (K_old h3368 hq3409)
  have kz3419 := hE3411.arr kz3371
  have hz3418 : ∀ j, V3414 o188 j = .int 0 := fun j => (congrFun (hV3413 _ (K_old kz3371 hq3409)) j).trans (hz3396 j)
  have kz3421 := hE3411.arr kz3373
  have hz3420 : ∀ j, V3414 o205 j = .int 0 := fun j => (congrFun (hV3413 _ (K_old kz3373 hq3409)) j).trans (hz3397 j)
  have kz3423 := hE3411.arr kz3375
  have hz3422 : ∀ j, V3414 o225 j = .int 0 := fun j => (congrFun (hV3413 _ (K_old kz3375 hq3409)) j).trans (hz3398 j)
  have kz3425 := hE3411.arr kz3377
  have hz3424 : ∀ j, V3414 o248 j = .int 0 := fun j => (congrFun (hV3413 _ (K_old kz3377 hq3409)) j).trans (hz3399 j)
  have kz3427 := hE3411.arr kz3379
  have hz3426 : ∀ j, V3414 o274 j = .int 0 := fun j => (congrFun (hV3413 _ (K_old kz3379 hq3409)) j).trans (hz3400 j)
  have kz3429 := hE3411.arr kz3381
  have hz3428 : ∀ j, V3414 o423 j = .int 0 := fun j => (congrFun (hV3413 _ (K_old kz3381 hq3409)) j).trans (hz3401 j)
  have kz3431 := hE3411.arr kz3383
  have hz3430 : ∀ j, V3414 o1907 j = .int 0 := fun j => (congrFun (hV3413 _ (K_old kz3383 hq3409)) j).trans (hz3402 j)
  have kz3433 := hE3411.arr kz3385
  have hz3432 : ∀ j, V3414 o1942 j = .int 0 := fun j => (congrFun (hV3413 _ (K_old kz3385 hq3409)) j).trans (hz3403 j)
  have kz3435 := hE3411.arr kz3387
  have hz3434 : ∀ j, V3414 o1980 j = .int 0 := fun j => (congrFun (hV3413 _ (K_old kz3387 hq3409)) j).trans (hz3404 j)
  have kz3437 := hE3411.arr kz3389
  have hz3436 : ∀ j, V3414 o2063 j = .int 0 := fun j => (congrFun (hV3413 _ (K_old kz3389 hq3409)) j).trans (hz3405 j)
  have kz3439 := hE3411.arr kz3391
  have hz3438 : ∀ j, V3414 o2242 j = .int 0 := fun j => (congrFun (hV3413 _ (K_old kz3391 hq3409)) j).trans (hz3406 j)
  have h3440 := KE.nw (KE.new (KE.new (KE.new (KE.new (KE.new (KE.new (KE.new (KE.new (KE.new (KE.new (KE.new (KE.new (KE.new (KE.new (KE.new (KE.new (KE.new (KE.new (KE.new (KE.new (KE.new (KE.new (KE.new (KE.new (KE.new (KE.new (KE.new (KE.new (KE.new (KE.new (KE.new (KE.new (KE.new (KE.new (KE.new (KE.new (KE.new (KE.new (KE.new (KE.new (KE.new (KE.new (KE.new (KE.new (KE.new (KE.new (KE.new (KE.new (KE.new (KE.new (KE.new (KE.new (KE.new (KE.new (KE.new (KE.new (KE.new (KE.new (KE.new (KE.new (KE.new (KE.new (KE.new (KE.new (KE.new (KE.new (KE.new (KE.new (KE.new (KE.new (KE.new (KE.new (KE.new (KE.new (KE.new (KE.new (KE.new (KE.new (KE.new (KE.new (KE.new (KE.new (KE.new (KE.new (KE.new (KE.new (KE.new (KE.new (KE.new (KE.new (KE.new (KE.new (KE.new (KE.new (KE.new (KE.new (KE.new (KE.new KE.rf hq10 hK11) hq25 hK26) hq40 hK41) hq55 hK56) hq70 hK71) hq85 hK86) hq100 hK101) hq115 hK116) hq130 hK131) hq145 hK146) hq160 hK161) hq175 hK176) hq190 hK191) hq207 hK208) hq227 hK228) hq250 hK251) hq276 hK277) hq305 hK306) hq335 hK336) hq365 hK366) hq395 hK396) hq425 hK426) hq457 hK458) hq490 hK491) hq523 hK524) hq556 hK557) hq589 hK590) hq622 hK623) hq655 hK656) hq688 hK689) hq721 hK722) hq754 hK755) hq787 hK788) hq820 hK821) hq853 hK854) hq886 hK887) hq919 hK920) hq952 hK953) hq985 hK986) hq1018 hK1019) hq1051 hK1052) hq1084 hK1085) hq1117 hK1118) hq1150 hK1151) hq1183 hK1184) hq1216 hK1217) hq1249 hK1250) hq1282 hK1283) hq1315 hK1316) hq1348 hK1349) hq1381 hK1382) hq1414 hK1415) hq1447 hK1448) hq1480 hK1481) hq1513 hK1514) hq1546 hK1547) hq1579 hK1580) hq1612 hK1613) hq1645 hK1646) hq1678 hK1679) hq1711 hK1712) hq1744 hK1745) hq1777 hK1778) hq1810 hK1811) hq1843 hK1844) hq1876 hK1877) hq1909 hK1910) hq1944 hK1945) hq1982 hK1983) hq2023 hK2024) hq2065 hK2066) hq2109 hK2110) hq2154 hK2155) hq2199 hK2200) hq2244 hK2245) hq2291 hK2292) hq2339 hK2340) hq2387 hK2388) hq2435 hK2436) hq2483 hK2484) hq2531 hK2532) hq2579 hK2580) hq2627 hK2628) hq2675 hK2676) hq2723 hK2724) hq2771 hK2772) hq2819 hK2820) hq2881 hK2882) hq2929 hK2930) hq2977 hK2978) hq3025 hK3026) hq3073 hK3074) hq3121 hK3122) hq3169 hK3170) hq3217 hK3218) hq3265 hK3266) hq3313 hK3314) hq3361 hK3362) h3368 hq3409
  clear pf3395 kz3371 hz3396 kz3373 hz3397 kz3375 hz3398 kz3377 hz3399 kz3379 hz3400 kz3381 hz3401 kz3383 hz3402 kz3385 hz3403 kz3387 hz3404 kz3389 hz3405 kz3391 hz3406
  refine GO.putRF rfl rfl (by decide +kernel) h3416 fp_raw_fp_RX12_316 rfl rfl dX12_init_841 (fun V3442 e3441 => ?_)
  have pf3443 := PF.put pf3417 e3441 rfl
  have hz3444 : ∀ j, V3442 o188 j = .int 0 := fun j => (uq_ne e3441 (Or.inl (K_ne kz3419 h3416 (by decide)))).trans (hz3418 j)
  have hz3445 : ∀ j, V3442 o205 j = .int 0 := fun j => (uq_ne e3441 (Or.inl (K_ne kz3421 h3416 (by decide)))).trans (hz3420 j)
  have hz3446 : ∀ j, V3442 o225 j = .int 0 := fun j => (uq_ne e3441 (Or.inl (K_ne kz3423 h3416 (by decide)))).trans (hz3422 j)
  have hz3447 : ∀ j, V3442 o248 j = .int 0 := fun j => (uq_ne e3441 (Or.inl (K_ne kz3425 h3416 (by decide)))).trans (hz3424 j)
  have hz3448 : ∀ j, V3442 o274 j = .int 0 := fun j => (uq_ne e3441 (Or.inl (K_ne kz3427 h3416 (by decide)))).trans (hz3426 j)
  have hz3449 : ∀ j, V3442 o423 j = .int 0 := fun j => (uq_ne e3441 (Or.inl (K_ne kz3429 h3416 (by decide)))).trans (hz3428 j)
  have hz3450 : ∀ j, V3442 o1907 j = .int 0 := fun j => (uq_ne e3441 (Or.inl (K_ne kz3431 h3416 (by decide)))).trans (hz3430 j)
  have hz3451 : ∀ j, V3442 o1942 j = .int 0 := fun j => (uq_ne e3441 (Or.inl (K_ne kz3433 h3416 (by decide)))).trans (hz3432 j)
  have hz3452 : ∀ j, V3442 o1980 j = .int 0 := fun j => (uq_ne e3441 (Or.inl (K_ne kz3435 h3416 (by decide)))).trans (hz3434 j)
  have hz3453 : ∀ j, V3442 o2063 j = .int 0 := fun j => (uq_ne e3441 (Or.inl (K_ne kz3437 h3416 (by decide)))).trans (hz3436 j)
  have hz3454 : ∀ j, V3442 o2242 j = .int 0 := fun j => (uq_ne e3441 (Or.inl (K_ne kz3439 h3416 (by decide)))).trans (hz3438 j)
  clear pf3417 hz3418 hz3420 hz3422 hz3424 hz3426 hz3428 hz3430 hz3432 hz3434 hz3436 hz3438
  refine GO.aload_n dX12_init_844 rfl rfl ?_
  refine GO.bipush dX12_init_845 rfl ?_
  refine GO.newT (atype := .int) 108 7 gw_89 rfl rfl (fun _ _ h => h) rfl rfl rfl (Or.inr rfl) (fun _ => okv_df rfl rfl rfl) rfl rfl dX12_init_847 (fun o3455 K3456 V3462 hq3457 hK3458 hE3459 h3460 hz3463 hV3461 => ?_)
  have h3464 := (by rw [hK3458, updK_ne (K_old h3416 hq3457)]; exact h3416 : K3456 x = some (0, 23))
  have pf3465 := PF.nw pf3443 hV3461 (K_old h3416 hq3457)
  have kz3467 := hE3459.arr kz3419
  have hz3466 : ∀ j, V3462 o188 j = .int 0 := fun j => (congrFun (hV3461 _ (K_old kz3419 hq3457)) j).trans (hz3444 j)
  have kz3469 := hE3459.arr kz3421
  have hz3468 : ∀ j, V3462 o205 j = .int 0 := fun j => (congrFun (hV3461 _ (K_old kz3421 hq3457)) j).trans (hz3445 j)
  have kz3471 := hE3459.arr kz3423
  have hz3470 : ∀ j, V3462 o225 j = .int 0 := fun j => (congrFun (hV3461 _ (K_old kz3423 hq3457)) j).trans (hz3446 j)
  have kz3473 := hE3459.arr kz3425
  have hz3472 : ∀ j, V3462 o248 j = .int 0 := fun j => (congrFun (hV3461 _ (K_old kz3425 hq3457)) j).trans (hz3447 j)
  have kz3475 := hE3459.arr kz3427
  have hz3474 : ∀ j, V3462 o274 j = .int 0 := fun j => (congrFun (hV3461 _ (K_old kz3427 hq3457)) j).trans (hz3448 j)
  have kz3477 := hE3459.arr kz3429
  have hz3476 : ∀ j, V3462 o423 j = .int 0 := fun j => (congrFun (hV3461 _ (K_old kz3429 hq3457)) j).trans (hz3449 j)
  have kz3479 := hE3459.arr kz3431
  have hz3478 : ∀ j, V3462 o1907 j = .int 0 := fun j => (congrFun (hV3461 _ (K_old kz3431 hq3457)) j).trans (hz3450 j)
  have kz3481 := hE3459.arr kz3433
  have hz3480 : ∀ j, V3462 o1942 j = .int 0 := fun j => (congrFun (hV3461 _ (K_old kz3433 hq3457)) j).trans (hz3451 j)
  have kz3483 := hE3459.arr kz3435
  have hz3482 : ∀ j, V3462 o1980 j = .int 0 := fun j => (congrFun (hV3461 _ (K_old kz3435 hq3457)) j).trans (hz3452 j)
  have kz3485 := hE3459.arr kz3437
  have hz3484 : ∀ j, V3462 o2063 j = .int 0 := fun j => (congrFun (hV3461 _ (K_old kz3437 hq3457)) j).trans (hz3453 j)
  have kz3487 := hE3459.arr kz3439
  have hz3486 : ∀ j, V3462 o2242 j = .int 0 := fun j => (congrFun (hV3461 _ (K_old kz3439 hq3457)) j).trans (hz3454 j)
  have h3488 := KE.nw (KE.new (KE.new (KE.new (KE.new (KE.new (KE.new (KE.new (KE.new (KE.new (KE.new (KE.new (KE.new (KE.new (KE.new (KE.new (KE.new (KE.new (KE.new (KE.new (KE.new (KE.new (KE.new (KE.new (KE.new (KE.new (KE.new (KE.new (KE.new (KE.new (KE.new (KE.new (KE.new (KE.new (KE.new (KE.new (KE.new (KE.new (KE.new (KE.new (KE.new (KE.new (KE.new (KE.new (KE.new (KE.new (KE.new (KE.new (KE.new (KE.new (KE.new (KE.new (KE.new (KE.new (KE.new (KE.new (KE.new (KE.new (KE.new (KE.new (KE.new (KE.new (KE.new (KE.new (KE.new (KE.new (KE.new (KE.new (KE.new (KE.new (KE.new (KE.new (KE.new (KE.new (KE.new (KE.new (KE.new (KE.new (KE.new (KE.new (KE.new (KE.new (KE.new (KE.new (KE.new (KE.new (KE.new (KE.new (KE.new (KE.new (KE.new (KE.new (KE.new (KE.new (KE.new (KE.new (KE.new (KE.new (KE.new (KE.new KE.rf hq10 hK11) hq25 hK26) hq40 hK41) hq55 hK56) hq70 hK71) hq85 hK86) hq100 hK101) hq115 hK116) hq130 hK131) hq145 hK146) hq160 hK161) hq175 hK176) hq190 hK191) hq207 hK208) hq227 hK228) hq250 hK251) hq276 hK277) hq305 hK306) hq335 hK336) hq365 hK366) hq395 hK396) hq425 hK426) hq457 hK458) hq490 hK491) hq523 hK524) hq556 hK557) hq589 hK590) hq622 hK623) hq655 hK656) hq688 hK689) hq721 hK722) hq754 hK755) hq787 hK788) hq820 hK821) hq853 hK854) hq886 hK887) hq919 hK920) hq952 hK953) hq985 hK986) hq1018 hK1019) hq1051 hK1052) hq1084 hK1085) hq1117 hK1118) hq1150 hK1151) hq1183 hK1184) hq1216 hK1217) hq1249 hK1250) hq1282 hK1283) hq1315 hK1316) hq1348 hK1349) hq1381 hK1382) hq1414 hK1415) hq1447 hK1448) hq1480 hK1481) hq1513 hK1514) hq1546 hK1547) hq1579 hK1580) hq1612 hK1613) hq1645 hK1646) hq1678 hK1679) hq1711 hK1712) hq1744 hK1745) hq1777 hK1778) hq1810 hK1811) hq1843 hK1844) hq1876 hK1877) hq1909 hK1910) hq1944 hK1945) hq1982 hK1983) hq2023 hK2024) hq2065 hK2066) hq2109 hK2110) hq2154 hK2155) hq2199 hK2200) hq2244 hK2245) hq2291 hK2292) hq2339 hK2340) hq2387 hK2388) hq2435 hK2436) hq2483 hK2484) hq2531 hK2532) hq2579 hK2580) hq2627 hK2628) hq2675 hK2676) hq2723 hK2724) hq2771 hK2772) hq2819 hK2820) hq2881 hK2882) hq2929 hK2930) hq2977 hK2978) hq3025 hK3026) hq3073 hK3074) hq3121 hK3122) hq3169 hK3170) hq3217 hK3218) hq3265 hK3266) hq3313 hK3314) hq3361 hK3362) hq3409 hK3410) h3416 hq3457
  clear pf3443 kz3419 hz3444 kz3421 hz3445 kz3423 hz3446 kz3425 hz3447 kz3427 hz3448 kz3429 hz3449 kz3431 hz3450 kz3433 hz3451 kz3435 hz3452 kz3437 hz3453 kz3439 hz3454
  refine GO.putRF rfl rfl (by decide +kernel) h3464 fp_raw_fp_RX12_319 rfl rfl dX12_init_849 (fun V3490 e3489 => ?_)
  have pf3491 := PF.put pf3465 e3489 rfl
  have hz3492 : ∀ j, V3490 o188 j = .int 0 := fun j => (uq_ne e3489 (Or.inl (K_ne kz3467 h3464 (by decide)))).trans (hz3466 j)
  have hz3493 : ∀ j, V3490 o205 j = .int 0 := fun j => (uq_ne e3489 (Or.inl (K_ne kz3469 h3464 (by decide)))).trans (hz3468 j)
  have hz3494 : ∀ j, V3490 o225 j = .int 0 := fun j => (uq_ne e3489 (Or.inl (K_ne kz3471 h3464 (by decide)))).trans (hz3470 j)
  have hz3495 : ∀ j, V3490 o248 j = .int 0 := fun j => (uq_ne e3489 (Or.inl (K_ne kz3473 h3464 (by decide)))).trans (hz3472 j)
  have hz3496 : ∀ j, V3490 o274 j = .int 0 := fun j => (uq_ne e3489 (Or.inl (K_ne kz3475 h3464 (by decide)))).trans (hz3474 j)
  have hz3497 : ∀ j, V3490 o423 j = .int 0 := fun j => (uq_ne e3489 (Or.inl (K_ne kz3477 h3464 (by decide)))).trans (hz3476 j)
  have hz3498 : ∀ j, V3490 o1907 j = .int 0 := fun j => (uq_ne e3489 (Or.inl (K_ne kz3479 h3464 (by decide)))).trans (hz3478 j)
  have hz3499 : ∀ j, V3490 o1942 j = .int 0 := fun j => (uq_ne e3489 (Or.inl (K_ne kz3481 h3464 (by decide)))).trans (hz3480 j)
  have hz3500 : ∀ j, V3490 o1980 j = .int 0 := fun j => (uq_ne e3489 (Or.inl (K_ne kz3483 h3464 (by decide)))).trans (hz3482 j)
  have hz3501 : ∀ j, V3490 o2063 j = .int 0 := fun j => (uq_ne e3489 (Or.inl (K_ne kz3485 h3464 (by decide)))).trans (hz3484 j)
  have hz3502 : ∀ j, V3490 o2242 j = .int 0 := fun j => (uq_ne e3489 (Or.inl (K_ne kz3487 h3464 (by decide)))).trans (hz3486 j)
  clear pf3465 hz3466 hz3468 hz3470 hz3472 hz3474 hz3476 hz3478 hz3480 hz3482 hz3484 hz3486
  refine GO.aload_n dX12_init_852 rfl rfl ?_
  refine GO.bipush dX12_init_853 rfl ?_
  refine GO.newT (atype := .boolean) 109 63 gw_1936 rfl rfl (fun _ _ h => h) rfl rfl rfl (Or.inr rfl) (fun _ => okv_df rfl rfl rfl) rfl rfl dX12_init_855 (fun o3503 K3504 V3510 hq3505 hK3506 hE3507 h3508 hz3511 hV3509 => ?_)
  have h3512 := (by rw [hK3506, updK_ne (K_old h3464 hq3505)]; exact h3464 : K3504 x = some (0, 23))
  have pf3513 := PF.nw pf3491 hV3509 (K_old h3464 hq3505)
  have kz3515 := hE3507.arr kz3467
  have hz3514 : ∀ j, V3510 o188 j = .int 0 := fun j => (congrFun (hV3509 _ (K_old kz3467 hq3505)) j).trans (hz3492 j)
  have kz3517 := hE3507.arr kz3469
  have hz3516 : ∀ j, V3510 o205 j = .int 0 := fun j => (congrFun (hV3509 _ (K_old kz3469 hq3505)) j).trans (hz3493 j)
  have kz3519 := hE3507.arr kz3471
  have hz3518 : ∀ j, V3510 o225 j = .int 0 := fun j => (congrFun (hV3509 _ (K_old kz3471 hq3505)) j).trans (hz3494 j)
  have kz3521 := hE3507.arr kz3473
  have hz3520 : ∀ j, V3510 o248 j = .int 0 := fun j => (congrFun (hV3509 _ (K_old kz3473 hq3505)) j).trans (hz3495 j)
  have kz3523 := hE3507.arr kz3475
  have hz3522 : ∀ j, V3510 o274 j = .int 0 := fun j => (congrFun (hV3509 _ (K_old kz3475 hq3505)) j).trans (hz3496 j)
  have kz3525 := hE3507.arr kz3477
  have hz3524 : ∀ j, V3510 o423 j = .int 0 := fun j => (congrFun (hV3509 _ (K_old kz3477 hq3505)) j).trans (hz3497 j)
  have kz3527 := hE3507.arr kz3479
  have hz3526 : ∀ j, V3510 o1907 j = .int 0 := fun j => (congrFun (hV3509 _ (K_old kz3479 hq3505)) j).trans (hz3498 j)
  have kz3529 := hE3507.arr kz3481
  have hz3528 : ∀ j, V3510 o1942 j = .int 0 := fun j => (congrFun (hV3509 _ (K_old kz3481 hq3505)) j).trans (hz3499 j)
  have kz3531 := hE3507.arr kz3483
  have hz3530 : ∀ j, V3510 o1980 j = .int 0 := fun j => (congrFun (hV3509 _ (K_old kz3483 hq3505)) j).trans (hz3500 j)
  have kz3533 := hE3507.arr kz3485
  have hz3532 : ∀ j, V3510 o2063 j = .int 0 := fun j => (congrFun (hV3509 _ (K_old kz3485 hq3505)) j).trans (hz3501 j)
  have kz3535 := hE3507.arr kz3487
  have hz3534 : ∀ j, V3510 o2242 j = .int 0 := fun j => (congrFun (hV3509 _ (K_old kz3487 hq3505)) j).trans (hz3502 j)
  have hz3536 : ∀ j, V3510 o3503 j = .int 0 := hz3511
  have h3537 := KE.nw (KE.new (KE.new (KE.new (KE.new (KE.new (KE.new (KE.new (KE.new (KE.new (KE.new (KE.new (KE.new (KE.new (KE.new (KE.new (KE.new (KE.new (KE.new (KE.new (KE.new (KE.new (KE.new (KE.new (KE.new (KE.new (KE.new (KE.new (KE.new (KE.new (KE.new (KE.new (KE.new (KE.new (KE.new (KE.new (KE.new (KE.new (KE.new (KE.new (KE.new (KE.new (KE.new (KE.new (KE.new (KE.new (KE.new (KE.new (KE.new (KE.new (KE.new (KE.new (KE.new (KE.new (KE.new (KE.new (KE.new (KE.new (KE.new (KE.new (KE.new (KE.new (KE.new (KE.new (KE.new (KE.new (KE.new (KE.new (KE.new (KE.new (KE.new (KE.new (KE.new (KE.new (KE.new (KE.new (KE.new (KE.new (KE.new (KE.new (KE.new (KE.new (KE.new (KE.new (KE.new (KE.new (KE.new (KE.new (KE.new (KE.new (KE.new (KE.new (KE.new (KE.new (KE.new (KE.new (KE.new (KE.new (KE.new (KE.new (KE.new KE.rf hq10 hK11) hq25 hK26) hq40 hK41) hq55 hK56) hq70 hK71) hq85 hK86) hq100 hK101) hq115 hK116) hq130 hK131) hq145 hK146) hq160 hK161) hq175 hK176) hq190 hK191) hq207 hK208) hq227 hK228) hq250 hK251) hq276 hK277) hq305 hK306) hq335 hK336) hq365 hK366) hq395 hK396) hq425 hK426) hq457 hK458) hq490 hK491) hq523 hK524) hq556 hK557) hq589 hK590) hq622 hK623) hq655 hK656) hq688 hK689) hq721 hK722) hq754 hK755) hq787 hK788) hq820 hK821) hq853 hK854) hq886 hK887) hq919 hK920) hq952 hK953) hq985 hK986) hq1018 hK1019) hq1051 hK1052) hq1084 hK1085) hq1117 hK1118) hq1150 hK1151) hq1183 hK1184) hq1216 hK1217) hq1249 hK1250) hq1282 hK1283) hq1315 hK1316) hq1348 hK1349) hq1381 hK1382) hq1414 hK1415) hq1447 hK1448) hq1480 hK1481) hq1513 hK1514) hq1546 hK1547) hq1579 hK1580) hq1612 hK1613) hq1645 hK1646) hq1678 hK1679) hq1711 hK1712) hq1744 hK1745) hq1777 hK1778) hq1810 hK1811) hq1843 hK1844) hq1876 hK1877) hq1909 hK1910) hq1944 hK1945) hq1982 hK1983) hq2023 hK2024) hq2065 hK2066) hq2109 hK2110) hq2154 hK2155) hq2199 hK2200) hq2244 hK2245) hq2291 hK2292) hq2339 hK2340) hq2387 hK2388) hq2435 hK2436) hq2483 hK2484) hq2531 hK2532) hq2579 hK2580) hq2627 hK2628) hq2675 hK2676) hq2723 hK2724) hq2771 hK2772) hq2819 hK2820) hq2881 hK2882) hq2929 hK2930) hq2977 hK2978) hq3025 hK3026) hq3073 hK3074) hq3121 hK3122) hq3169 hK3170) hq3217 hK3218) hq3265 hK3266) hq3313 hK3314) hq3361 hK3362) hq3409 hK3410) hq3457 hK3458) h3464 hq3505
  clear pf3491 kz3467 hz3492 kz3469 hz3493 kz3471 hz3494 kz3473 hz3495 kz3475 hz3496 kz3477 hz3497 kz3479 hz3498 kz3481 hz3499 kz3483 hz3500 kz3485 hz3501 kz3487 hz3502
  refine GO.putRF rfl rfl (by decide +kernel) h3512 fp_raw_fp_RX12_322 rfl rfl dX12_init_857 (fun V3539 e3538 => ?_)
  have pf3540 := PF.put pf3513 e3538 rfl
  have hz3541 : ∀ j, V3539 o188 j = .int 0 := fun j => (uq_ne e3538 (Or.inl (K_ne kz3515 h3512 (by decide)))).trans (hz3514 j)
  have hz3542 : ∀ j, V3539 o205 j = .int 0 := fun j => (uq_ne e3538 (Or.inl (K_ne kz3517 h3512 (by decide)))).trans (hz3516 j)
  have hz3543 : ∀ j, V3539 o225 j = .int 0 := fun j => (uq_ne e3538 (Or.inl (K_ne kz3519 h3512 (by decide)))).trans (hz3518 j)
  have hz3544 : ∀ j, V3539 o248 j = .int 0 := fun j => (uq_ne e3538 (Or.inl (K_ne kz3521 h3512 (by decide)))).trans (hz3520 j)
  have hz3545 : ∀ j, V3539 o274 j = .int 0 := fun j => (uq_ne e3538 (Or.inl (K_ne kz3523 h3512 (by decide)))).trans (hz3522 j)
  have hz3546 : ∀ j, V3539 o423 j = .int 0 := fun j => (uq_ne e3538 (Or.inl (K_ne kz3525 h3512 (by decide)))).trans (hz3524 j)
  have hz3547 : ∀ j, V3539 o1907 j = .int 0 := fun j => (uq_ne e3538 (Or.inl (K_ne kz3527 h3512 (by decide)))).trans (hz3526 j)
  have hz3548 : ∀ j, V3539 o1942 j = .int 0 := fun j => (uq_ne e3538 (Or.inl (K_ne kz3529 h3512 (by decide)))).trans (hz3528 j)
  have hz3549 : ∀ j, V3539 o1980 j = .int 0 := fun j => (uq_ne e3538 (Or.inl (K_ne kz3531 h3512 (by decide)))).trans (hz3530 j)
  have hz3550 : ∀ j, V3539 o2063 j = .int 0 := fun j => (uq_ne e3538 (Or.inl (K_ne kz3533 h3512 (by decide)))).trans (hz3532 j)
  have hz3551 : ∀ j, V3539 o2242 j = .int 0 := fun j => (uq_ne e3538 (Or.inl (K_ne kz3535 h3512 (by decide)))).trans (hz3534 j)
  have hz3552 : ∀ j, V3539 o3503 j = .int 0 := fun j => (uq_ne e3538 (Or.inl (K_ne h3508 h3512 (by decide)))).trans (hz3536 j)
  clear pf3513 hz3514 hz3516 hz3518 hz3520 hz3522 hz3524 hz3526 hz3528 hz3530 hz3532 hz3534 hz3536
  refine GO.aload_n dX12_init_860 rfl rfl ?_
  refine GO.sipush dX12_init_861 rfl ?_
  refine GO.newT (atype := .boolean) 110 441 gw_1936 rfl rfl (fun _ _ h => h) rfl rfl rfl (Or.inr rfl) (fun _ => okv_df rfl rfl rfl) rfl rfl dX12_init_864 (fun o3553 K3554 V3560 hq3555 hK3556 hE3557 h3558 hz3561 hV3559 => ?_)
  have h3562 := (by rw [hK3556, updK_ne (K_old h3512 hq3555)]; exact h3512 : K3554 x = some (0, 23))
  have pf3563 := PF.nw pf3540 hV3559 (K_old h3512 hq3555)
  have kz3565 := hE3557.arr kz3515
  have hz3564 : ∀ j, V3560 o188 j = .int 0 := fun j => (congrFun (hV3559 _ (K_old kz3515 hq3555)) j).trans (hz3541 j)
  have kz3567 := hE3557.arr kz3517
  have hz3566 : ∀ j, V3560 o205 j = .int 0 := fun j => (congrFun (hV3559 _ (K_old kz3517 hq3555)) j).trans (hz3542 j)
  have kz3569 := hE3557.arr kz3519
  have hz3568 : ∀ j, V3560 o225 j = .int 0 := fun j => (congrFun (hV3559 _ (K_old kz3519 hq3555)) j).trans (hz3543 j)
  have kz3571 := hE3557.arr kz3521
  have hz3570 : ∀ j, V3560 o248 j = .int 0 := fun j => (congrFun (hV3559 _ (K_old kz3521 hq3555)) j).trans (hz3544 j)
  have kz3573 := hE3557.arr kz3523
  have hz3572 : ∀ j, V3560 o274 j = .int 0 := fun j => (congrFun (hV3559 _ (K_old kz3523 hq3555)) j).trans (hz3545 j)
  have kz3575 := hE3557.arr kz3525
  have hz3574 : ∀ j, V3560 o423 j = .int 0 := fun j => (congrFun (hV3559 _ (K_old kz3525 hq3555)) j).trans (hz3546 j)
  have kz3577 := hE3557.arr kz3527
  have hz3576 : ∀ j, V3560 o1907 j = .int 0 := fun j => (congrFun (hV3559 _ (K_old kz3527 hq3555)) j).trans (hz3547 j)
  have kz3579 := hE3557.arr kz3529
  have hz3578 : ∀ j, V3560 o1942 j = .int 0 := fun j => (congrFun (hV3559 _ (K_old kz3529 hq3555)) j).trans (hz3548 j)
  have kz3581 := hE3557.arr kz3531
  have hz3580 : ∀ j, V3560 o1980 j = .int 0 := fun j => (congrFun (hV3559 _ (K_old kz3531 hq3555)) j).trans (hz3549 j)
  have kz3583 := hE3557.arr kz3533
  have hz3582 : ∀ j, V3560 o2063 j = .int 0 := fun j => (congrFun (hV3559 _ (K_old kz3533 hq3555)) j).trans (hz3550 j)
  have kz3585 := hE3557.arr kz3535
  have hz3584 : ∀ j, V3560 o2242 j = .int 0 := fun j => (congrFun (hV3559 _ (K_old kz3535 hq3555)) j).trans (hz3551 j)
  have kz3587 := hE3557.arr h3508
  have hz3586 : ∀ j, V3560 o3503 j = .int 0 := fun j => (congrFun (hV3559 _ (K_old h3508 hq3555)) j).trans (hz3552 j)
  have hz3588 : ∀ j, V3560 o3553 j = .int 0 := hz3561
  have h3589 := KE.nw (KE.new (KE.new (KE.new (KE.new (KE.new (KE.new (KE.new (KE.new (KE.new (KE.new (KE.new (KE.new (KE.new (KE.new (KE.new (KE.new (KE.new (KE.new (KE.new (KE.new (KE.new (KE.new (KE.new (KE.new (KE.new (KE.new (KE.new (KE.new (KE.new (KE.new (KE.new (KE.new (KE.new (KE.new (KE.new (KE.new (KE.new (KE.new (KE.new (KE.new (KE.new (KE.new (KE.new (KE.new (KE.new (KE.new (KE.new (KE.new (KE.new (KE.new (KE.new (KE.new (KE.new (KE.new (KE.new (KE.new (KE.new (KE.new (KE.new (KE.new (KE.new (KE.new (KE.new (KE.new (KE.new (KE.new (KE.new (KE.new (KE.new (KE.new (KE.new (KE.new (KE.new (KE.new (KE.new (KE.new (KE.new (KE.new (KE.new (KE.new (KE.new (KE.new (KE.new (KE.new (KE.new (KE.new (KE.new (KE.new (KE.new (KE.new (KE.new (KE.new (KE.new (KE.new (KE.new (KE.new (KE.new (KE.new (KE.new (KE.new (KE.new KE.rf hq10 hK11) hq25 hK26) hq40 hK41) hq55 hK56) hq70 hK71) hq85 hK86) hq100 hK101) hq115 hK116) hq130 hK131) hq145 hK146) hq160 hK161) hq175 hK176) hq190 hK191) hq207 hK208) hq227 hK228) hq250 hK251) hq276 hK277) hq305 hK306) hq335 hK336) hq365 hK366) hq395 hK396) hq425 hK426) hq457 hK458) hq490 hK491) hq523 hK524) hq556 hK557) hq589 hK590) hq622 hK623) hq655 hK656) hq688 hK689) hq721 hK722) hq754 hK755) hq787 hK788) hq820 hK821) hq853 hK854) hq886 hK887) hq919 hK920) hq952 hK953) hq985 hK986) hq1018 hK1019) hq1051 hK1052) hq1084 hK1085) hq1117 hK1118) hq1150 hK1151) hq1183 hK1184) hq1216 hK1217) hq1249 hK1250) hq1282 hK1283) hq1315 hK1316) hq1348 hK1349) hq1381 hK1382) hq1414 hK1415) hq1447 hK1448) hq1480 hK1481) hq1513 hK1514) hq1546 hK1547) hq1579 hK1580) hq1612 hK1613) hq1645 hK1646) hq1678 hK1679) hq1711 hK1712) hq1744 hK1745) hq1777 hK1778) hq1810 hK1811) hq1843 hK1844) hq1876 hK1877) hq1909 hK1910) hq1944 hK1945) hq1982 hK1983) hq2023 hK2024) hq2065 hK2066) hq2109 hK2110) hq2154 hK2155) hq2199 hK2200) hq2244 hK2245) hq2291 hK2292) hq2339 hK2340) hq2387 hK2388) hq2435 hK2436) hq2483 hK2484) hq2531 hK2532) hq2579 hK2580) hq2627 hK2628) hq2675 hK2676) hq2723 hK2724) hq2771 hK2772) hq2819 hK2820) hq2881 hK2882) hq2929 hK2930) hq2977 hK2978) hq3025 hK3026) hq3073 hK3074) hq3121 hK3122) hq3169 hK3170) hq3217 hK3218) hq3265 hK3266) hq3313 hK3314) hq3361 hK3362) hq3409 hK3410) hq3457 hK3458) hq3505 hK3506) h3512 hq3555
  clear pf3540 kz3515 hz3541 kz3517 hz3542 kz3519 hz3543 kz3521 hz3544 kz3523 hz3545 kz3525 hz3546 kz3527 hz3547 kz3529 hz3548 kz3531 hz3549 kz3533 hz3550 kz3535 hz3551 hz3552
  refine GO.putRF rfl rfl (by decide +kernel) h3562 fp_raw_fp_RX12_325 rfl rfl dX12_init_866 (fun V3591 e3590 => ?_)
  have pf3592 := PF.put pf3563 e3590 rfl
  have hz3593 : ∀ j, V3591 o188 j = .int 0 := fun j => (uq_ne e3590 (Or.inl (K_ne kz3565 h3562 (by decide)))).trans (hz3564 j)
  have hz3594 : ∀ j, V3591 o205 j = .int 0 := fun j => (uq_ne e3590 (Or.inl (K_ne kz3567 h3562 (by decide)))).trans (hz3566 j)
  have hz3595 : ∀ j, V3591 o225 j = .int 0 := fun j => (uq_ne e3590 (Or.inl (K_ne kz3569 h3562 (by decide)))).trans (hz3568 j)
  have hz3596 : ∀ j, V3591 o248 j = .int 0 := fun j => (uq_ne e3590 (Or.inl (K_ne kz3571 h3562 (by decide)))).trans (hz3570 j)
  have hz3597 : ∀ j, V3591 o274 j = .int 0 := fun j => (uq_ne e3590 (Or.inl (K_ne kz3573 h3562 (by decide)))).trans (hz3572 j)
  have hz3598 : ∀ j, V3591 o423 j = .int 0 := fun j => (uq_ne e3590 (Or.inl (K_ne kz3575 h3562 (by decide)))).trans (hz3574 j)
  have hz3599 : ∀ j, V3591 o1907 j = .int 0 := fun j => (uq_ne e3590 (Or.inl (K_ne kz3577 h3562 (by decide)))).trans (hz3576 j)
  have hz3600 : ∀ j, V3591 o1942 j = .int 0 := fun j => (uq_ne e3590 (Or.inl (K_ne kz3579 h3562 (by decide)))).trans (hz3578 j)
  have hz3601 : ∀ j, V3591 o1980 j = .int 0 := fun j => (uq_ne e3590 (Or.inl (K_ne kz3581 h3562 (by decide)))).trans (hz3580 j)
  have hz3602 : ∀ j, V3591 o2063 j = .int 0 := fun j => (uq_ne e3590 (Or.inl (K_ne kz3583 h3562 (by decide)))).trans (hz3582 j)
  have hz3603 : ∀ j, V3591 o2242 j = .int 0 := fun j => (uq_ne e3590 (Or.inl (K_ne kz3585 h3562 (by decide)))).trans (hz3584 j)
  have hz3604 : ∀ j, V3591 o3503 j = .int 0 := fun j => (uq_ne e3590 (Or.inl (K_ne kz3587 h3562 (by decide)))).trans (hz3586 j)
  have hz3605 : ∀ j, V3591 o3553 j = .int 0 := fun j => (uq_ne e3590 (Or.inl (K_ne h3558 h3562 (by decide)))).trans (hz3588 j)
  clear pf3563 hz3564 hz3566 hz3568 hz3570 hz3572 hz3574 hz3576 hz3578 hz3580 hz3582 hz3584 hz3586 hz3588
  refine GO.aload_n dX12_init_869 rfl rfl ?_
  refine GO.bipush dX12_init_870 rfl ?_
  refine GO.newT (atype := .int) 111 8 gw_89 rfl rfl (fun _ _ h => h) rfl rfl rfl (Or.inr rfl) (fun _ => okv_df rfl rfl rfl) rfl rfl dX12_init_872 (fun o3606 K3607 V3613 hq3608 hK3609 hE3610 h3611 hz3614 hV3612 => ?_)
  have h3615 := (by rw [hK3609, updK_ne (K_old h3562 hq3608)]; exact h3562 : K3607 x = some (0, 23))
  have pf3616 := PF.nw pf3592 hV3612 (K_old h3562 hq3608)
  have kz3618 := hE3610.arr kz3565
  have hz3617 : ∀ j, V3613 o188 j = .int 0 := fun j => (congrFun (hV3612 _ (K_old kz3565 hq3608)) j).trans (hz3593 j)
  have kz3620 := hE3610.arr kz3567
  have hz3619 : ∀ j, V3613 o205 j = .int 0 := fun j => (congrFun (hV3612 _ (K_old kz3567 hq3608)) j).trans (hz3594 j)
  have kz3622 := hE3610.arr kz3569
  have hz3621 : ∀ j, V3613 o225 j = .int 0 := fun j => (congrFun (hV3612 _ (K_old kz3569 hq3608)) j).trans (hz3595 j)
  have kz3624 := hE3610.arr kz3571
  have hz3623 : ∀ j, V3613 o248 j = .int 0 := fun j => (congrFun (hV3612 _ (K_old kz3571 hq3608)) j).trans (hz3596 j)
  have kz3626 := hE3610.arr kz3573
  have hz3625 : ∀ j, V3613 o274 j = .int 0 := fun j => (congrFun (hV3612 _ (K_old kz3573 hq3608)) j).trans (hz3597 j)
  have kz3628 := hE3610.arr kz3575
  have hz3627 : ∀ j, V3613 o423 j = .int 0 := fun j => (congrFun (hV3612 _ (K_old kz3575 hq3608)) j).trans (hz3598 j)
  have kz3630 := hE3610.arr kz3577
  have hz3629 : ∀ j, V3613 o1907 j = .int 0 := fun j => (congrFun (hV3612 _ (K_old kz3577 hq3608)) j).trans (hz3599 j)
  have kz3632 := hE3610.arr kz3579
  have hz3631 : ∀ j, V3613 o1942 j = .int 0 := fun j => (congrFun (hV3612 _ (K_old kz3579 hq3608)) j).trans (hz3600 j)
  have kz3634 := hE3610.arr kz3581
  have hz3633 : ∀ j, V3613 o1980 j = .int 0 := fun j => (congrFun (hV3612 _ (K_old kz3581 hq3608)) j).trans (hz3601 j)
  have kz3636 := hE3610.arr kz3583
  have hz3635 : ∀ j, V3613 o2063 j = .int 0 := fun j => (congrFun (hV3612 _ (K_old kz3583 hq3608)) j).trans (hz3602 j)
  have kz3638 := hE3610.arr kz3585
  have hz3637 : ∀ j, V3613 o2242 j = .int 0 := fun j => (congrFun (hV3612 _ (K_old kz3585 hq3608)) j).trans (hz3603 j)
  have kz3640 := hE3610.arr kz3587
  have hz3639 : ∀ j, V3613 o3503 j = .int 0 := fun j => (congrFun (hV3612 _ (K_old kz3587 hq3608)) j).trans (hz3604 j)
  have kz3642 := hE3610.arr h3558
  have hz3641 : ∀ j, V3613 o3553 j = .int 0 := fun j => (congrFun (hV3612 _ (K_old h3558 hq3608)) j).trans (hz3605 j)
  have h3643 := KE.nw (KE.new (KE.new (KE.new (KE.new (KE.new (KE.new (KE.new (KE.new (KE.new (KE.new (KE.new (KE.new (KE.new (KE.new (KE.new (KE.new (KE.new (KE.new (KE.new (KE.new (KE.new (KE.new (KE.new (KE.new (KE.new (KE.new (KE.new (KE.new (KE.new (KE.new (KE.new (KE.new (KE.new (KE.new (KE.new (KE.new (KE.new (KE.new (KE.new (KE.new (KE.new (KE.new (KE.new (KE.new (KE.new (KE.new (KE.new (KE.new (KE.new (KE.new (KE.new (KE.new (KE.new (KE.new (KE.new (KE.new (KE.new (KE.new (KE.new (KE.new (KE.new (KE.new (KE.new (KE.new (KE.new (KE.new (KE.new (KE.new (KE.new (KE.new (KE.new (KE.new (KE.new (KE.new (KE.new (KE.new (KE.new (KE.new (KE.new (KE.new (KE.new (KE.new (KE.new (KE.new (KE.new (KE.new (KE.new (KE.new (KE.new (KE.new (KE.new (KE.new (KE.new (KE.new (KE.new (KE.new (KE.new (KE.new (KE.new (KE.new (KE.new (KE.new KE.rf hq10 hK11) hq25 hK26) hq40 hK41) hq55 hK56) hq70 hK71) hq85 hK86) hq100 hK101) hq115 hK116) hq130 hK131) hq145 hK146) hq160 hK161) hq175 hK176) hq190 hK191) hq207 hK208) hq227 hK228) hq250 hK251) hq276 hK277) hq305 hK306) hq335 hK336) hq365 hK366) hq395 hK396) hq425 hK426) hq457 hK458) hq490 hK491) hq523 hK524) hq556 hK557) hq589 hK590) hq622 hK623) hq655 hK656) hq688 hK689) hq721 hK722) hq754 hK755) hq787 hK788) hq820 hK821) hq853 hK854) hq886 hK887) hq919 hK920) hq952 hK953) hq985 hK986) hq1018 hK1019) hq1051 hK1052) hq1084 hK1085) hq1117 hK1118) hq1150 hK1151) hq1183 hK1184) hq1216 hK1217) hq1249 hK1250) hq1282 hK1283) hq1315 hK1316) hq1348 hK1349) hq1381 hK1382) hq1414 hK1415) hq1447 hK1448) hq1480 hK1481) hq1513 hK1514) hq1546 hK1547) hq1579 hK1580) hq1612 hK1613) hq1645 hK1646) hq1678 hK1679) hq1711 hK1712) hq1744 hK1745) hq1777 hK1778) hq1810 hK1811) hq1843 hK1844) hq1876 hK1877) hq1909 hK1910) hq1944 hK1945) hq1982 hK1983) hq2023 hK2024) hq2065 hK2066) hq2109 hK2110) hq2154 hK2155) hq2199 hK2200) hq2244 hK2245) hq2291 hK2292) hq2339 hK2340) hq2387 hK2388) hq2435 hK2436) hq2483 hK2484) hq2531 hK2532) hq2579 hK2580) hq2627 hK2628) hq2675 hK2676) hq2723 hK2724) hq2771 hK2772) hq2819 hK2820) hq2881 hK2882) hq2929 hK2930) hq2977 hK2978) hq3025 hK3026) hq3073 hK3074) hq3121 hK3122) hq3169 hK3170) hq3217 hK3218) hq3265 hK3266) hq3313 hK3314) hq3361 hK3362) hq3409 hK3410) hq3457 hK3458) hq3505 hK3506) hq3555 hK3556) h3562 hq3608
  clear pf3592 kz3565 hz3593 kz3567 hz3594 kz3569 hz3595 kz3571 hz3596 kz3573 hz3597 kz3575 hz3598 kz3577 hz3599 kz3579 hz3600 kz3581 hz3601 kz3583 hz3602 kz3585 hz3603 kz3587 hz3604 hz3605
  refine GO.putRF rfl rfl (by decide +kernel) h3615 fp_raw_fp_RX12_328 rfl rfl dX12_init_874 (fun V3645 e3644 => ?_)
  have pf3646 := PF.put pf3616 e3644 rfl
  have hz3647 : ∀ j, V3645 o188 j = .int 0 := fun j => (uq_ne e3644 (Or.inl (K_ne kz3618 h3615 (by decide)))).trans (hz3617 j)
  have hz3648 : ∀ j, V3645 o205 j = .int 0 := fun j => (uq_ne e3644 (Or.inl (K_ne kz3620 h3615 (by decide)))).trans (hz3619 j)
  have hz3649 : ∀ j, V3645 o225 j = .int 0 := fun j => (uq_ne e3644 (Or.inl (K_ne kz3622 h3615 (by decide)))).trans (hz3621 j)
  have hz3650 : ∀ j, V3645 o248 j = .int 0 := fun j => (uq_ne e3644 (Or.inl (K_ne kz3624 h3615 (by decide)))).trans (hz3623 j)
  have hz3651 : ∀ j, V3645 o274 j = .int 0 := fun j => (uq_ne e3644 (Or.inl (K_ne kz3626 h3615 (by decide)))).trans (hz3625 j)
  have hz3652 : ∀ j, V3645 o423 j = .int 0 := fun j => (uq_ne e3644 (Or.inl (K_ne kz3628 h3615 (by decide)))).trans (hz3627 j)
  have hz3653 : ∀ j, V3645 o1907 j = .int 0 := fun j => (uq_ne e3644 (Or.inl (K_ne kz3630 h3615 (by decide)))).trans (hz3629 j)
  have hz3654 : ∀ j, V3645 o1942 j = .int 0 := fun j => (uq_ne e3644 (Or.inl (K_ne kz3632 h3615 (by decide)))).trans (hz3631 j)
  have hz3655 : ∀ j, V3645 o1980 j = .int 0 := fun j => (uq_ne e3644 (Or.inl (K_ne kz3634 h3615 (by decide)))).trans (hz3633 j)
  have hz3656 : ∀ j, V3645 o2063 j = .int 0 := fun j => (uq_ne e3644 (Or.inl (K_ne kz3636 h3615 (by decide)))).trans (hz3635 j)
  have hz3657 : ∀ j, V3645 o2242 j = .int 0 := fun j => (uq_ne e3644 (Or.inl (K_ne kz3638 h3615 (by decide)))).trans (hz3637 j)
  have hz3658 : ∀ j, V3645 o3503 j = .int 0 := fun j => (uq_ne e3644 (Or.inl (K_ne kz3640 h3615 (by decide)))).trans (hz3639 j)
  have hz3659 : ∀ j, V3645 o3553 j = .int 0 := fun j => (uq_ne e3644 (Or.inl (K_ne kz3642 h3615 (by decide)))).trans (hz3641 j)
  clear pf3616 hz3617 hz3619 hz3621 hz3623 hz3625 hz3627 hz3629 hz3631 hz3633 hz3635 hz3637 hz3639 hz3641
  refine GO.aload_n dX12_init_877 rfl rfl ?_
  refine GO.bipush dX12_init_878 rfl ?_
  refine GO.newT (atype := .int) 112 8 gw_89 rfl rfl (fun _ _ h => h) rfl rfl rfl (Or.inr rfl) (fun _ => okv_df rfl rfl rfl) rfl rfl dX12_init_880 (fun o3660 K3661 V3667 hq3662 hK3663 hE3664 h3665 hz3668 hV3666 => ?_)
  have h3669 := (by rw [hK3663, updK_ne (K_old h3615 hq3662)]; exact h3615 : K3661 x = some (0, 23))
  have pf3670 := PF.nw pf3646 hV3666 (K_old h3615 hq3662)
  have kz3672 := hE3664.arr kz3618
  have hz3671 : ∀ j, V3667 o188 j = .int 0 := fun j => (congrFun (hV3666 _ (K_old kz3618 hq3662)) j).trans (hz3647 j)
  have kz3674 := hE3664.arr kz3620
  have hz3673 : ∀ j, V3667 o205 j = .int 0 := fun j => (congrFun (hV3666 _ (K_old kz3620 hq3662)) j).trans (hz3648 j)
  have kz3676 := hE3664.arr kz3622
  have hz3675 : ∀ j, V3667 o225 j = .int 0 := fun j => (congrFun (hV3666 _ (K_old kz3622 hq3662)) j).trans (hz3649 j)
  have kz3678 := hE3664.arr kz3624
  have hz3677 : ∀ j, V3667 o248 j = .int 0 := fun j => (congrFun (hV3666 _ (K_old kz3624 hq3662)) j).trans (hz3650 j)
  have kz3680 := hE3664.arr kz3626
  have hz3679 : ∀ j, V3667 o274 j = .int 0 := fun j => (congrFun (hV3666 _ (K_old kz3626 hq3662)) j).trans (hz3651 j)
  have kz3682 := hE3664.arr kz3628
  have hz3681 : ∀ j, V3667 o423 j = .int 0 := fun j => (congrFun (hV3666 _ (K_old kz3628 hq3662)) j).trans (hz3652 j)
  have kz3684 := hE3664.arr kz3630
  have hz3683 : ∀ j, V3667 o1907 j = .int 0 := fun j => (congrFun (hV3666 _ (K_old kz3630 hq3662)) j).trans (hz3653 j)
  have kz3686 := hE3664.arr kz3632
  have hz3685 : ∀ j, V3667 o1942 j = .int 0 := fun j => (congrFun (hV3666 _ (K_old kz3632 hq3662)) j).trans (hz3654 j)
  have kz3688 := hE3664.arr kz3634
  have hz3687 : ∀ j, V3667 o1980 j = .int 0 := fun j => (congrFun (hV3666 _ (K_old kz3634 hq3662)) j).trans (hz3655 j)
  have kz3690 := hE3664.arr kz3636
  have hz3689 : ∀ j, V3667 o2063 j = .int 0 := fun j => (congrFun (hV3666 _ (K_old kz3636 hq3662)) j).trans (hz3656 j)
  have kz3692 := hE3664.arr kz3638
  have hz3691 : ∀ j, V3667 o2242 j = .int 0 := fun j => (congrFun (hV3666 _ (K_old kz3638 hq3662)) j).trans (hz3657 j)
  have kz3694 := hE3664.arr kz3640
  have hz3693 : ∀ j, V3667 o3503 j = .int 0 := fun j => (congrFun (hV3666 _ (K_old kz3640 hq3662)) j).trans (hz3658 j)
  have kz3696 := hE3664.arr kz3642
  have hz3695 : ∀ j, V3667 o3553 j = .int 0 := fun j => (congrFun (hV3666 _ (K_old kz3642 hq3662)) j).trans (hz3659 j)
  have h3697 := KE.nw (KE.new (KE.new (KE.new (KE.new (KE.new (KE.new (KE.new (KE.new (KE.new (KE.new (KE.new (KE.new (KE.new (KE.new (KE.new (KE.new (KE.new (KE.new (KE.new (KE.new (KE.new (KE.new (KE.new (KE.new (KE.new (KE.new (KE.new (KE.new (KE.new (KE.new (KE.new (KE.new (KE.new (KE.new (KE.new (KE.new (KE.new (KE.new (KE.new (KE.new (KE.new (KE.new (KE.new (KE.new (KE.new (KE.new (KE.new (KE.new (KE.new (KE.new (KE.new (KE.new (KE.new (KE.new (KE.new (KE.new (KE.new (KE.new (KE.new (KE.new (KE.new (KE.new (KE.new (KE.new (KE.new (KE.new (KE.new (KE.new (KE.new (KE.new (KE.new (KE.new (KE.new (KE.new (KE.new (KE.new (KE.new (KE.new (KE.new (KE.new (KE.new (KE.new (KE.new (KE.new (KE.new (KE.new (KE.new (KE.new (KE.new (KE.new (KE.new (KE.new (KE.new (KE.new (KE.new (KE.new (KE.new (KE.new (KE.new (KE.new (KE.new (KE.new (KE.new KE.rf hq10 hK11) hq25 hK26) hq40 hK41) hq55 hK56) hq70 hK71) hq85 hK86) hq100 hK101) hq115 hK116) hq130 hK131) hq145 hK146) hq160 hK161) hq175 hK176) hq190 hK191) hq207 hK208) hq227 hK228) hq250 hK251) hq276 hK277) hq305 hK306) hq335 hK336) hq365 hK366) hq395 hK396) hq425 hK426) hq457 hK458) hq490 hK491) hq523 hK524) hq556 hK557) hq589 hK590) hq622 hK623) hq655 hK656) hq688 hK689) hq721 hK722) hq754 hK755) hq787 hK788) hq820 hK821) hq853 hK854) hq886 hK887) hq919 hK920) hq952 hK953) hq985 hK986) hq1018 hK1019) hq1051 hK1052) hq1084 hK1085) hq1117 hK1118) hq1150 hK1151) hq1183 hK1184) hq1216 hK1217) hq1249 hK1250) hq1282 hK1283) hq1315 hK1316) hq1348 hK1349) hq1381 hK1382) hq1414 hK1415) hq1447 hK1448) hq1480 hK1481) hq1513 hK1514) hq1546 hK1547) hq1579 hK1580) hq1612 hK1613) hq1645 hK1646) hq1678 hK1679) hq1711 hK1712) hq1744 hK1745) hq1777 hK1778) hq1810 hK1811) hq1843 hK1844) hq1876 hK1877) hq1909 hK1910) hq1944 hK1945) hq1982 hK1983) hq2023 hK2024) hq2065 hK2066) hq2109 hK2110) hq2154 hK2155) hq2199 hK2200) hq2244 hK2245) hq2291 hK2292) hq2339 hK2340) hq2387 hK2388) hq2435 hK2436) hq2483 hK2484) hq2531 hK2532) hq2579 hK2580) hq2627 hK2628) hq2675 hK2676) hq2723 hK2724) hq2771 hK2772) hq2819 hK2820) hq2881 hK2882) hq2929 hK2930) hq2977 hK2978) hq3025 hK3026) hq3073 hK3074) hq3121 hK3122) hq3169 hK3170) hq3217 hK3218) hq3265 hK3266) hq3313 hK3314) hq3361 hK3362) hq3409 hK3410) hq3457 hK3458) hq3505 hK3506) hq3555 hK3556) hq3608 hK3609) h3615 hq3662
  clear pf3646 kz3618 hz3647 kz3620 hz3648 kz3622 hz3649 kz3624 hz3650 kz3626 hz3651 kz3628 hz3652 kz3630 hz3653 kz3632 hz3654 kz3634 hz3655 kz3636 hz3656 kz3638 hz3657 kz3640 hz3658 kz3642 hz3659
  refine GO.putRF rfl rfl (by decide +kernel) h3669 fp_raw_fp_RX12_331 rfl rfl dX12_init_882 (fun V3699 e3698 => ?_)
  have pf3700 := PF.put pf3670 e3698 rfl
  have hz3701 : ∀ j, V3699 o188 j = .int 0 := fun j => (uq_ne e3698 (Or.inl (K_ne kz3672 h3669 (by decide)))).trans (hz3671 j)
  have hz3702 : ∀ j, V3699 o205 j = .int 0 := fun j => (uq_ne e3698 (Or.inl (K_ne kz3674 h3669 (by decide)))).trans (hz3673 j)
  have hz3703 : ∀ j, V3699 o225 j = .int 0 := fun j => (uq_ne e3698 (Or.inl (K_ne kz3676 h3669 (by decide)))).trans (hz3675 j)
  have hz3704 : ∀ j, V3699 o248 j = .int 0 := fun j => (uq_ne e3698 (Or.inl (K_ne kz3678 h3669 (by decide)))).trans (hz3677 j)
  have hz3705 : ∀ j, V3699 o274 j = .int 0 := fun j => (uq_ne e3698 (Or.inl (K_ne kz3680 h3669 (by decide)))).trans (hz3679 j)
  have hz3706 : ∀ j, V3699 o423 j = .int 0 := fun j => (uq_ne e3698 (Or.inl (K_ne kz3682 h3669 (by decide)))).trans (hz3681 j)
  have hz3707 : ∀ j, V3699 o1907 j = .int 0 := fun j => (uq_ne e3698 (Or.inl (K_ne kz3684 h3669 (by decide)))).trans (hz3683 j)
  have hz3708 : ∀ j, V3699 o1942 j = .int 0 := fun j => (uq_ne e3698 (Or.inl (K_ne kz3686 h3669 (by decide)))).trans (hz3685 j)
  have hz3709 : ∀ j, V3699 o1980 j = .int 0 := fun j => (uq_ne e3698 (Or.inl (K_ne kz3688 h3669 (by decide)))).trans (hz3687 j)
  have hz3710 : ∀ j, V3699 o2063 j = .int 0 := fun j => (uq_ne e3698 (Or.inl (K_ne kz3690 h3669 (by decide)))).trans (hz3689 j)
  have hz3711 : ∀ j, V3699 o2242 j = .int 0 := fun j => (uq_ne e3698 (Or.inl (K_ne kz3692 h3669 (by decide)))).trans (hz3691 j)
  have hz3712 : ∀ j, V3699 o3503 j = .int 0 := fun j => (uq_ne e3698 (Or.inl (K_ne kz3694 h3669 (by decide)))).trans (hz3693 j)
  have hz3713 : ∀ j, V3699 o3553 j = .int 0 := fun j => (uq_ne e3698 (Or.inl (K_ne kz3696 h3669 (by decide)))).trans (hz3695 j)
  clear pf3670 hz3671 hz3673 hz3675 hz3677 hz3679 hz3681 hz3683 hz3685 hz3687 hz3689 hz3691 hz3693 hz3695
  refine GO.aload_n dX12_init_885 rfl rfl ?_
  refine GO.bipush dX12_init_886 rfl ?_
  refine GO.newT (atype := .int) 113 24 gw_89 rfl rfl (fun _ _ h => h) rfl rfl rfl (Or.inr rfl) (fun _ => okv_df rfl rfl rfl) rfl rfl dX12_init_888 (fun o3714 K3715 V3721 hq3716 hK3717 hE3718 h3719 hz3722 hV3720 => ?_)
  have h3723 := (by rw [hK3717, updK_ne (K_old h3669 hq3716)]; exact h3669 : K3715 x = some (0, 23))
  have pf3724 := PF.nw pf3700 hV3720 (K_old h3669 hq3716)
  have kz3726 := hE3718.arr kz3672
  have hz3725 : ∀ j, V3721 o188 j = .int 0 := fun j => (congrFun (hV3720 _ (K_old kz3672 hq3716)) j).trans (hz3701 j)
  have kz3728 := hE3718.arr kz3674
  have hz3727 : ∀ j, V3721 o205 j = .int 0 := fun j => (congrFun (hV3720 _ (K_old kz3674 hq3716)) j).trans (hz3702 j)
  have kz3730 := hE3718.arr kz3676
  have hz3729 : ∀ j, V3721 o225 j = .int 0 := fun j => (congrFun (hV3720 _ (K_old kz3676 hq3716)) j).trans (hz3703 j)
  have kz3732 := hE3718.arr kz3678
  have hz3731 : ∀ j, V3721 o248 j = .int 0 := fun j => (congrFun (hV3720 _ (K_old kz3678 hq3716)) j).trans (hz3704 j)
  have kz3734 := hE3718.arr kz3680
  have hz3733 : ∀ j, V3721 o274 j = .int 0 := fun j => (congrFun (hV3720 _ (K_old kz3680 hq3716)) j).trans (hz3705 j)
  have kz3736 := hE3718.arr kz3682
  have hz3735 : ∀ j, V3721 o423 j = .int 0 := fun j => (congrFun (hV3720 _ (K_old kz3682 hq3716)) j).trans (hz3706 j)
  have kz3738 := hE3718.arr kz3684
  have hz3737 : ∀ j, V3721 o1907 j = .int 0 := fun j => (congrFun (hV3720 _ (K_old kz3684 hq3716)) j).trans (hz3707 j)
  have kz3740 := hE3718.arr kz3686
  have hz3739 : ∀ j, V3721 o1942 j = .int 0 := fun j => (congrFun (hV3720 _ (K_old kz3686 hq3716)) j).trans (hz3708 j)
  have kz3742 := hE3718.arr kz3688
  have hz3741 : ∀ j, V3721 o1980 j = .int 0 := fun j => (congrFun (hV3720 _ (K_old kz3688 hq3716)) j).trans (hz3709 j)
  have kz3744 := hE3718.arr kz3690
  have hz3743 : ∀ j, V3721 o2063 j = .int 0 := fun j => (congrFun (hV3720 _ (K_old kz3690 hq3716)) j).trans (hz3710 j)
  have kz3746 := hE3718.arr kz3692
  have hz3745 : ∀ j, V3721 o2242 j = .int 0 := fun j => (congrFun (hV3720 _ (K_old kz3692 hq3716)) j).trans (hz3711 j)
  have kz3748 := hE3718.arr kz3694
  have hz3747 : ∀ j, V3721 o3503 j = .int 0 := fun j => (congrFun (hV3720 _ (K_old kz3694 hq3716)) j).trans (hz3712 j)
  have kz3750 := hE3718.arr kz3696
  have hz3749 : ∀ j, V3721 o3553 j = .int 0 := fun j => (congrFun (hV3720 _ (K_old kz3696 hq3716)) j).trans (hz3713 j)
  have h3751 := KE.nw (KE.new (KE.new (KE.new (KE.new (KE.new (KE.new (KE.new (KE.new (KE.new (KE.new (KE.new (KE.new (KE.new (KE.new (KE.new (KE.new (KE.new (KE.new (KE.new (KE.new (KE.new (KE.new (KE.new (KE.new (KE.new (KE.new (KE.new (KE.new (KE.new (KE.new (KE.new (KE.new (KE.new (KE.new (KE.new (KE.new (KE.new (KE.new (KE.new (KE.new (KE.new (KE.new (KE.new (KE.new (KE.new (KE.new (KE.new (KE.new (KE.new (KE.new (KE.new (KE.new (KE.new (KE.new (KE.new (KE.new (KE.new (KE.new (KE.new (KE.new (KE.new (KE.new (KE.new (KE.new (KE.new (KE.new (KE.new (KE.new (KE.new (KE.new (KE.new (KE.new (KE.new (KE.new (KE.new (KE.new (KE.new (KE.new (KE.new (KE.new (KE.new (KE.new (KE.new (KE.new (KE.new (KE.new (KE.new (KE.new (KE.new (KE.new (KE.new (KE.new (KE.new (KE.new (KE.new (KE.new (KE.new (KE.new (KE.new (KE.new (KE.new (KE.new (KE.new (KE.new KE.rf hq10 hK11) hq25 hK26) hq40 hK41) hq55 hK56) hq70 hK71) hq85 hK86) hq100 hK101) hq115 hK116) hq130 hK131) hq145 hK146) hq160 hK161) hq175 hK176) hq190 hK191) hq207 hK208) hq227 hK228) hq250 hK251) hq276 hK277) hq305 hK306) hq335 hK336) hq365 hK366) hq395 hK396) hq425 hK426) hq457 hK458) hq490 hK491) hq523 hK524) hq556 hK557) hq589 hK590) hq622 hK623) hq655 hK656) hq688 hK689) hq721 hK722) hq754 hK755) hq787 hK788) hq820 hK821) hq853 hK854) hq886 hK887) hq919 hK920) hq952 hK953) hq985 hK986) hq1018 hK1019) hq1051 hK1052) hq1084 hK1085) hq1117 hK1118) hq1150 hK1151) hq1183 hK1184) hq1216 hK1217) hq1249 hK1250) hq1282 hK1283) hq1315 hK1316) hq1348 hK1349) hq1381 hK1382) hq1414 hK1415) hq1447 hK1448) hq1480 hK1481) hq1513 hK1514) hq1546 hK1547) hq1579 hK1580) hq1612 hK1613) hq1645 hK1646) hq1678 hK1679) hq1711 hK1712) hq1744 hK1745) hq1777 hK1778) hq1810 hK1811) hq1843 hK1844) hq1876 hK1877) hq1909 hK1910) hq1944 hK1945) hq1982 hK1983) hq2023 hK2024) hq2065 hK2066) hq2109 hK2110) hq2154 hK2155) hq2199 hK2200) hq2244 hK2245) hq2291 hK2292) hq2339 hK2340) hq2387 hK2388) hq2435 hK2436) hq2483 hK2484) hq2531 hK2532) hq2579 hK2580) hq2627 hK2628) hq2675 hK2676) hq2723 hK2724) hq2771 hK2772) hq2819 hK2820) hq2881 hK2882) hq2929 hK2930) hq2977 hK2978) hq3025 hK3026) hq3073 hK3074) hq3121 hK3122) hq3169 hK3170) hq3217 hK3218) hq3265 hK3266) hq3313 hK3314) hq3361 hK3362) hq3409 hK3410) hq3457 hK3458) hq3505 hK3506) hq3555 hK3556) hq3608 hK3609) hq3662 hK3663) h3669 hq3716
  clear pf3700 kz3672 hz3701 kz3674 hz3702 kz3676 hz3703 kz3678 hz3704 kz3680 hz3705 kz3682 hz3706 kz3684 hz3707 kz3686 hz3708 kz3688 hz3709 kz3690 hz3710 kz3692 hz3711 kz3694 hz3712 kz3696 hz3713
  refine GO.putRF rfl rfl (by decide +kernel) h3723 fp_raw_fp_RX12_334 rfl rfl dX12_init_890 (fun V3753 e3752 => ?_)
  have pf3754 := PF.put pf3724 e3752 rfl
  have hz3755 : ∀ j, V3753 o188 j = .int 0 := fun j => (uq_ne e3752 (Or.inl (K_ne kz3726 h3723 (by decide)))).trans (hz3725 j)
  have hz3756 : ∀ j, V3753 o205 j = .int 0 := fun j => (uq_ne e3752 (Or.inl (K_ne kz3728 h3723 (by decide)))).trans (hz3727 j)
  have hz3757 : ∀ j, V3753 o225 j = .int 0 := fun j => (uq_ne e3752 (Or.inl (K_ne kz3730 h3723 (by decide)))).trans (hz3729 j)
  have hz3758 : ∀ j, V3753 o248 j = .int 0 := fun j => (uq_ne e3752 (Or.inl (K_ne kz3732 h3723 (by decide)))).trans (hz3731 j)
  have hz3759 : ∀ j, V3753 o274 j = .int 0 := fun j => (uq_ne e3752 (Or.inl (K_ne kz3734 h3723 (by decide)))).trans (hz3733 j)
  have hz3760 : ∀ j, V3753 o423 j = .int 0 := fun j => (uq_ne e3752 (Or.inl (K_ne kz3736 h3723 (by decide)))).trans (hz3735 j)
  have hz3761 : ∀ j, V3753 o1907 j = .int 0 := fun j => (uq_ne e3752 (Or.inl (K_ne kz3738 h3723 (by decide)))).trans (hz3737 j)
  have hz3762 : ∀ j, V3753 o1942 j = .int 0 := fun j => (uq_ne e3752 (Or.inl (K_ne kz3740 h3723 (by decide)))).trans (hz3739 j)
  have hz3763 : ∀ j, V3753 o1980 j = .int 0 := fun j => (uq_ne e3752 (Or.inl (K_ne kz3742 h3723 (by decide)))).trans (hz3741 j)
  have hz3764 : ∀ j, V3753 o2063 j = .int 0 := fun j => (uq_ne e3752 (Or.inl (K_ne kz3744 h3723 (by decide)))).trans (hz3743 j)
  have hz3765 : ∀ j, V3753 o2242 j = .int 0 := fun j => (uq_ne e3752 (Or.inl (K_ne kz3746 h3723 (by decide)))).trans (hz3745 j)
  have hz3766 : ∀ j, V3753 o3503 j = .int 0 := fun j => (uq_ne e3752 (Or.inl (K_ne kz3748 h3723 (by decide)))).trans (hz3747 j)
  have hz3767 : ∀ j, V3753 o3553 j = .int 0 := fun j => (uq_ne e3752 (Or.inl (K_ne kz3750 h3723 (by decide)))).trans (hz3749 j)
  clear pf3724 hz3725 hz3727 hz3729 hz3731 hz3733 hz3735 hz3737 hz3739 hz3741 hz3743 hz3745 hz3747 hz3749
  refine GO.aload_n dX12_init_893 rfl rfl ?_
  refine GO.bipush dX12_init_894 rfl ?_
  refine GO.newT (atype := .int) 114 24 gw_89 rfl rfl (fun _ _ h => h) rfl rfl rfl (Or.inr rfl) (fun _ => okv_df rfl rfl rfl) rfl rfl dX12_init_896 (fun o3768 K3769 V3775 hq3770 hK3771 hE3772 h3773 hz3776 hV3774 => ?_)
  have h3777 := (by rw [hK3771, updK_ne (K_old h3723 hq3770)]; exact h3723 : K3769 x = some (0, 23))
  have pf3778 := PF.nw pf3754 hV3774 (K_old h3723 hq3770)
  have kz3780 := hE3772.arr kz3726
  have hz3779 : ∀ j, V3775 o188 j = .int 0 := fun j => (congrFun (hV3774 _ (K_old kz3726 hq3770)) j).trans (hz3755 j)
  have kz3782 := hE3772.arr kz3728
  have hz3781 : ∀ j, V3775 o205 j = .int 0 := fun j => (congrFun (hV3774 _ (K_old kz3728 hq3770)) j).trans (hz3756 j)
  have kz3784 := hE3772.arr kz3730
  have hz3783 : ∀ j, V3775 o225 j = .int 0 := fun j => (congrFun (hV3774 _ (K_old kz3730 hq3770)) j).trans (hz3757 j)
  have kz3786 := hE3772.arr kz3732
  have hz3785 : ∀ j, V3775 o248 j = .int 0 := fun j => (congrFun (hV3774 _ (K_old kz3732 hq3770)) j).trans (hz3758 j)
  have kz3788 := hE3772.arr kz3734
  have hz3787 : ∀ j, V3775 o274 j = .int 0 := fun j => (congrFun (hV3774 _ (K_old kz3734 hq3770)) j).trans (hz3759 j)
  have kz3790 := hE3772.arr kz3736
  have hz3789 : ∀ j, V3775 o423 j = .int 0 := fun j => (congrFun (hV3774 _ (K_old kz3736 hq3770)) j).trans (hz3760 j)
  have kz3792 := hE3772.arr kz3738
  have hz3791 : ∀ j, V3775 o1907 j = .int 0 := fun j => (congrFun (hV3774 _ (K_old kz3738 hq3770)) j).trans (hz3761 j)
  have kz3794 := hE3772.arr kz3740
  have hz3793 : ∀ j, V3775 o1942 j = .int 0 := fun j => (congrFun (hV3774 _ (K_old kz3740 hq3770)) j).trans (hz3762 j)
  have kz3796 := hE3772.arr kz3742
  have hz3795 : ∀ j, V3775 o1980 j = .int 0 := fun j => (congrFun (hV3774 _ (K_old kz3742 hq3770)) j).trans (hz3763 j)
  have kz3798 := hE3772.arr kz3744
  have hz3797 : ∀ j, V3775 o2063 j = .int 0 := fun j => (congrFun (hV3774 _ (K_old kz3744 hq3770)) j).trans (hz3764 j)
  have kz3800 := hE3772.arr kz3746
  have hz3799 : ∀ j, V3775 o2242 j = .int 0 := fun j => (congrFun (hV3774 _ (K_old kz3746 hq3770)) j).trans (hz3765 j)
  have kz3802 := hE3772.arr kz3748
  have hz3801 : ∀ j, V3775 o3503 j = .int 0 := fun j => (congrFun (hV3774 _ (K_old kz3748 hq3770)) j).trans (hz3766 j)
  have kz3804 := hE3772.arr kz3750
  have hz3803 : ∀ j, V3775 o3553 j = .int 0 := fun j => (congrFun (hV3774 _ (K_old kz3750 hq3770)) j).trans (hz3767 j)
  have h3805 := KE.nw (KE.new (KE.new (KE.new (KE.new (KE.new (KE.new (KE.new (KE.new (KE.new (KE.new (KE.new (KE.new (KE.new (KE.new (KE.new (KE.new (KE.new (KE.new (KE.new (KE.new (KE.new (KE.new (KE.new (KE.new (KE.new (KE.new (KE.new (KE.new (KE.new (KE.new (KE.new (KE.new (KE.new (KE.new (KE.new (KE.new (KE.new (KE.new (KE.new (KE.new (KE.new (KE.new (KE.new (KE.new (KE.new (KE.new (KE.new (KE.new (KE.new (KE.new (KE.new (KE.new (KE.new (KE.new (KE.new (KE.new (KE.new (KE.new (KE.new (KE.new (KE.new (KE.new (KE.new (KE.new (KE.new (KE.new (KE.new (KE.new (KE.new (KE.new (KE.new (KE.new (KE.new (KE.new (KE.new (KE.new (KE.new (KE.new (KE.new (KE.new (KE.new (KE.new (KE.new (KE.new (KE.new (KE.new (KE.new (KE.new (KE.new (KE.new (KE.new (KE.new (KE.new (KE.new (KE.new (KE.new (KE.new (KE.new (KE.new (KE.new (KE.new (KE.new (KE.new (KE.new (KE.new KE.rf hq10 hK11) hq25 hK26) hq40 hK41) hq55 hK56) hq70 hK71) hq85 hK86) hq100 hK101) hq115 hK116) hq130 hK131) hq145 hK146) hq160 hK161) hq175 hK176) hq190 hK191) hq207 hK208) hq227 hK228) hq250 hK251) hq276 hK277) hq305 hK306) hq335 hK336) hq365 hK366) hq395 hK396) hq425 hK426) hq457 hK458) hq490 hK491) hq523 hK524) hq556 hK557) hq589 hK590) hq622 hK623) hq655 hK656) hq688 hK689) hq721 hK722) hq754 hK755) hq787 hK788) hq820 hK821) hq853 hK854) hq886 hK887) hq919 hK920) hq952 hK953) hq985 hK986) hq1018 hK1019) hq1051 hK1052) hq1084 hK1085) hq1117 hK1118) hq1150 hK1151) hq1183 hK1184) hq1216 hK1217) hq1249 hK1250) hq1282 hK1283) hq1315 hK1316) hq1348 hK1349) hq1381 hK1382) hq1414 hK1415) hq1447 hK1448) hq1480 hK1481) hq1513 hK1514) hq1546 hK1547) hq1579 hK1580) hq1612 hK1613) hq1645 hK1646) hq1678 hK1679) hq1711 hK1712) hq1744 hK1745) hq1777 hK1778) hq1810 hK1811) hq1843 hK1844) hq1876 hK1877) hq1909 hK1910) hq1944 hK1945) hq1982 hK1983) hq2023 hK2024) hq2065 hK2066) hq2109 hK2110) hq2154 hK2155) hq2199 hK2200) hq2244 hK2245) hq2291 hK2292) hq2339 hK2340) hq2387 hK2388) hq2435 hK2436) hq2483 hK2484) hq2531 hK2532) hq2579 hK2580) hq2627 hK2628) hq2675 hK2676) hq2723 hK2724) hq2771 hK2772) hq2819 hK2820) hq2881 hK2882) hq2929 hK2930) hq2977 hK2978) hq3025 hK3026) hq3073 hK3074) hq3121 hK3122) hq3169 hK3170) hq3217 hK3218) hq3265 hK3266) hq3313 hK3314) hq3361 hK3362) hq3409 hK3410) hq3457 hK3458) hq3505 hK3506) hq3555 hK3556) hq3608 hK3609) hq3662 hK3663) hq3716 hK3717) h3723 hq3770
  clear pf3754 kz3726 hz3755 kz3728 hz3756 kz3730 hz3757 kz3732 hz3758 kz3734 hz3759 kz3736 hz3760 kz3738 hz3761 kz3740 hz3762 kz3742 hz3763 kz3744 hz3764 kz3746 hz3765 kz3748 hz3766 kz3750 hz3767
  refine GO.putRF rfl rfl (by decide +kernel) h3777 fp_raw_fp_RX12_337 rfl rfl dX12_init_898 (fun V3807 e3806 => ?_)
  have pf3808 := PF.put pf3778 e3806 rfl
  have hz3809 : ∀ j, V3807 o188 j = .int 0 := fun j => (uq_ne e3806 (Or.inl (K_ne kz3780 h3777 (by decide)))).trans (hz3779 j)
  have hz3810 : ∀ j, V3807 o205 j = .int 0 := fun j => (uq_ne e3806 (Or.inl (K_ne kz3782 h3777 (by decide)))).trans (hz3781 j)
  have hz3811 : ∀ j, V3807 o225 j = .int 0 := fun j => (uq_ne e3806 (Or.inl (K_ne kz3784 h3777 (by decide)))).trans (hz3783 j)
  have hz3812 : ∀ j, V3807 o248 j = .int 0 := fun j => (uq_ne e3806 (Or.inl (K_ne kz3786 h3777 (by decide)))).trans (hz3785 j)
  have hz3813 : ∀ j, V3807 o274 j = .int 0 := fun j => (uq_ne e3806 (Or.inl (K_ne kz3788 h3777 (by decide)))).trans (hz3787 j)
  have hz3814 : ∀ j, V3807 o423 j = .int 0 := fun j => (uq_ne e3806 (Or.inl (K_ne kz3790 h3777 (by decide)))).trans (hz3789 j)
  have hz3815 : ∀ j, V3807 o1907 j = .int 0 := fun j => (uq_ne e3806 (Or.inl (K_ne kz3792 h3777 (by decide)))).trans (hz3791 j)
  have hz3816 : ∀ j, V3807 o1942 j = .int 0 := fun j => (uq_ne e3806 (Or.inl (K_ne kz3794 h3777 (by decide)))).trans (hz3793 j)
  have hz3817 : ∀ j, V3807 o1980 j = .int 0 := fun j => (uq_ne e3806 (Or.inl (K_ne kz3796 h3777 (by decide)))).trans (hz3795 j)
  have hz3818 : ∀ j, V3807 o2063 j = .int 0 := fun j => (uq_ne e3806 (Or.inl (K_ne kz3798 h3777 (by decide)))).trans (hz3797 j)
  have hz3819 : ∀ j, V3807 o2242 j = .int 0 := fun j => (uq_ne e3806 (Or.inl (K_ne kz3800 h3777 (by decide)))).trans (hz3799 j)
  have hz3820 : ∀ j, V3807 o3503 j = .int 0 := fun j => (uq_ne e3806 (Or.inl (K_ne kz3802 h3777 (by decide)))).trans (hz3801 j)
  have hz3821 : ∀ j, V3807 o3553 j = .int 0 := fun j => (uq_ne e3806 (Or.inl (K_ne kz3804 h3777 (by decide)))).trans (hz3803 j)
  clear pf3778 hz3779 hz3781 hz3783 hz3785 hz3787 hz3789 hz3791 hz3793 hz3795 hz3797 hz3799 hz3801 hz3803
  refine GO.aload_n dX12_init_901 rfl rfl ?_
  refine GO.bipush dX12_init_902 rfl ?_
  refine GO.newT (atype := .int) 115 8 gw_89 rfl rfl (fun _ _ h => h) rfl rfl rfl (Or.inr rfl) (fun _ => okv_df rfl rfl rfl) rfl rfl dX12_init_904 (fun o3822 K3823 V3829 hq3824 hK3825 hE3826 h3827 hz3830 hV3828 => ?_)
  have h3831 := (by rw [hK3825, updK_ne (K_old h3777 hq3824)]; exact h3777 : K3823 x = some (0, 23))
  have pf3832 := PF.nw pf3808 hV3828 (K_old h3777 hq3824)
  have kz3834 := hE3826.arr kz3780
  have hz3833 : ∀ j, V3829 o188 j = .int 0 := fun j => (congrFun (hV3828 _ (K_old kz3780 hq3824)) j).trans (hz3809 j)
  have kz3836 := hE3826.arr kz3782
  have hz3835 : ∀ j, V3829 o205 j = .int 0 := fun j => (congrFun (hV3828 _ (K_old kz3782 hq3824)) j).trans (hz3810 j)
  have kz3838 := hE3826.arr kz3784
  have hz3837 : ∀ j, V3829 o225 j = .int 0 := fun j => (congrFun (hV3828 _ (K_old kz3784 hq3824)) j).trans (hz3811 j)
  have kz3840 := hE3826.arr kz3786
  have hz3839 : ∀ j, V3829 o248 j = .int 0 := fun j => (congrFun (hV3828 _ (K_old kz3786 hq3824)) j).trans (hz3812 j)
  have kz3842 := hE3826.arr kz3788
  have hz3841 : ∀ j, V3829 o274 j = .int 0 := fun j => (congrFun (hV3828 _ (K_old kz3788 hq3824)) j).trans (hz3813 j)
  have kz3844 := hE3826.arr kz3790
  have hz3843 : ∀ j, V3829 o423 j = .int 0 := fun j => (congrFun (hV3828 _ (K_old kz3790 hq3824)) j).trans (hz3814 j)
  have kz3846 := hE3826.arr kz3792
  have hz3845 : ∀ j, V3829 o1907 j = .int 0 := fun j => (congrFun (hV3828 _ (K_old kz3792 hq3824)) j).trans (hz3815 j)
  have kz3848 := hE3826.arr kz3794
  have hz3847 : ∀ j, V3829 o1942 j = .int 0 := fun j => (congrFun (hV3828 _ (K_old kz3794 hq3824)) j).trans (hz3816 j)
  have kz3850 := hE3826.arr kz3796
  have hz3849 : ∀ j, V3829 o1980 j = .int 0 := fun j => (congrFun (hV3828 _ (K_old kz3796 hq3824)) j).trans (hz3817 j)
  have kz3852 := hE3826.arr kz3798
  have hz3851 : ∀ j, V3829 o2063 j = .int 0 := fun j => (congrFun (hV3828 _ (K_old kz3798 hq3824)) j).trans (hz3818 j)
  have kz3854 := hE3826.arr kz3800
  have hz3853 : ∀ j, V3829 o2242 j = .int 0 := fun j => (congrFun (hV3828 _ (K_old kz3800 hq3824)) j).trans (hz3819 j)
  have kz3856 := hE3826.arr kz3802
  have hz3855 : ∀ j, V3829 o3503 j = .int 0 := fun j => (congrFun (hV3828 _ (K_old kz3802 hq3824)) j).trans (hz3820 j)
  have kz3858 := hE3826.arr kz3804
  have hz3857 : ∀ j, V3829 o3553 j = .int 0 := fun j => (congrFun (hV3828 _ (K_old kz3804 hq3824)) j).trans (hz3821 j)
  have h3859 := KE.nw (KE.new (KE.new (KE.new (KE.new (KE.new (KE.new (KE.new (KE.new (KE.new (KE.new (KE.new (KE.new (KE.new (KE.new (KE.new (KE.new (KE.new (KE.new (KE.new (KE.new (KE.new (KE.new (KE.new (KE.new (KE.new (KE.new (KE.new (KE.new (KE.new (KE.new (KE.new (KE.new (KE.new (KE.new (KE.new (KE.new (KE.new (KE.new (KE.new (KE.new (KE.new (KE.new (KE.new (KE.new (KE.new (KE.new (KE.new (KE.new (KE.new (KE.new (KE.new (KE.new (KE.new (KE.new (KE.new (KE.new (KE.new (KE.new (KE.new (KE.new (KE.new (KE.new (KE.new (KE.new (KE.new (KE.new (KE.new (KE.new (KE.new (KE.new (KE.new (KE.new (KE.new (KE.new (KE.new (KE.new (KE.new (KE.new (KE.new (KE.new (KE.new (KE.new (KE.new (KE.new (KE.new (KE.new (KE.new (KE.new (KE.new (KE.new (KE.new (KE.new (KE.new (KE.new (KE.new (KE.new (KE.new (KE.new (KE.new (KE.new (KE.new (KE.new (KE.new (KE.new (KE.new (KE.new KE.rf hq10 hK11) hq25 hK26) hq40 hK41) hq55 hK56) hq70 hK71) hq85 hK86) hq100 hK101) hq115 hK116) hq130 hK131) hq145 hK146) hq160 hK161) hq175 hK176) hq190 hK191) hq207 hK208) hq227 hK228) hq250 hK251) hq276 hK277) hq305 hK306) hq335 hK336) hq365 hK366) hq395 hK396) hq425 hK426) hq457 hK458) hq490 hK491) hq523 hK524) hq556 hK557) hq589 hK590) hq622 hK623) hq655 hK656) hq688 hK689) hq721 hK722) hq754 hK755) hq787 hK788) hq820 hK821) hq853 hK854) hq886 hK887) hq919 hK920) hq952 hK953) hq985 hK986) hq1018 hK1019) hq1051 hK1052) hq1084 hK1085) hq1117 hK1118) hq1150 hK1151) hq1183 hK1184) hq1216 hK1217) hq1249 hK1250) hq1282 hK1283) hq1315 hK1316) hq1348 hK1349) hq1381 hK1382) hq1414 hK1415) hq1447 hK1448) hq1480 hK1481) hq1513 hK1514) hq1546 hK1547) hq1579 hK1580) hq1612 hK1613) hq1645 hK1646) hq1678 hK1679) hq1711 hK1712) hq1744 hK1745) hq1777 hK1778) hq1810 hK1811) hq1843 hK1844) hq1876 hK1877) hq1909 hK1910) hq1944 hK1945) hq1982 hK1983) hq2023 hK2024) hq2065 hK2066) hq2109 hK2110) hq2154 hK2155) hq2199 hK2200) hq2244 hK2245) hq2291 hK2292) hq2339 hK2340) hq2387 hK2388) hq2435 hK2436) hq2483 hK2484) hq2531 hK2532) hq2579 hK2580) hq2627 hK2628) hq2675 hK2676) hq2723 hK2724) hq2771 hK2772) hq2819 hK2820) hq2881 hK2882) hq2929 hK2930) hq2977 hK2978) hq3025 hK3026) hq3073 hK3074) hq3121 hK3122) hq3169 hK3170) hq3217 hK3218) hq3265 hK3266) hq3313 hK3314) hq3361 hK3362) hq3409 hK3410) hq3457 hK3458) hq3505 hK3506) hq3555 hK3556) hq3608 hK3609) hq3662 hK3663) hq3716 hK3717) hq3770 hK3771) h3777 hq3824
  clear pf3808 kz3780 hz3809 kz3782 hz3810 kz3784 hz3811 kz3786 hz3812 kz3788 hz3813 kz3790 hz3814 kz3792 hz3815 kz3794 hz3816 kz3796 hz3817 kz3798 hz3818 kz3800 hz3819 kz3802 hz3820 kz3804 hz3821
  refine GO.putRF rfl rfl (by decide +kernel) h3831 fp_raw_fp_RX12_340 rfl rfl dX12_init_906 (fun V3861 e3860 => ?_)
  have pf3862 := PF.put pf3832 e3860 rfl
  have hz3863 : ∀ j, V3861 o188 j = .int 0 := fun j => (uq_ne e3860 (Or.inl (K_ne kz3834 h3831 (by decide)))).trans (hz3833 j)
  have hz3864 : ∀ j, V3861 o205 j = .int 0 := fun j => (uq_ne e3860 (Or.inl (K_ne kz3836 h3831 (by decide)))).trans (hz3835 j)
  have hz3865 : ∀ j, V3861 o225 j = .int 0 := fun j => (uq_ne e3860 (Or.inl (K_ne kz3838 h3831 (by decide)))).trans (hz3837 j)
  have hz3866 : ∀ j, V3861 o248 j = .int 0 := fun j => (uq_ne e3860 (Or.inl (K_ne kz3840 h3831 (by decide)))).trans (hz3839 j)
  have hz3867 : ∀ j, V3861 o274 j = .int 0 := fun j => (uq_ne e3860 (Or.inl (K_ne kz3842 h3831 (by decide)))).trans (hz3841 j)
  have hz3868 : ∀ j, V3861 o423 j = .int 0 := fun j => (uq_ne e3860 (Or.inl (K_ne kz3844 h3831 (by decide)))).trans (hz3843 j)
  have hz3869 : ∀ j, V3861 o1907 j = .int 0 := fun j => (uq_ne e3860 (Or.inl (K_ne kz3846 h3831 (by decide)))).trans (hz3845 j)
  have hz3870 : ∀ j, V3861 o1942 j = .int 0 := fun j => (uq_ne e3860 (Or.inl (K_ne kz3848 h3831 (by decide)))).trans (hz3847 j)
  have hz3871 : ∀ j, V3861 o1980 j = .int 0 := fun j => (uq_ne e3860 (Or.inl (K_ne kz3850 h3831 (by decide)))).trans (hz3849 j)
  have hz3872 : ∀ j, V3861 o2063 j = .int 0 := fun j => (uq_ne e3860 (Or.inl (K_ne kz3852 h3831 (by decide)))).trans (hz3851 j)
  have hz3873 : ∀ j, V3861 o2242 j = .int 0 := fun j => (uq_ne e3860 (Or.inl (K_ne kz3854 h3831 (by decide)))).trans (hz3853 j)
  have hz3874 : ∀ j, V3861 o3503 j = .int 0 := fun j => (uq_ne e3860 (Or.inl (K_ne kz3856 h3831 (by decide)))).trans (hz3855 j)
  have hz3875 : ∀ j, V3861 o3553 j = .int 0 := fun j => (uq_ne e3860 (Or.inl (K_ne kz3858 h3831 (by decide)))).trans (hz3857 j)
  clear pf3832 hz3833 hz3835 hz3837 hz3839 hz3841 hz3843 hz3845 hz3847 hz3849 hz3851 hz3853 hz3855 hz3857
  refine GO.aload_n dX12_init_909 rfl rfl ?_
  refine GO.bipush dX12_init_910 rfl ?_
  refine GO.newT (atype := .int) 116 8 gw_89 rfl rfl (fun _ _ h => h) rfl rfl rfl (Or.inr rfl) (fun _ => okv_df rfl rfl rfl) rfl rfl dX12_init_912 (fun o3876 K3877 V3883 hq3878 hK3879 hE3880 h3881 hz3884 hV3882 => ?_)
  have h3885 := (by rw [hK3879, updK_ne (K_old h3831 hq3878)]; exact h3831 : K3877 x = some (0, 23))
  have pf3886 := PF.nw pf3862 hV3882 (K_old h3831 hq3878)
  have kz3888 := hE3880.arr kz3834
  have hz3887 : ∀ j, V3883 o188 j = .int 0 := fun j => (congrFun (hV3882 _ (K_old kz3834 hq3878)) j).trans (hz3863 j)
  have kz3890 := hE3880.arr kz3836
  have hz3889 : ∀ j, V3883 o205 j = .int 0 := fun j => (congrFun (hV3882 _ (K_old kz3836 hq3878)) j).trans (hz3864 j)
  have kz3892 := hE3880.arr kz3838
  have hz3891 : ∀ j, V3883 o225 j = .int 0 := fun j => (congrFun (hV3882 _ (K_old kz3838 hq3878)) j).trans (hz3865 j)
  have kz3894 := hE3880.arr kz3840
  have hz3893 : ∀ j, V3883 o248 j = .int 0 := fun j => (congrFun (hV3882 _ (K_old kz3840 hq3878)) j).trans (hz3866 j)
  have kz3896 := hE3880.arr kz3842
  have hz3895 : ∀ j, V3883 o274 j = .int 0 := fun j => (congrFun (hV3882 _ (K_old kz3842 hq3878)) j).trans (hz3867 j)
  have kz3898 := hE3880.arr kz3844
  have hz3897 : ∀ j, V3883 o423 j = .int 0 := fun j => (congrFun (hV3882 _ (K_old kz3844 hq3878)) j).trans (hz3868 j)
  have kz3900 := hE3880.arr kz3846
  have hz3899 : ∀ j, V3883 o1907 j = .int 0 := fun j => (congrFun (hV3882 _ (K_old kz3846 hq3878)) j).trans (hz3869 j)
  have kz3902 := hE3880.arr kz3848
  have hz3901 : ∀ j, V3883 o1942 j = .int 0 := fun j => (congrFun (hV3882 _ (K_old kz3848 hq3878)) j).trans (hz3870 j)
  have kz3904 := hE3880.arr kz3850
  have hz3903 : ∀ j, V3883 o1980 j = .int 0 := fun j => (congrFun (hV3882 _ (K_old kz3850 hq3878)) j).trans (hz3871 j)
  have kz3906 := hE3880.arr kz3852
  have hz3905 : ∀ j, V3883 o2063 j = .int 0 := fun j => (congrFun (hV3882 _ (K_old kz3852 hq3878)) j).trans (hz3872 j)
  have kz3908 := hE3880.arr kz3854
  have hz3907 : ∀ j, V3883 o2242 j = .int 0 := fun j => (congrFun (hV3882 _ (K_old kz3854 hq3878)) j).trans (hz3873 j)
  have kz3910 := hE3880.arr kz3856
  have hz3909 : ∀ j, V3883 o3503 j = .int 0 := fun j => (congrFun (hV3882 _ (K_old kz3856 hq3878)) j).trans (hz3874 j)
  have kz3912 := hE3880.arr kz3858
  have hz3911 : ∀ j, V3883 o3553 j = .int 0 := fun j => (congrFun (hV3882 _ (K_old kz3858 hq3878)) j).trans (hz3875 j)
  have h3913 := KE.nw (KE.new (KE.new (KE.new (KE.new (KE.new (KE.new (KE.new (KE.new (KE.new (KE.new (KE.new (KE.new (KE.new (KE.new (KE.new (KE.new (KE.new (KE.new (KE.new (KE.new (KE.new (KE.new (KE.new (KE.new (KE.new (KE.new (KE.new (KE.new (KE.new (KE.new (KE.new (KE.new (KE.new (KE.new (KE.new (KE.new (KE.new (KE.new (KE.new (KE.new (KE.new (KE.new (KE.new (KE.new (KE.new (KE.new (KE.new (KE.new (KE.new (KE.new (KE.new (KE.new (KE.new (KE.new (KE.new (KE.new (KE.new (KE.new (KE.new (KE.new (KE.new (KE.new (KE.new (KE.new (KE.new (KE.new (KE.new (KE.new (KE.new (KE.new (KE.new (KE.new (KE.new (KE.new (KE.new (KE.new (KE.new (KE.new (KE.new (KE.new (KE.new (KE.new (KE.new (KE.new (KE.new (KE.new (KE.new (KE.new (KE.new (KE.new (KE.new (KE.new (KE.new (KE.new (KE.new (KE.new (KE.new (KE.new (KE.new (KE.new (KE.new (KE.new (KE.new (KE.new (KE.new (KE.new (KE.new KE.rf hq10 hK11) hq25 hK26) hq40 hK41) hq55 hK56) hq70 hK71) hq85 hK86) hq100 hK101) hq115 hK116) hq130 hK131) hq145 hK146) hq160 hK161) hq175 hK176) hq190 hK191) hq207 hK208) hq227 hK228) hq250 hK251) hq276 hK277) hq305 hK306) hq335 hK336) hq365 hK366) hq395 hK396) hq425 hK426) hq457 hK458) hq490 hK491) hq523 hK524) hq556 hK557) hq589 hK590) hq622 hK623) hq655 hK656) hq688 hK689) hq721 hK722) hq754 hK755) hq787 hK788) hq820 hK821) hq853 hK854) hq886 hK887) hq919 hK920) hq952 hK953) hq985 hK986) hq1018 hK1019) hq1051 hK1052) hq1084 hK1085) hq1117 hK1118) hq1150 hK1151) hq1183 hK1184) hq1216 hK1217) hq1249 hK1250) hq1282 hK1283) hq1315 hK1316) hq1348 hK1349) hq1381 hK1382) hq1414 hK1415) hq1447 hK1448) hq1480 hK1481) hq1513 hK1514) hq1546 hK1547) hq1579 hK1580) hq1612 hK1613) hq1645 hK1646) hq1678 hK1679) hq1711 hK1712) hq1744 hK1745) hq1777 hK1778) hq1810 hK1811) hq1843 hK1844) hq1876 hK1877) hq1909 hK1910) hq1944 hK1945) hq1982 hK1983) hq2023 hK2024) hq2065 hK2066) hq2109 hK2110) hq2154 hK2155) hq2199 hK2200) hq2244 hK2245) hq2291 hK2292) hq2339 hK2340) hq2387 hK2388) hq2435 hK2436) hq2483 hK2484) hq2531 hK2532) hq2579 hK2580) hq2627 hK2628) hq2675 hK2676) hq2723 hK2724) hq2771 hK2772) hq2819 hK2820) hq2881 hK2882) hq2929 hK2930) hq2977 hK2978) hq3025 hK3026) hq3073 hK3074) hq3121 hK3122) hq3169 hK3170) hq3217 hK3218) hq3265 hK3266) hq3313 hK3314) hq3361 hK3362) hq3409 hK3410) hq3457 hK3458) hq3505 hK3506) hq3555 hK3556) hq3608 hK3609) hq3662 hK3663) hq3716 hK3717) hq3770 hK3771) hq3824 hK3825) h3831 hq3878
  clear pf3862 kz3834 hz3863 kz3836 hz3864 kz3838 hz3865 kz3840 hz3866 kz3842 hz3867 kz3844 hz3868 kz3846 hz3869 kz3848 hz3870 kz3850 hz3871 kz3852 hz3872 kz3854 hz3873 kz3856 hz3874 kz3858 hz3875
  refine GO.putRF rfl rfl (by decide +kernel) h3885 fp_raw_fp_RX12_343 rfl rfl dX12_init_914 (fun V3915 e3914 => ?_)
  have pf3916 := PF.put pf3886 e3914 rfl
  have hz3917 : ∀ j, V3915 o188 j = .int 0 := fun j => (uq_ne e3914 (Or.inl (K_ne kz3888 h3885 (by decide)))).trans (hz3887 j)
  have hz3918 : ∀ j, V3915 o205 j = .int 0 := fun j => (uq_ne e3914 (Or.inl (K_ne kz3890 h3885 (by decide)))).trans (hz3889 j)
  have hz3919 : ∀ j, V3915 o225 j = .int 0 := fun j => (uq_ne e3914 (Or.inl (K_ne kz3892 h3885 (by decide)))).trans (hz3891 j)
  have hz3920 : ∀ j, V3915 o248 j = .int 0 := fun j => (uq_ne e3914 (Or.inl (K_ne kz3894 h3885 (by decide)))).trans (hz3893 j)
  have hz3921 : ∀ j, V3915 o274 j = .int 0 := fun j => (uq_ne e3914 (Or.inl (K_ne kz3896 h3885 (by decide)))).trans (hz3895 j)
  have hz3922 : ∀ j, V3915 o423 j = .int 0 := fun j => (uq_ne e3914 (Or.inl (K_ne kz3898 h3885 (by decide)))).trans (hz3897 j)
  have hz3923 : ∀ j, V3915 o1907 j = .int 0 := fun j => (uq_ne e3914 (Or.inl (K_ne kz3900 h3885 (by decide)))).trans (hz3899 j)
  have hz3924 : ∀ j, V3915 o1942 j = .int 0 := fun j => (uq_ne e3914 (Or.inl (K_ne kz3902 h3885 (by decide)))).trans (hz3901 j)
  have hz3925 : ∀ j, V3915 o1980 j = .int 0 := fun j => (uq_ne e3914 (Or.inl (K_ne kz3904 h3885 (by decide)))).trans (hz3903 j)
  have hz3926 : ∀ j, V3915 o2063 j = .int 0 := fun j => (uq_ne e3914 (Or.inl (K_ne kz3906 h3885 (by decide)))).trans (hz3905 j)
  have hz3927 : ∀ j, V3915 o2242 j = .int 0 := fun j => (uq_ne e3914 (Or.inl (K_ne kz3908 h3885 (by decide)))).trans (hz3907 j)
  have hz3928 : ∀ j, V3915 o3503 j = .int 0 := fun j => (uq_ne e3914 (Or.inl (K_ne kz3910 h3885 (by decide)))).trans (hz3909 j)
  have hz3929 : ∀ j, V3915 o3553 j = .int 0 := fun j => (uq_ne e3914 (Or.inl (K_ne kz3912 h3885 (by decide)))).trans (hz3911 j)
  clear pf3886 hz3887 hz3889 hz3891 hz3893 hz3895 hz3897 hz3899 hz3901 hz3903 hz3905 hz3907 hz3909 hz3911
  refine GO.aload_n dX12_init_917 rfl rfl ?_
  refine GO.sipush dX12_init_918 rfl ?_
  refine GO.newT (atype := .int) 117 200 gw_89 rfl rfl (fun _ _ h => h) rfl rfl rfl (Or.inr rfl) (fun _ => okv_df rfl rfl rfl) rfl rfl dX12_init_921 (fun o3930 K3931 V3937 hq3932 hK3933 hE3934 h3935 hz3938 hV3936 => ?_)
  have h3939 := (by rw [hK3933, updK_ne (K_old h3885 hq3932)]; exact h3885 : K3931 x = some (0, 23))
  have pf3940 := PF.nw pf3916 hV3936 (K_old h3885 hq3932)
  have kz3942 := hE3934.arr kz3888
  have hz3941 : ∀ j, V3937 o188 j = .int 0 := fun j => (congrFun (hV3936 _ (K_old kz3888 hq3932)) j).trans (hz3917 j)
  have kz3944 := hE3934.arr kz3890
  have hz3943 : ∀ j, V3937 o205 j = .int 0 := fun j => (congrFun (hV3936 _ (K_old kz3890 hq3932)) j).trans (hz3918 j)
  have kz3946 := hE3934.arr kz3892
  have hz3945 : ∀ j, V3937 o225 j = .int 0 := fun j => (congrFun (hV3936 _ (K_old kz3892 hq3932)) j).trans (hz3919 j)
  have kz3948 := hE3934.arr kz3894
  have hz3947 : ∀ j, V3937 o248 j = .int 0 := fun j => (congrFun (hV3936 _ (K_old kz3894 hq3932)) j).trans (hz3920 j)
  have kz3950 := hE3934.arr kz3896
  have hz3949 : ∀ j, V3937 o274 j = .int 0 := fun j => (congrFun (hV3936 _ (K_old kz3896 hq3932)) j).trans (hz3921 j)
  have kz3952 := hE3934.arr kz3898
  have hz3951 : ∀ j, V3937 o423 j = .int 0 := fun j => (congrFun (hV3936 _ (K_old kz3898 hq3932)) j).trans (hz3922 j)
  have kz3954 := hE3934.arr kz3900
  have hz3953 : ∀ j, V3937 o1907 j = .int 0 := fun j => (congrFun (hV3936 _ (K_old kz3900 hq3932)) j).trans (hz3923 j)
  have kz3956 := hE3934.arr kz3902
  have hz3955 : ∀ j, V3937 o1942 j = .int 0 := fun j => (congrFun (hV3936 _ (K_old kz3902 hq3932)) j).trans (hz3924 j)
  have kz3958 := hE3934.arr kz3904
  have hz3957 : ∀ j, V3937 o1980 j = .int 0 := fun j => (congrFun (hV3936 _ (K_old kz3904 hq3932)) j).trans (hz3925 j)
  have kz3960 := hE3934.arr kz3906
  have hz3959 : ∀ j, V3937 o2063 j = .int 0 := fun j => (congrFun (hV3936 _ (K_old kz3906 hq3932)) j).trans (hz3926 j)
  have kz3962 := hE3934.arr kz3908
  have hz3961 : ∀ j, V3937 o2242 j = .int 0 := fun j => (congrFun (hV3936 _ (K_old kz3908 hq3932)) j).trans (hz3927 j)
  have kz3964 := hE3934.arr kz3910
  have hz3963 : ∀ j, V3937 o3503 j = .int 0 := fun j => (congrFun (hV3936 _ (K_old kz3910 hq3932)) j).trans (hz3928 j)
  have kz3966 := hE3934.arr kz3912
  have hz3965 : ∀ j, V3937 o3553 j = .int 0 := fun j => (congrFun (hV3936 _ (K_old kz3912 hq3932)) j).trans (hz3929 j)
  have h3967 := KE.nw (KE.new (KE.new (KE.new (KE.new (KE.new (KE.new (KE.new (KE.new (KE.new (KE.new (KE.new (KE.new (KE.new (KE.new (KE.new (KE.new (KE.new (KE.new (KE.new (KE.new (KE.new (KE.new (KE.new (KE.new (KE.new (KE.new (KE.new (KE.new (KE.new (KE.new (KE.new (KE.new (KE.new (KE.new (KE.new (KE.new (KE.new (KE.new (KE.new (KE.new (KE.new (KE.new (KE.new (KE.new (KE.new (KE.new (KE.new (KE.new (KE.new (KE.new (KE.new (KE.new (KE.new (KE.new (KE.new (KE.new (KE.new (KE.new (KE.new (KE.new (KE.new (KE.new (KE.new (KE.new (KE.new (KE.new (KE.new (KE.new (KE.new (KE.new (KE.new (KE.new (KE.new (KE.new (KE.new (KE.new (KE.new (KE.new (KE.new (KE.new (KE.new (KE.new (KE.new (KE.new (KE.new (KE.new (KE.new (KE.new (KE.new (KE.new (KE.new (KE.new (KE.new (KE.new (KE.new (KE.new (KE.new (KE.new (KE.new (KE.new (KE.new (KE.new (KE.new (KE.new (KE.new (KE.new (KE.new (KE.new KE.rf hq10 hK11) hq25 hK26) hq40 hK41) hq55 hK56) hq70 hK71) hq85 hK86) hq100 hK101) hq115 hK116) hq130 hK131) hq145 hK146) hq160 hK161) hq175 hK176) hq190 hK191) hq207 hK208) hq227 hK228) hq250 hK251) hq276 hK277) hq305 hK306) hq335 hK336) hq365 hK366) hq395 hK396) hq425 hK426) hq457 hK458) hq490 hK491) hq523 hK524) hq556 hK557) hq589 hK590) hq622 hK623) hq655 hK656) hq688 hK689) hq721 hK722) hq754 hK755) hq787 hK788) hq820 hK821) hq853 hK854) hq886 hK887) hq919 hK920) hq952 hK953) hq985 hK986) hq1018 hK1019) hq1051 hK1052) hq1084 hK1085) hq1117 hK1118) hq1150 hK1151) hq1183 hK1184) hq1216 hK1217) hq1249 hK1250) hq1282 hK1283) hq1315 hK1316) hq1348 hK1349) hq1381 hK1382) hq1414 hK1415) hq1447 hK1448) hq1480 hK1481) hq1513 hK1514) hq1546 hK1547) hq1579 hK1580) hq1612 hK1613) hq1645 hK1646) hq1678 hK1679) hq1711 hK1712) hq1744 hK1745) hq1777 hK1778) hq1810 hK1811) hq1843 hK1844) hq1876 hK1877) hq1909 hK1910) hq1944 hK1945) hq1982 hK1983) hq2023 hK2024) hq2065 hK2066) hq2109 hK2110) hq2154 hK2155) hq2199 hK2200) hq2244 hK2245) hq2291 hK2292) hq2339 hK2340) hq2387 hK2388) hq2435 hK2436) hq2483 hK2484) hq2531 hK2532) hq2579 hK2580) hq2627 hK2628) hq2675 hK2676) hq2723 hK2724) hq2771 hK2772) hq2819 hK2820) hq2881 hK2882) hq2929 hK2930) hq2977 hK2978) hq3025 hK3026) hq3073 hK3074) hq3121 hK3122) hq3169 hK3170) hq3217 hK3218) hq3265 hK3266) hq3313 hK3314) hq3361 hK3362) hq3409 hK3410) hq3457 hK3458) hq3505 hK3506) hq3555 hK3556) hq3608 hK3609) hq3662 hK3663) hq3716 hK3717) hq3770 hK3771) hq3824 hK3825) hq3878 hK3879) h3885 hq3932
  clear pf3916 kz3888 hz3917 kz3890 hz3918 kz3892 hz3919 kz3894 hz3920 kz3896 hz3921 kz3898 hz3922 kz3900 hz3923 kz3902 hz3924 kz3904 hz3925 kz3906 hz3926 kz3908 hz3927 kz3910 hz3928 kz3912 hz3929
  refine GO.putRF rfl rfl (by decide +kernel) h3939 fp_raw_fp_RX12_346 rfl rfl dX12_init_923 (fun V3969 e3968 => ?_)
  have pf3970 := PF.put pf3940 e3968 rfl
  have hz3971 : ∀ j, V3969 o188 j = .int 0 := fun j => (uq_ne e3968 (Or.inl (K_ne kz3942 h3939 (by decide)))).trans (hz3941 j)
  have hz3972 : ∀ j, V3969 o205 j = .int 0 := fun j => (uq_ne e3968 (Or.inl (K_ne kz3944 h3939 (by decide)))).trans (hz3943 j)
  have hz3973 : ∀ j, V3969 o225 j = .int 0 := fun j => (uq_ne e3968 (Or.inl (K_ne kz3946 h3939 (by decide)))).trans (hz3945 j)
  have hz3974 : ∀ j, V3969 o248 j = .int 0 := fun j => (uq_ne e3968 (Or.inl (K_ne kz3948 h3939 (by decide)))).trans (hz3947 j)
  have hz3975 : ∀ j, V3969 o274 j = .int 0 := fun j => (uq_ne e3968 (Or.inl (K_ne kz3950 h3939 (by decide)))).trans (hz3949 j)
  have hz3976 : ∀ j, V3969 o423 j = .int 0 := fun j => (uq_ne e3968 (Or.inl (K_ne kz3952 h3939 (by decide)))).trans (hz3951 j)
  have hz3977 : ∀ j, V3969 o1907 j = .int 0 := fun j => (uq_ne e3968 (Or.inl (K_ne kz3954 h3939 (by decide)))).trans (hz3953 j)
  have hz3978 : ∀ j, V3969 o1942 j = .int 0 := fun j => (uq_ne e3968 (Or.inl (K_ne kz3956 h3939 (by decide)))).trans (hz3955 j)
  have hz3979 : ∀ j, V3969 o1980 j = .int 0 := fun j => (uq_ne e3968 (Or.inl (K_ne kz3958 h3939 (by decide)))).trans (hz3957 j)
  have hz3980 : ∀ j, V3969 o2063 j = .int 0 := fun j => (uq_ne e3968 (Or.inl (K_ne kz3960 h3939 (by decide)))).trans (hz3959 j)
  have hz3981 : ∀ j, V3969 o2242 j = .int 0 := fun j => (uq_ne e3968 (Or.inl (K_ne kz3962 h3939 (by decide)))).trans (hz3961 j)
  have hz3982 : ∀ j, V3969 o3503 j = .int 0 := fun j => (uq_ne e3968 (Or.inl (K_ne kz3964 h3939 (by decide)))).trans (hz3963 j)
  have hz3983 : ∀ j, V3969 o3553 j = .int 0 := fun j => (uq_ne e3968 (Or.inl (K_ne kz3966 h3939 (by decide)))).trans (hz3965 j)
  clear pf3940 hz3941 hz3943 hz3945 hz3947 hz3949 hz3951 hz3953 hz3955 hz3957 hz3959 hz3961 hz3963 hz3965
  refine GO.aload_n dX12_init_926 rfl rfl ?_
  refine GO.sipush dX12_init_927 rfl ?_
  refine GO.newT (atype := .int) 118 200 gw_89 rfl rfl (fun _ _ h => h) rfl rfl rfl (Or.inr rfl) (fun _ => okv_df rfl rfl rfl) rfl rfl dX12_init_930 (fun o3984 K3985 V3991 hq3986 hK3987 hE3988 h3989 hz3992 hV3990 => ?_)
  have h3993 := (by rw [hK3987, updK_ne (K_old h3939 hq3986)]; exact h3939 : K3985 x = some (0, 23))
  have pf3994 := PF.nw pf3970 hV3990 (K_old h3939 hq3986)
  have kz3996 := hE3988.arr kz3942
  have hz3995 : ∀ j, V3991 o188 j = .int 0 := fun j => (congrFun (hV3990 _ (K_old kz3942 hq3986)) j).trans (hz3971 j)
  have kz3998 := hE3988.arr kz3944
  have hz3997 : ∀ j, V3991 o205 j = .int 0 := fun j => (congrFun (hV3990 _ (K_old kz3944 hq3986)) j).trans (hz3972 j)
  have kz4000 := hE3988.arr kz3946
  have hz3999 : ∀ j, V3991 o225 j = .int 0 := fun j => (congrFun (hV3990 _ (K_old kz3946 hq3986)) j).trans (hz3973 j)
  have kz4002 := hE3988.arr kz3948
  have hz4001 : ∀ j, V3991 o248 j = .int 0 := fun j => (congrFun (hV3990 _ (K_old kz3948 hq3986)) j).trans (hz3974 j)
  have kz4004 := hE3988.arr kz3950
  have hz4003 : ∀ j, V3991 o274 j = .int 0 := fun j => (congrFun (hV3990 _ (K_old kz3950 hq3986)) j).trans (hz3975 j)
  have kz4006 := hE3988.arr kz3952
  have hz4005 : ∀ j, V3991 o423 j = .int 0 := fun j => (congrFun (hV3990 _ (K_old kz3952 hq3986)) j).trans (hz3976 j)
  have kz4008 := hE3988.arr kz3954
  have hz4007 : ∀ j, V3991 o1907 j = .int 0 := fun j => (congrFun (hV3990 _ (K_old kz3954 hq3986)) j).trans (hz3977 j)
  have kz4010 := hE3988.arr kz3956
  have hz4009 : ∀ j, V3991 o1942 j = .int 0 := fun j => (congrFun (hV3990 _ (K_old kz3956 hq3986)) j).trans (hz3978 j)
  have kz4012 := hE3988.arr kz3958
  have hz4011 : ∀ j, V3991 o1980 j = .int 0 := fun j => (congrFun (hV3990 _ (K_old kz3958 hq3986)) j).trans (hz3979 j)
  have kz4014 := hE3988.arr kz3960
  have hz4013 : ∀ j, V3991 o2063 j = .int 0 := fun j => (congrFun (hV3990 _ (K_old kz3960 hq3986)) j).trans (hz3980 j)
  have kz4016 := hE3988.arr kz3962
  have hz4015 : ∀ j, V3991 o2242 j = .int 0 := fun j => (congrFun (hV3990 _ (K_old kz3962 hq3986)) j).trans (hz3981 j)
  have kz4018 := hE3988.arr kz3964
  have hz4017 : ∀ j, V3991 o3503 j = .int 0 := fun j => (congrFun (hV3990 _ (K_old kz3964 hq3986)) j).trans (hz3982 j)
  have kz4020 := hE3988.arr kz3966
  have hz4019 : ∀ j, V3991 o3553 j = .int 0 := fun j => (congrFun (hV3990 _ (K_old kz3966 hq3986)) j).trans (hz3983 j)
  have h4021 := KE.nw (KE.new (KE.new (KE.new (KE.new (KE.new (KE.new (KE.new (KE.new (KE.new (KE.new (KE.new (KE.new (KE.new (KE.new (KE.new (KE.new (KE.new (KE.new (KE.new (KE.new (KE.new (KE.new (KE.new (KE.new (KE.new (KE.new (KE.new (KE.new (KE.new (KE.new (KE.new (KE.new (KE.new (KE.new (KE.new (KE.new (KE.new (KE.new (KE.new (KE.new (KE.new (KE.new (KE.new (KE.new (KE.new (KE.new (KE.new (KE.new (KE.new (KE.new (KE.new (KE.new (KE.new (KE.new (KE.new (KE.new (KE.new (KE.new (KE.new (KE.new (KE.new (KE.new (KE.new (KE.new (KE.new (KE.new (KE.new (KE.new (KE.new (KE.new (KE.new (KE.new (KE.new (KE.new (KE.new (KE.new (KE.new (KE.new (KE.new (KE.new (KE.new (KE.new (KE.new (KE.new (KE.new (KE.new (KE.new (KE.new (KE.new (KE.new (KE.new (KE.new (KE.new (KE.new (KE.new (KE.new (KE.new (KE.new (KE.new (KE.new (KE.new (KE.new (KE.new (KE.new (KE.new (KE.new (KE.new (KE.new (KE.new KE.rf hq10 hK11) hq25 hK26) hq40 hK41) hq55 hK56) hq70 hK71) hq85 hK86) hq100 hK101) hq115 hK116) hq130 hK131) hq145 hK146) hq160 hK161) hq175 hK176) hq190 hK191) hq207 hK208) hq227 hK228) hq250 hK251) hq276 hK277) hq305 hK306) hq335 hK336) hq365 hK366) hq395 hK396) hq425 hK426) hq457 hK458) hq490 hK491) hq523 hK524) hq556 hK557) hq589 hK590) hq622 hK623) hq655 hK656) hq688 hK689) hq721 hK722) hq754 hK755) hq787 hK788) hq820 hK821) hq853 hK854) hq886 hK887) hq919 hK920) hq952 hK953) hq985 hK986) hq1018 hK1019) hq1051 hK1052) hq1084 hK1085) hq1117 hK1118) hq1150 hK1151) hq1183 hK1184) hq1216 hK1217) hq1249 hK1250) hq1282 hK1283) hq1315 hK1316) hq1348 hK1349) hq1381 hK1382) hq1414 hK1415) hq1447 hK1448) hq1480 hK1481) hq1513 hK1514) hq1546 hK1547) hq1579 hK1580) hq1612 hK1613) hq1645 hK1646) hq1678 hK1679) hq1711 hK1712) hq1744 hK1745) hq1777 hK1778) hq1810 hK1811) hq1843 hK1844) hq1876 hK1877) hq1909 hK1910) hq1944 hK1945) hq1982 hK1983) hq2023 hK2024) hq2065 hK2066) hq2109 hK2110) hq2154 hK2155) hq2199 hK2200) hq2244 hK2245) hq2291 hK2292) hq2339 hK2340) hq2387 hK2388) hq2435 hK2436) hq2483 hK2484) hq2531 hK2532) hq2579 hK2580) hq2627 hK2628) hq2675 hK2676) hq2723 hK2724) hq2771 hK2772) hq2819 hK2820) hq2881 hK2882) hq2929 hK2930) hq2977 hK2978) hq3025 hK3026) hq3073 hK3074) hq3121 hK3122) hq3169 hK3170) hq3217 hK3218) hq3265 hK3266) hq3313 hK3314) hq3361 hK3362) hq3409 hK3410) hq3457 hK3458) hq3505 hK3506) hq3555 hK3556) hq3608 hK3609) hq3662 hK3663) hq3716 hK3717) hq3770 hK3771) hq3824 hK3825) hq3878 hK3879) hq3932 hK3933) h3939 hq3986
  clear pf3970 kz3942 hz3971 kz3944 hz3972 kz3946 hz3973 kz3948 hz3974 kz3950 hz3975 kz3952 hz3976 kz3954 hz3977 kz3956 hz3978 kz3958 hz3979 kz3960 hz3980 kz3962 hz3981 kz3964 hz3982 kz3966 hz3983
  refine GO.putRF rfl rfl (by decide +kernel) h3993 fp_raw_fp_RX12_349 rfl rfl dX12_init_932 (fun V4023 e4022 => ?_)
  have pf4024 := PF.put pf3994 e4022 rfl
  have hz4025 : ∀ j, V4023 o188 j = .int 0 := fun j => (uq_ne e4022 (Or.inl (K_ne kz3996 h3993 (by decide)))).trans (hz3995 j)
  have hz4026 : ∀ j, V4023 o205 j = .int 0 := fun j => (uq_ne e4022 (Or.inl (K_ne kz3998 h3993 (by decide)))).trans (hz3997 j)
  have hz4027 : ∀ j, V4023 o225 j = .int 0 := fun j => (uq_ne e4022 (Or.inl (K_ne kz4000 h3993 (by decide)))).trans (hz3999 j)
  have hz4028 : ∀ j, V4023 o248 j = .int 0 := fun j => (uq_ne e4022 (Or.inl (K_ne kz4002 h3993 (by decide)))).trans (hz4001 j)
  have hz4029 : ∀ j, V4023 o274 j = .int 0 := fun j => (uq_ne e4022 (Or.inl (K_ne kz4004 h3993 (by decide)))).trans (hz4003 j)
  have hz4030 : ∀ j, V4023 o423 j = .int 0 := fun j => (uq_ne e4022 (Or.inl (K_ne kz4006 h3993 (by decide)))).trans (hz4005 j)
  have hz4031 : ∀ j, V4023 o1907 j = .int 0 := fun j => (uq_ne e4022 (Or.inl (K_ne kz4008 h3993 (by decide)))).trans (hz4007 j)
  have hz4032 : ∀ j, V4023 o1942 j = .int 0 := fun j => (uq_ne e4022 (Or.inl (K_ne kz4010 h3993 (by decide)))).trans (hz4009 j)
  have hz4033 : ∀ j, V4023 o1980 j = .int 0 := fun j => (uq_ne e4022 (Or.inl (K_ne kz4012 h3993 (by decide)))).trans (hz4011 j)
  have hz4034 : ∀ j, V4023 o2063 j = .int 0 := fun j => (uq_ne e4022 (Or.inl (K_ne kz4014 h3993 (by decide)))).trans (hz4013 j)
  have hz4035 : ∀ j, V4023 o2242 j = .int 0 := fun j => (uq_ne e4022 (Or.inl (K_ne kz4016 h3993 (by decide)))).trans (hz4015 j)
  have hz4036 : ∀ j, V4023 o3503 j = .int 0 := fun j => (uq_ne e4022 (Or.inl (K_ne kz4018 h3993 (by decide)))).trans (hz4017 j)
  have hz4037 : ∀ j, V4023 o3553 j = .int 0 := fun j => (uq_ne e4022 (Or.inl (K_ne kz4020 h3993 (by decide)))).trans (hz4019 j)
  clear pf3994 hz3995 hz3997 hz3999 hz4001 hz4003 hz4005 hz4007 hz4009 hz4011 hz4013 hz4015 hz4017 hz4019
  refine GO.aload_n dX12_init_935 rfl rfl ?_
  refine GO.sipush dX12_init_936 rfl ?_
  refine GO.newT (atype := .int) 119 200 gw_89 rfl rfl (fun _ _ h => h) rfl rfl rfl (Or.inr rfl) (fun _ => okv_df rfl rfl rfl) rfl rfl dX12_init_939 (fun o4038 K4039 V4045 hq4040 hK4041 hE4042 h4043 hz4046 hV4044 => ?_)
  have h4047 := (by rw [hK4041, updK_ne (K_old h3993 hq4040)]; exact h3993 : K4039 x = some (0, 23))
  have pf4048 := PF.nw pf4024 hV4044 (K_old h3993 hq4040)
  have kz4050 := hE4042.arr kz3996
  have hz4049 : ∀ j, V4045 o188 j = .int 0 := fun j => (congrFun (hV4044 _ (K_old kz3996 hq4040)) j).trans (hz4025 j)
  have kz4052 := hE4042.arr kz3998
  have hz4051 : ∀ j, V4045 o205 j = .int 0 := fun j => (congrFun (hV4044 _ (K_old kz3998 hq4040)) j).trans (hz4026 j)
  have kz4054 := hE4042.arr kz4000
  have hz4053 : ∀ j, V4045 o225 j = .int 0 := fun j => (congrFun (hV4044 _ (K_old kz4000 hq4040)) j).trans (hz4027 j)
  have kz4056 := hE4042.arr kz4002
  have hz4055 : ∀ j, V4045 o248 j = .int 0 := fun j => (congrFun (hV4044 _ (K_old kz4002 hq4040)) j).trans (hz4028 j)
  have kz4058 := hE4042.arr kz4004
  have hz4057 : ∀ j, V4045 o274 j = .int 0 := fun j => (congrFun (hV4044 _ (K_old kz4004 hq4040)) j).trans (hz4029 j)
  have kz4060 := hE4042.arr kz4006
  have hz4059 : ∀ j, V4045 o423 j = .int 0 := fun j => (congrFun (hV4044 _ (K_old kz4006 hq4040)) j).trans (hz4030 j)
  have kz4062 := hE4042.arr kz4008
  have hz4061 : ∀ j, V4045 o1907 j = .int 0 := fun j => (congrFun (hV4044 _ (K_old kz4008 hq4040)) j).trans (hz4031 j)
  have kz4064 := hE4042.arr kz4010
  have hz4063 : ∀ j, V4045 o1942 j = .int 0 := fun j => (congrFun (hV4044 _ (K_old kz4010 hq4040)) j).trans (hz4032 j)
  have kz4066 := hE4042.arr kz4012
  have hz4065 : ∀ j, V4045 o1980 j = .int 0 := fun j => (congrFun (hV4044 _ (K_old kz4012 hq4040)) j).trans (hz4033 j)
  have kz4068 := hE4042.arr kz4014
  have hz4067 : ∀ j, V4045 o2063 j = .int 0 := fun j => (congrFun (hV4044 _ (K_old kz4014 hq4040)) j).trans (hz4034 j)
  have kz4070 := hE4042.arr kz4016
  have hz4069 : ∀ j, V4045 o2242 j = .int 0 := fun j => (congrFun (hV4044 _ (K_old kz4016 hq4040)) j).trans (hz4035 j)
  have kz4072 := hE4042.arr kz4018
  have hz4071 : ∀ j, V4045 o3503 j = .int 0 := fun j => (congrFun (hV4044 _ (K_old kz4018 hq4040)) j).trans (hz4036 j)
  have kz4074 := hE4042.arr kz4020
  have hz4073 : ∀ j, V4045 o3553 j = .int 0 := fun j => (congrFun (hV4044 _ (K_old kz4020 hq4040)) j).trans (hz4037 j)
  have h4075 := KE.nw (KE.new (KE.new (KE.new (KE.new (KE.new (KE.new (KE.new (KE.new (KE.new (KE.new (KE.new (KE.new (KE.new (KE.new (KE.new (KE.new (KE.new (KE.new (KE.new (KE.new (KE.new (KE.new (KE.new (KE.new (KE.new (KE.new (KE.new (KE.new (KE.new (KE.new (KE.new (KE.new (KE.new (KE.new (KE.new (KE.new (KE.new (KE.new (KE.new (KE.new (KE.new (KE.new (KE.new (KE.new (KE.new (KE.new (KE.new (KE.new (KE.new (KE.new (KE.new (KE.new (KE.new (KE.new (KE.new (KE.new (KE.new (KE.new (KE.new (KE.new (KE.new (KE.new (KE.new (KE.new (KE.new (KE.new (KE.new (KE.new (KE.new (KE.new (KE.new (KE.new (KE.new (KE.new (KE.new (KE.new (KE.new (KE.new (KE.new (KE.new (KE.new (KE.new (KE.new (KE.new (KE.new (KE.new (KE.new (KE.new (KE.new (KE.new (KE.new (KE.new (KE.new (KE.new (KE.new (KE.new (KE.new (KE.new (KE.new (KE.new (KE.new (KE.new (KE.new (KE.new (KE.new (KE.new (KE.new (KE.new (KE.new (KE.new KE.rf hq10 hK11) hq25 hK26) hq40 hK41) hq55 hK56) hq70 hK71) hq85 hK86) hq100 hK101) hq115 hK116) hq130 hK131) hq145 hK146) hq160 hK161) hq175 hK176) hq190 hK191) hq207 hK208) hq227 hK228) hq250 hK251) hq276 hK277) hq305 hK306) hq335 hK336) hq365 hK366) hq395 hK396) hq425 hK426) hq457 hK458) hq490 hK491) hq523 hK524) hq556 hK557) hq589 hK590) hq622 hK623) hq655 hK656) hq688 hK689) hq721 hK722) hq754 hK755) hq787 hK788) hq820 hK821) hq853 hK854) hq886 hK887) hq919 hK920) hq952 hK953) hq985 hK986) hq1018 hK1019) hq1051 hK1052) hq1084 hK1085) hq1117 hK1118) hq1150 hK1151) hq1183 hK1184) hq1216 hK1217) hq1249 hK1250) hq1282 hK1283) hq1315 hK1316) hq1348 hK1349) hq1381 hK1382) hq1414 hK1415) hq1447 hK1448) hq1480 hK1481) hq1513 hK1514) hq1546 hK1547) hq1579 hK1580) hq1612 hK1613) hq1645 hK1646) hq1678 hK1679) hq1711 hK1712) hq1744 hK1745) hq1777 hK1778) hq1810 hK1811) hq1843 hK1844) hq1876 hK1877) hq1909 hK1910) hq1944 hK1945) hq1982 hK1983) hq2023 hK2024) hq2065 hK2066) hq2109 hK2110) hq2154 hK2155) hq2199 hK2200) hq2244 hK2245) hq2291 hK2292) hq2339 hK2340) hq2387 hK2388) hq2435 hK2436) hq2483 hK2484) hq2531 hK2532) hq2579 hK2580) hq2627 hK2628) hq2675 hK2676) hq2723 hK2724) hq2771 hK2772) hq2819 hK2820) hq2881 hK2882) hq2929 hK2930) hq2977 hK2978) hq3025 hK3026) hq3073 hK3074) hq3121 hK3122) hq3169 hK3170) hq3217 hK3218) hq3265 hK3266) hq3313 hK3314) hq3361 hK3362) hq3409 hK3410) hq3457 hK3458) hq3505 hK3506) hq3555 hK3556) hq3608 hK3609) hq3662 hK3663) hq3716 hK3717) hq3770 hK3771) hq3824 hK3825) hq3878 hK3879) hq3932 hK3933) hq3986 hK3987) h3993 hq4040
  clear pf4024 kz3996 hz4025 kz3998 hz4026 kz4000 hz4027 kz4002 hz4028 kz4004 hz4029 kz4006 hz4030 kz4008 hz4031 kz4010 hz4032 kz4012 hz4033 kz4014 hz4034 kz4016 hz4035 kz4018 hz4036 kz4020 hz4037
  refine GO.putRF rfl rfl (by decide +kernel) h4047 fp_raw_fp_RX12_352 rfl rfl dX12_init_941 (fun V4077 e4076 => ?_)
  have pf4078 := PF.put pf4048 e4076 rfl
  have hz4079 : ∀ j, V4077 o188 j = .int 0 := fun j => (uq_ne e4076 (Or.inl (K_ne kz4050 h4047 (by decide)))).trans (hz4049 j)
  have hz4080 : ∀ j, V4077 o205 j = .int 0 := fun j => (uq_ne e4076 (Or.inl (K_ne kz4052 h4047 (by decide)))).trans (hz4051 j)
  have hz4081 : ∀ j, V4077 o225 j = .int 0 := fun j => (uq_ne e4076 (Or.inl (K_ne kz4054 h4047 (by decide)))).trans (hz4053 j)
  have hz4082 : ∀ j, V4077 o248 j = .int 0 := fun j => (uq_ne e4076 (Or.inl (K_ne kz4056 h4047 (by decide)))).trans (hz4055 j)
  have hz4083 : ∀ j, V4077 o274 j = .int 0 := fun j => (uq_ne e4076 (Or.inl (K_ne kz4058 h4047 (by decide)))).trans (hz4057 j)
  have hz4084 : ∀ j, V4077 o423 j = .int 0 := fun j => (uq_ne e4076 (Or.inl (K_ne kz4060 h4047 (by decide)))).trans (hz4059 j)
  have hz4085 : ∀ j, V4077 o1907 j = .int 0 := fun j => (uq_ne e4076 (Or.inl (K_ne kz4062 h4047 (by decide)))).trans (hz4061 j)
  have hz4086 : ∀ j, V4077 o1942 j = .int 0 := fun j => (uq_ne e4076 (Or.inl (K_ne kz4064 h4047 (by decide)))).trans (hz4063 j)
  have hz4087 : ∀ j, V4077 o1980 j = .int 0 := fun j => (uq_ne e4076 (Or.inl (K_ne kz4066 h4047 (by decide)))).trans (hz4065 j)
  have hz4088 : ∀ j, V4077 o2063 j = .int 0 := fun j => (uq_ne e4076 (Or.inl (K_ne kz4068 h4047 (by decide)))).trans (hz4067 j)
  have hz4089 : ∀ j, V4077 o2242 j = .int 0 := fun j => (uq_ne e4076 (Or.inl (K_ne kz4070 h4047 (by decide)))).trans (hz4069 j)
  have hz4090 : ∀ j, V4077 o3503 j = .int 0 := fun j => (uq_ne e4076 (Or.inl (K_ne kz4072 h4047 (by decide)))).trans (hz4071 j)
  have hz4091 : ∀ j, V4077 o3553 j = .int 0 := fun j => (uq_ne e4076 (Or.inl (K_ne kz4074 h4047 (by decide)))).trans (hz4073 j)
  clear pf4048 hz4049 hz4051 hz4053 hz4055 hz4057 hz4059 hz4061 hz4063 hz4065 hz4067 hz4069 hz4071 hz4073
  refine GO.aload_n dX12_init_944 rfl rfl ?_
  refine GO.sipush dX12_init_945 rfl ?_
  refine GO.newT (atype := .int) 120 200 gw_89 rfl rfl (fun _ _ h => h) rfl rfl rfl (Or.inr rfl) (fun _ => okv_df rfl rfl rfl) rfl rfl dX12_init_948 (fun o4092 K4093 V4099 hq4094 hK4095 hE4096 h4097 hz4100 hV4098 => ?_)
  have h4101 := (by rw [hK4095, updK_ne (K_old h4047 hq4094)]; exact h4047 : K4093 x = some (0, 23))
  have pf4102 := PF.nw pf4078 hV4098 (K_old h4047 hq4094)
  have kz4104 := hE4096.arr kz4050
  have hz4103 : ∀ j, V4099 o188 j = .int 0 := fun j => (congrFun (hV4098 _ (K_old kz4050 hq4094)) j).trans (hz4079 j)
  have kz4106 := hE4096.arr kz4052
  have hz4105 : ∀ j, V4099 o205 j = .int 0 := fun j => (congrFun (hV4098 _ (K_old kz4052 hq4094)) j).trans (hz4080 j)
  have kz4108 := hE4096.arr kz4054
  have hz4107 : ∀ j, V4099 o225 j = .int 0 := fun j => (congrFun (hV4098 _ (K_old kz4054 hq4094)) j).trans (hz4081 j)
  have kz4110 := hE4096.arr kz4056
  have hz4109 : ∀ j, V4099 o248 j = .int 0 := fun j => (congrFun (hV4098 _ (K_old kz4056 hq4094)) j).trans (hz4082 j)
  have kz4112 := hE4096.arr kz4058
  have hz4111 : ∀ j, V4099 o274 j = .int 0 := fun j => (congrFun (hV4098 _ (K_old kz4058 hq4094)) j).trans (hz4083 j)
  have kz4114 := hE4096.arr kz4060
  have hz4113 : ∀ j, V4099 o423 j = .int 0 := fun j => (congrFun (hV4098 _ (K_old kz4060 hq4094)) j).trans (hz4084 j)
  have kz4116 := hE4096.arr kz4062
  have hz4115 : ∀ j, V4099 o1907 j = .int 0 := fun j => (congrFun (hV4098 _ (K_old kz4062 hq4094)) j).trans (hz4085 j)
  have kz4118 := hE4096.arr kz4064
  have hz4117 : ∀ j, V4099 o1942 j = .int 0 := fun j => (congrFun (hV4098 _ (K_old kz4064 hq4094)) j).trans (hz4086 j)
  have kz4120 := hE4096.arr kz4066
  have hz4119 : ∀ j, V4099 o1980 j = .int 0 := fun j => (congrFun (hV4098 _ (K_old kz4066 hq4094)) j).trans (hz4087 j)
  have kz4122 := hE4096.arr kz4068
  have hz4121 : ∀ j, V4099 o2063 j = .int 0 := fun j => (congrFun (hV4098 _ (K_old kz4068 hq4094)) j).trans (hz4088 j)
  have kz4124 := hE4096.arr kz4070
  have hz4123 : ∀ j, V4099 o2242 j = .int 0 := fun j => (congrFun (hV4098 _ (K_old kz4070 hq4094)) j).trans (hz4089 j)
  have kz4126 := hE4096.arr kz4072
  have hz4125 : ∀ j, V4099 o3503 j = .int 0 := fun j => (congrFun (hV4098 _ (K_old kz4072 hq4094)) j).trans (hz4090 j)
  have kz4128 := hE4096.arr kz4074
  have hz4127 : ∀ j, V4099 o3553 j = .int 0 := fun j => (congrFun (hV4098 _ (K_old kz4074 hq4094)) j).trans (hz4091 j)
  have h4129 := KE.nw (KE.new (KE.new (KE.new (KE.new (KE.new (KE.new (KE.new (KE.new (KE.new (KE.new (KE.new (KE.new (KE.new (KE.new (KE.new (KE.new (KE.new (KE.new (KE.new (KE.new (KE.new (KE.new (KE.new (KE.new (KE.new (KE.new (KE.new (KE.new (KE.new (KE.new (KE.new (KE.new (KE.new (KE.new (KE.new (KE.new (KE.new (KE.new (KE.new (KE.new (KE.new (KE.new (KE.new (KE.new (KE.new (KE.new (KE.new (KE.new (KE.new (KE.new (KE.new (KE.new (KE.new (KE.new (KE.new (KE.new (KE.new (KE.new (KE.new (KE.new (KE.new (KE.new (KE.new (KE.new (KE.new (KE.new (KE.new (KE.new (KE.new (KE.new (KE.new (KE.new (KE.new (KE.new (KE.new (KE.new (KE.new (KE.new (KE.new (KE.new (KE.new (KE.new (KE.new (KE.new (KE.new (KE.new (KE.new (KE.new (KE.new (KE.new (KE.new (KE.new (KE.new (KE.new (KE.new (KE.new (KE.new (KE.new (KE.new (KE.new (KE.new (KE.new (KE.new (KE.new (KE.new (KE.new (KE.new (KE.new (KE.new (KE.new (KE.new KE.rf hq10 hK11) hq25 hK26) hq40 hK41) hq55 hK56) hq70 hK71) hq85 hK86) hq100 hK101) hq115 hK116) hq130 hK131) hq145 hK146) hq160 hK161) hq175 hK176) hq190 hK191) hq207 hK208) hq227 hK228) hq250 hK251) hq276 hK277) hq305 hK306) hq335 hK336) hq365 hK366) hq395 hK396) hq425 hK426) hq457 hK458) hq490 hK491) hq523 hK524) hq556 hK557) hq589 hK590) hq622 hK623) hq655 hK656) hq688 hK689) hq721 hK722) hq754 hK755) hq787 hK788) hq820 hK821) hq853 hK854) hq886 hK887) hq919 hK920) hq952 hK953) hq985 hK986) hq1018 hK1019) hq1051 hK1052) hq1084 hK1085) hq1117 hK1118) hq1150 hK1151) hq1183 hK1184) hq1216 hK1217) hq1249 hK1250) hq1282 hK1283) hq1315 hK1316) hq1348 hK1349) hq1381 hK1382) hq1414 hK1415) hq1447 hK1448) hq1480 hK1481) hq1513 hK1514) hq1546 hK1547) hq1579 hK1580) hq1612 hK1613) hq1645 hK1646) hq1678 hK1679) hq1711 hK1712) hq1744 hK1745) hq1777 hK1778) hq1810 hK1811) hq1843 hK1844) hq1876 hK1877) hq1909 hK1910) hq1944 hK1945) hq1982 hK1983) hq2023 hK2024) hq2065 hK2066) hq2109 hK2110) hq2154 hK2155) hq2199 hK2200) hq2244 hK2245) hq2291 hK2292) hq2339 hK2340) hq2387 hK2388) hq2435 hK2436) hq2483 hK2484) hq2531 hK2532) hq2579 hK2580) hq2627 hK2628) hq2675 hK2676) hq2723 hK2724) hq2771 hK2772) hq2819 hK2820) hq2881 hK2882) hq2929 hK2930) hq2977 hK2978) hq3025 hK3026) hq3073 hK3074) hq3121 hK3122) hq3169 hK3170) hq3217 hK3218) hq3265 hK3266) hq3313 hK3314) hq3361 hK3362) hq3409 hK3410) hq3457 hK3458) hq3505 hK3506) hq3555 hK3556) hq3608 hK3609) hq3662 hK3663) hq3716 hK3717) hq3770 hK3771) hq3824 hK3825) hq3878 hK3879) hq3932 hK3933) hq3986 hK3987) hq4040 hK4041) h4047 hq4094
  clear pf4078 kz4050 hz4079 kz4052 hz4080 kz4054 hz4081 kz4056 hz4082 kz4058 hz4083 kz4060 hz4084 kz4062 hz4085 kz4064 hz4086 kz4066 hz4087 kz4068 hz4088 kz4070 hz4089 kz4072 hz4090 kz4074 hz4091
  refine GO.putRF rfl rfl (by decide +kernel) h4101 fp_raw_fp_RX12_355 rfl rfl dX12_init_950 (fun V4131 e4130 => ?_)
  have pf4132 := PF.put pf4102 e4130 rfl
  have hz4133 : ∀ j, V4131 o188 j = .int 0 := fun j => (uq_ne e4130 (Or.inl (K_ne kz4104 h4101 (by decide)))).trans (hz4103 j)
  have hz4134 : ∀ j, V4131 o205 j = .int 0 := fun j => (uq_ne e4130 (Or.inl (K_ne kz4106 h4101 (by decide)))).trans (hz4105 j)
  have hz4135 : ∀ j, V4131 o225 j = .int 0 := fun j => (uq_ne e4130 (Or.inl (K_ne kz4108 h4101 (by decide)))).trans (hz4107 j)
  have hz4136 : ∀ j, V4131 o248 j = .int 0 := fun j => (uq_ne e4130 (Or.inl (K_ne kz4110 h4101 (by decide)))).trans (hz4109 j)
  have hz4137 : ∀ j, V4131 o274 j = .int 0 := fun j => (uq_ne e4130 (Or.inl (K_ne kz4112 h4101 (by decide)))).trans (hz4111 j)
  have hz4138 : ∀ j, V4131 o423 j = .int 0 := fun j => (uq_ne e4130 (Or.inl (K_ne kz4114 h4101 (by decide)))).trans (hz4113 j)
  have hz4139 : ∀ j, V4131 o1907 j = .int 0 := fun j => (uq_ne e4130 (Or.inl (K_ne kz4116 h4101 (by decide)))).trans (hz4115 j)
  have hz4140 : ∀ j, V4131 o1942 j = .int 0 := fun j => (uq_ne e4130 (Or.inl (K_ne kz4118 h4101 (by decide)))).trans (hz4117 j)
  have hz4141 : ∀ j, V4131 o1980 j = .int 0 := fun j => (uq_ne e4130 (Or.inl (K_ne kz4120 h4101 (by decide)))).trans (hz4119 j)
  have hz4142 : ∀ j, V4131 o2063 j = .int 0 := fun j => (uq_ne e4130 (Or.inl (K_ne kz4122 h4101 (by decide)))).trans (hz4121 j)
  have hz4143 : ∀ j, V4131 o2242 j = .int 0 := fun j => (uq_ne e4130 (Or.inl (K_ne kz4124 h4101 (by decide)))).trans (hz4123 j)
  have hz4144 : ∀ j, V4131 o3503 j = .int 0 := fun j => (uq_ne e4130 (Or.inl (K_ne kz4126 h4101 (by decide)))).trans (hz4125 j)
  have hz4145 : ∀ j, V4131 o3553 j = .int 0 := fun j => (uq_ne e4130 (Or.inl (K_ne kz4128 h4101 (by decide)))).trans (hz4127 j)
  clear pf4102 hz4103 hz4105 hz4107 hz4109 hz4111 hz4113 hz4115 hz4117 hz4119 hz4121 hz4123 hz4125 hz4127
  refine GO.aload_n dX12_init_953 rfl rfl ?_
  refine GO.sipush dX12_init_954 rfl ?_
  refine GO.newT (atype := .boolean) 121 200 gw_1936 rfl rfl (fun _ _ h => h) rfl rfl rfl (Or.inr rfl) (fun _ => okv_df rfl rfl rfl) rfl rfl dX12_init_957 (fun o4146 K4147 V4153 hq4148 hK4149 hE4150 h4151 hz4154 hV4152 => ?_)
  have h4155 := (by rw [hK4149, updK_ne (K_old h4101 hq4148)]; exact h4101 : K4147 x = some (0, 23))
  have pf4156 := PF.nw pf4132 hV4152 (K_old h4101 hq4148)
  have kz4158 := hE4150.arr kz4104
  have hz4157 : ∀ j, V4153 o188 j = .int 0 := fun j => (congrFun (hV4152 _ (K_old kz4104 hq4148)) j).trans (hz4133 j)
  have kz4160 := hE4150.arr kz4106
  have hz4159 : ∀ j, V4153 o205 j = .int 0 := fun j => (congrFun (hV4152 _ (K_old kz4106 hq4148)) j).trans (hz4134 j)
  have kz4162 := hE4150.arr kz4108
  have hz4161 : ∀ j, V4153 o225 j = .int 0 := fun j => (congrFun (hV4152 _ (K_old kz4108 hq4148)) j).trans (hz4135 j)
  have kz4164 := hE4150.arr kz4110
  have hz4163 : ∀ j, V4153 o248 j = .int 0 := fun j => (congrFun (hV4152 _ (K_old kz4110 hq4148)) j).trans (hz4136 j)
  have kz4166 := hE4150.arr kz4112
  have hz4165 : ∀ j, V4153 o274 j = .int 0 := fun j => (congrFun (hV4152 _ (K_old kz4112 hq4148)) j).trans (hz4137 j)
  have kz4168 := hE4150.arr kz4114
  have hz4167 : ∀ j, V4153 o423 j = .int 0 := fun j => (congrFun (hV4152 _ (K_old kz4114 hq4148)) j).trans (hz4138 j)
  have kz4170 := hE4150.arr kz4116
  have hz4169 : ∀ j, V4153 o1907 j = .int 0 := fun j => (congrFun (hV4152 _ (K_old kz4116 hq4148)) j).trans (hz4139 j)
  have kz4172 := hE4150.arr kz4118
  have hz4171 : ∀ j, V4153 o1942 j = .int 0 := fun j => (congrFun (hV4152 _ (K_old kz4118 hq4148)) j).trans (hz4140 j)
  have kz4174 := hE4150.arr kz4120
  have hz4173 : ∀ j, V4153 o1980 j = .int 0 := fun j => (congrFun (hV4152 _ (K_old kz4120 hq4148)) j).trans (hz4141 j)
  have kz4176 := hE4150.arr kz4122
  have hz4175 : ∀ j, V4153 o2063 j = .int 0 := fun j => (congrFun (hV4152 _ (K_old kz4122 hq4148)) j).trans (hz4142 j)
  have kz4178 := hE4150.arr kz4124
  have hz4177 : ∀ j, V4153 o2242 j = .int 0 := fun j => (congrFun (hV4152 _ (K_old kz4124 hq4148)) j).trans (hz4143 j)
  have kz4180 := hE4150.arr kz4126
  have hz4179 : ∀ j, V4153 o3503 j = .int 0 := fun j => (congrFun (hV4152 _ (K_old kz4126 hq4148)) j).trans (hz4144 j)
  have kz4182 := hE4150.arr kz4128
  have hz4181 : ∀ j, V4153 o3553 j = .int 0 := fun j => (congrFun (hV4152 _ (K_old kz4128 hq4148)) j).trans (hz4145 j)
  have h4183 := KE.nw (KE.new (KE.new (KE.new (KE.new (KE.new (KE.new (KE.new (KE.new (KE.new (KE.new (KE.new (KE.new (KE.new (KE.new (KE.new (KE.new (KE.new (KE.new (KE.new (KE.new (KE.new (KE.new (KE.new (KE.new (KE.new (KE.new (KE.new (KE.new (KE.new (KE.new (KE.new (KE.new (KE.new (KE.new (KE.new (KE.new (KE.new (KE.new (KE.new (KE.new (KE.new (KE.new (KE.new (KE.new (KE.new (KE.new (KE.new (KE.new (KE.new (KE.new (KE.new (KE.new (KE.new (KE.new (KE.new (KE.new (KE.new (KE.new (KE.new (KE.new (KE.new (KE.new (KE.new (KE.new (KE.new (KE.new (KE.new (KE.new (KE.new (KE.new (KE.new (KE.new (KE.new (KE.new (KE.new (KE.new (KE.new (KE.new (KE.new (KE.new (KE.new (KE.new (KE.new (KE.new (KE.new (KE.new (KE.new (KE.new (KE.new (KE.new (KE.new (KE.new (KE.new (KE.new (KE.new (KE.new (KE.new (KE.new (KE.new (KE.new (KE.new (KE.new (KE.new (KE.new (KE.new (KE.new (KE.new (KE.new (KE.new (KE.new (KE.new (KE.new KE.rf hq10 hK11) hq25 hK26) hq40 hK41) hq55 hK56) hq70 hK71) hq85 hK86) hq100 hK101) hq115 hK116) hq130 hK131) hq145 hK146) hq160 hK161) hq175 hK176) hq190 hK191) hq207 hK208) hq227 hK228) hq250 hK251) hq276 hK277) hq305 hK306) hq335 hK336) hq365 hK366) hq395 hK396) hq425 hK426) hq457 hK458) hq490 hK491) hq523 hK524) hq556 hK557) hq589 hK590) hq622 hK623) hq655 hK656) hq688 hK689) hq721 hK722) hq754 hK755) hq787 hK788) hq820 hK821) hq853 hK854) hq886 hK887) hq919 hK920) hq952 hK953) hq985 hK986) hq1018 hK1019) hq1051 hK1052) hq1084 hK1085) hq1117 hK1118) hq1150 hK1151) hq1183 hK1184) hq1216 hK1217) hq1249 hK1250) hq1282 hK1283) hq1315 hK1316) hq1348 hK1349) hq1381 hK1382) hq1414 hK1415) hq1447 hK1448) hq1480 hK1481) hq1513 hK1514) hq1546 hK1547) hq1579 hK1580) hq1612 hK1613) hq1645 hK1646) hq1678 hK1679) hq1711 hK1712) hq1744 hK1745) hq1777 hK1778) hq1810 hK1811) hq1843 hK1844) hq1876 hK1877) hq1909 hK1910) hq1944 hK1945) hq1982 hK1983) hq2023 hK2024) hq2065 hK2066) hq2109 hK2110) hq2154 hK2155) hq2199 hK2200) hq2244 hK2245) hq2291 hK2292) hq2339 hK2340) hq2387 hK2388) hq2435 hK2436) hq2483 hK2484) hq2531 hK2532) hq2579 hK2580) hq2627 hK2628) hq2675 hK2676) hq2723 hK2724) hq2771 hK2772) hq2819 hK2820) hq2881 hK2882) hq2929 hK2930) hq2977 hK2978) hq3025 hK3026) hq3073 hK3074) hq3121 hK3122) hq3169 hK3170) hq3217 hK3218) hq3265 hK3266) hq3313 hK3314) hq3361 hK3362) hq3409 hK3410) hq3457 hK3458) hq3505 hK3506) hq3555 hK3556) hq3608 hK3609) hq3662 hK3663) hq3716 hK3717) hq3770 hK3771) hq3824 hK3825) hq3878 hK3879) hq3932 hK3933) hq3986 hK3987) hq4040 hK4041) hq4094 hK4095) h4101 hq4148
  clear pf4132 kz4104 hz4133 kz4106 hz4134 kz4108 hz4135 kz4110 hz4136 kz4112 hz4137 kz4114 hz4138 kz4116 hz4139 kz4118 hz4140 kz4120 hz4141 kz4122 hz4142 kz4124 hz4143 kz4126 hz4144 kz4128 hz4145
  refine GO.putRF rfl rfl (by decide +kernel) h4155 fp_raw_fp_RX12_358 rfl rfl dX12_init_959 (fun V4185 e4184 => ?_)
  have pf4186 := PF.put pf4156 e4184 rfl
  have hz4187 : ∀ j, V4185 o188 j = .int 0 := fun j => (uq_ne e4184 (Or.inl (K_ne kz4158 h4155 (by decide)))).trans (hz4157 j)
  have hz4188 : ∀ j, V4185 o205 j = .int 0 := fun j => (uq_ne e4184 (Or.inl (K_ne kz4160 h4155 (by decide)))).trans (hz4159 j)
  have hz4189 : ∀ j, V4185 o225 j = .int 0 := fun j => (uq_ne e4184 (Or.inl (K_ne kz4162 h4155 (by decide)))).trans (hz4161 j)
  have hz4190 : ∀ j, V4185 o248 j = .int 0 := fun j => (uq_ne e4184 (Or.inl (K_ne kz4164 h4155 (by decide)))).trans (hz4163 j)
  have hz4191 : ∀ j, V4185 o274 j = .int 0 := fun j => (uq_ne e4184 (Or.inl (K_ne kz4166 h4155 (by decide)))).trans (hz4165 j)
  have hz4192 : ∀ j, V4185 o423 j = .int 0 := fun j => (uq_ne e4184 (Or.inl (K_ne kz4168 h4155 (by decide)))).trans (hz4167 j)
  have hz4193 : ∀ j, V4185 o1907 j = .int 0 := fun j => (uq_ne e4184 (Or.inl (K_ne kz4170 h4155 (by decide)))).trans (hz4169 j)
  have hz4194 : ∀ j, V4185 o1942 j = .int 0 := fun j => (uq_ne e4184 (Or.inl (K_ne kz4172 h4155 (by decide)))).trans (hz4171 j)
  have hz4195 : ∀ j, V4185 o1980 j = .int 0 := fun j => (uq_ne e4184 (Or.inl (K_ne kz4174 h4155 (by decide)))).trans (hz4173 j)
  have hz4196 : ∀ j, V4185 o2063 j = .int 0 := fun j => (uq_ne e4184 (Or.inl (K_ne kz4176 h4155 (by decide)))).trans (hz4175 j)
  have hz4197 : ∀ j, V4185 o2242 j = .int 0 := fun j => (uq_ne e4184 (Or.inl (K_ne kz4178 h4155 (by decide)))).trans (hz4177 j)
  have hz4198 : ∀ j, V4185 o3503 j = .int 0 := fun j => (uq_ne e4184 (Or.inl (K_ne kz4180 h4155 (by decide)))).trans (hz4179 j)
  have hz4199 : ∀ j, V4185 o3553 j = .int 0 := fun j => (uq_ne e4184 (Or.inl (K_ne kz4182 h4155 (by decide)))).trans (hz4181 j)
  clear pf4156 hz4157 hz4159 hz4161 hz4163 hz4165 hz4167 hz4169 hz4171 hz4173 hz4175 hz4177 hz4179 hz4181
  refine GO.aload_n dX12_init_962 rfl rfl ?_
  refine GO.bipush dX12_init_963 rfl ?_
  refine GO.bipush dX12_init_965 rfl ?_
  have E4200 := ext.tr hE4096 hE4150
  have E4201 := ext.tr hE4042 E4200
  have E4202 := ext.tr hE3988 E4201
  have E4203 := ext.tr hE3934 E4202
  have E4204 := ext.tr hE3880 E4203
  have E4205 := ext.tr hE3826 E4204
  have E4206 := ext.tr hE3772 E4205
  have E4207 := ext.tr hE3718 E4206
  have E4208 := ext.tr hE3664 E4207
  have E4209 := ext.tr hE3610 E4208
  have E4210 := ext.tr hE3557 E4209
  have E4211 := ext.tr hE3507 E4210
  have E4212 := ext.tr hE3459 E4211
  have E4213 := ext.tr hE3411 E4212
  have E4214 := ext.tr hE3363 E4213
  have E4215 := ext.tr hE3315 E4214
  have E4216 := ext.tr hE3267 E4215
  have E4217 := ext.tr hE3219 E4216
  have E4218 := ext.tr hE3171 E4217
  have E4219 := ext.tr hE3123 E4218
  have E4220 := ext.tr hE3075 E4219
  have E4221 := ext.tr hE3027 E4220
  have E4222 := ext.tr hE2979 E4221
  have E4223 := ext.tr hE2931 E4222
  have E4224 := ext.tr hE2883 E4223
  have E4225 := ext.tr hE2821 E4224
  have E4226 := ext.tr hE2773 E4225
  have E4227 := ext.tr hE2725 E4226
  have E4228 := ext.tr hE2677 E4227
  have E4229 := ext.tr hE2629 E4228
  have E4230 := ext.tr hE2581 E4229
  have E4231 := ext.tr hE2533 E4230
  have E4232 := ext.tr hE2485 E4231
  have E4233 := ext.tr hE2437 E4232
  have E4234 := ext.tr hE2389 E4233
  have E4235 := ext.tr hE2341 E4234
  have E4236 := ext.tr hE2293 E4235
  have E4237 := ext.tr hE2246 E4236
  have E4238 := ext.tr hE2201 E4237
  have E4239 := ext.tr hE2156 E4238
  have E4240 := ext.tr hE2111 E4239
  have E4241 := ext.tr hE2067 E4240
  have E4242 := ext.tr hE2025 E4241
  have E4243 := ext.tr hE1984 E4242
  have E4244 := ext.tr hE1946 E4243
  have E4245 := ext.tr hE1911 E4244
  have E4246 := ext.tr hE1878 E4245
  have E4247 := ext.tr hE1845 E4246
  have E4248 := ext.tr hE1812 E4247
  have E4249 := ext.tr hE1779 E4248
  have E4250 := ext.tr hE1746 E4249
  have E4251 := ext.tr hE1713 E4250
  have E4252 := ext.tr hE1680 E4251
  have E4253 := ext.tr hE1647 E4252
  have E4254 := ext.tr hE1614 E4253
  have E4255 := ext.tr hE1581 E4254
  have E4256 := ext.tr hE1548 E4255
  have E4257 := ext.tr hE1515 E4256
  have E4258 := ext.tr hE1482 E4257
  have E4259 := ext.tr hE1449 E4258
  have E4260 := ext.tr hE1416 E4259
  have E4261 := ext.tr hE1383 E4260
  have E4262 := ext.tr hE1350 E4261
  have E4263 := ext.tr hE1317 E4262
  have E4264 := ext.tr hE1284 E4263
  have E4265 := ext.tr hE1251 E4264
  have E4266 := ext.tr hE1218 E4265
  have E4267 := ext.tr hE1185 E4266
  have E4268 := ext.tr hE1152 E4267
  have E4269 := ext.tr hE1119 E4268
  have E4270 := ext.tr hE1086 E4269
  have E4271 := ext.tr hE1053 E4270
  have E4272 := ext.tr hE1020 E4271
  have E4273 := ext.tr hE987 E4272
  have E4274 := ext.tr hE954 E4273
  have E4275 := ext.tr hE921 E4274
  have E4276 := ext.tr hE888 E4275
  have E4277 := ext.tr hE855 E4276
  have E4278 := ext.tr hE822 E4277
  have E4279 := ext.tr hE789 E4278
  have E4280 := ext.tr hE756 E4279
  have E4281 := ext.tr hE723 E4280
  have E4282 := ext.tr hE690 E4281
  have E4283 := ext.tr hE657 E4282
  have E4284 := ext.tr hE624 E4283
  have E4285 := ext.tr hE591 E4284
  have E4286 := ext.tr hE558 E4285
  have E4287 := ext.tr hE525 E4286
  have E4288 := ext.tr hE492 E4287
  have E4289 := ext.tr hE459 E4288
  have E4290 := ext.tr hE427 E4289
  have E4291 := ext.tr hE397 E4290
  have E4292 := ext.tr hE367 E4291
  have E4293 := ext.tr hE337 E4292
  have E4294 := ext.tr hE307 E4293
  have E4295 := ext.tr hE278 E4294
  have E4296 := ext.tr hE252 E4295
  have E4297 := ext.tr hE229 E4296
  have E4298 := ext.tr hE209 E4297
  have E4299 := ext.tr hE192 E4298
  have E4300 := ext.tr hE177 E4299
  have E4301 := ext.tr hE162 E4300
  have E4302 := ext.tr hE147 E4301
  have E4303 := ext.tr hE132 E4302
  have E4304 := ext.tr hE117 E4303
  have E4305 := ext.tr hE102 E4304
  have E4306 := ext.tr hE87 E4305
  have E4307 := ext.tr hE72 E4306
  have E4308 := ext.tr hE57 E4307
  have E4309 := ext.tr hE42 E4308
  have E4310 := ext.tr hE27 E4309
  have E4311 := ext.tr hE12 E4310
  refine GO.callV (ci := 23) (N := mX12_begins_raw) dX12_init_967 (RX12, TX12, 151) rfl gV_RX12_361 h4155 (t_X12_begins_raw h4155 (PF.at pf4186 113 rfl) (E4310.arr h13) (PF.at pf4186 112 rfl) (E4309.arr h28) (PF.at pf4186 111 rfl) (E4308.arr h43) (PF.at pf4186 110 rfl) (E4307.arr h58) (ir_c rfl) (ir_c rfl)) rfl [] rfl rfl (Nat.le_of_ble_eq_true rfl) rfl (k_vs fun V4312 h4313 hF4314 => ?_)
  have pf4315 := PF.two pf4186 h4313.1 h4313.2.1 h4313.2.2.1 rfl rfl
  have hbgr := h4313.2.2.2
  have hz4316 : ∀ j, V4312 o188 j = .int 0 := fun j => (FRA hF4314 kz4158 kz4158 (by decide +kernel) j).trans (hz4187 j)
  have hz4317 : ∀ j, V4312 o205 j = .int 0 := fun j => (FRA hF4314 kz4160 kz4160 (by decide +kernel) j).trans (hz4188 j)
  have hz4318 : ∀ j, V4312 o225 j = .int 0 := fun j => (FRA hF4314 kz4162 kz4162 (by decide +kernel) j).trans (hz4189 j)
  have hz4319 : ∀ j, V4312 o248 j = .int 0 := fun j => (FRA hF4314 kz4164 kz4164 (by decide +kernel) j).trans (hz4190 j)
  have hz4320 : ∀ j, V4312 o274 j = .int 0 := fun j => (FRA hF4314 kz4166 kz4166 (by decide +kernel) j).trans (hz4191 j)
  have hz4321 : ∀ j, V4312 o423 j = .int 0 := fun j => (FRA hF4314 kz4168 kz4168 (by decide +kernel) j).trans (hz4192 j)
  have hz4322 : ∀ j, V4312 o1907 j = .int 0 := fun j => (FRA hF4314 kz4170 kz4170 (by decide +kernel) j).trans (hz4193 j)
  have hz4323 : ∀ j, V4312 o1942 j = .int 0 := fun j => (FRA hF4314 kz4172 kz4172 (by decide +kernel) j).trans (hz4194 j)
  have hz4324 : ∀ j, V4312 o1980 j = .int 0 := fun j => (FRA hF4314 kz4174 kz4174 (by decide +kernel) j).trans (hz4195 j)
  have hz4325 : ∀ j, V4312 o2063 j = .int 0 := fun j => (FRA hF4314 kz4176 kz4176 (by decide +kernel) j).trans (hz4196 j)
  have hz4326 : ∀ j, V4312 o2242 j = .int 0 := fun j => (FRA hF4314 kz4178 kz4178 (by decide +kernel) j).trans (hz4197 j)
  have hz4327 : ∀ j, V4312 o3503 j = .int 0 := fun j => (FRA hF4314 kz4180 kz4180 (by decide +kernel) j).trans (hz4198 j)
  have hz4328 : ∀ j, V4312 o3553 j = .int 0 := fun j => (FRA hF4314 kz4182 kz4182 (by decide +kernel) j).trans (hz4199 j)
  have E4329 := ext.tr hE4096 hE4150
  have E4330 := ext.tr hE4042 E4329
  have E4331 := ext.tr hE3988 E4330
  have E4332 := ext.tr hE3934 E4331
  have E4333 := ext.tr hE3880 E4332
  have E4334 := ext.tr hE3826 E4333
  have E4335 := ext.tr hE3772 E4334
  have E4336 := ext.tr hE3718 E4335
  have E4337 := ext.tr hE3664 E4336
  have E4338 := ext.tr hE3610 E4337
  have E4339 := ext.tr hE3557 E4338
  have E4340 := ext.tr hE3507 E4339
  have E4341 := ext.tr hE3459 E4340
  have E4342 := ext.tr hE3411 E4341
  have E4343 := ext.tr hE3363 E4342
  have E4344 := ext.tr hE3315 E4343
  have E4345 := ext.tr hE3267 E4344
  have E4346 := ext.tr hE3219 E4345
  have E4347 := ext.tr hE3171 E4346
  have E4348 := ext.tr hE3123 E4347
  have E4349 := ext.tr hE3075 E4348
  have E4350 := ext.tr hE3027 E4349
  have E4351 := ext.tr hE2979 E4350
  have E4352 := ext.tr hE2931 E4351
  have E4353 := ext.tr hE2883 E4352
  have E4354 := ext.tr hE2821 E4353
  have E4355 := ext.tr hE2773 E4354
  have E4356 := ext.tr hE2725 E4355
  have E4357 := ext.tr hE2677 E4356
  have E4358 := ext.tr hE2629 E4357
  have E4359 := ext.tr hE2581 E4358
  have E4360 := ext.tr hE2533 E4359
  have E4361 := ext.tr hE2485 E4360
  have E4362 := ext.tr hE2437 E4361
  have E4363 := ext.tr hE2389 E4362
  have E4364 := ext.tr hE2341 E4363
  have E4365 := ext.tr hE2293 E4364
  have E4366 := ext.tr hE2246 E4365
  have E4367 := ext.tr hE2201 E4366
  have E4368 := ext.tr hE2156 E4367
  have E4369 := ext.tr hE2111 E4368
  have E4370 := ext.tr hE2067 E4369
  have E4371 := ext.tr hE2025 E4370
  have E4372 := ext.tr hE1984 E4371
  have E4373 := ext.tr hE1946 E4372
  have E4374 := ext.tr hE1911 E4373
  have E4375 := ext.tr hE1878 E4374
  have E4376 := ext.tr hE1845 E4375
  have E4377 := ext.tr hE1812 E4376
  have E4378 := ext.tr hE1779 E4377
  have E4379 := ext.tr hE1746 E4378
  have E4380 := ext.tr hE1713 E4379
  have E4381 := ext.tr hE1680 E4380
  have E4382 := ext.tr hE1647 E4381
  have E4383 := ext.tr hE1614 E4382
  have E4384 := ext.tr hE1581 E4383
  have E4385 := ext.tr hE1548 E4384
  have E4386 := ext.tr hE1515 E4385
  have E4387 := ext.tr hE1482 E4386
  have E4388 := ext.tr hE1449 E4387
  have E4389 := ext.tr hE1416 E4388
  have E4390 := ext.tr hE1383 E4389
  have E4391 := ext.tr hE1350 E4390
  have E4392 := ext.tr hE1317 E4391
  have E4393 := ext.tr hE1284 E4392
  have E4394 := ext.tr hE1251 E4393
  have E4395 := ext.tr hE1218 E4394
  have E4396 := ext.tr hE1185 E4395
  have E4397 := ext.tr hE1152 E4396
  have E4398 := ext.tr hE1119 E4397
  have E4399 := ext.tr hE1086 E4398
  have E4400 := ext.tr hE1053 E4399
  have E4401 := ext.tr hE1020 E4400
  have E4402 := ext.tr hE987 E4401
  have E4403 := ext.tr hE954 E4402
  have E4404 := ext.tr hE921 E4403
  have E4405 := ext.tr hE888 E4404
  have E4406 := ext.tr hE855 E4405
  have E4407 := ext.tr hE822 E4406
  have E4408 := ext.tr hE789 E4407
  have E4409 := ext.tr hE756 E4408
  have E4410 := ext.tr hE723 E4409
  have E4411 := ext.tr hE690 E4410
  have E4412 := ext.tr hE657 E4411
  have E4413 := ext.tr hE624 E4412
  have E4414 := ext.tr hE591 E4413
  have E4415 := ext.tr hE558 E4414
  have E4416 := ext.tr hE525 E4415
  have E4417 := ext.tr hE492 E4416
  have E4418 := ext.tr hE459 E4417
  have E4419 := ext.tr hE427 E4418
  have E4420 := ext.tr hE397 E4419
  have E4421 := ext.tr hE367 E4420
  have E4422 := ext.tr hE337 E4421
  have E4423 := ext.tr hE307 E4422
  have E4424 := ext.tr hE278 E4423
  have E4425 := ext.tr hE252 E4424
  have E4426 := ext.tr hE229 E4425
  have E4427 := ext.tr hE209 E4426
  have E4428 := ext.tr hE192 E4427
  have E4429 := ext.tr hE177 E4428
  have E4430 := ext.tr hE162 E4429
  have E4431 := ext.tr hE147 E4430
  have E4432 := ext.tr hE132 E4431
  have E4433 := ext.tr hE117 E4432
  have E4434 := ext.tr hE102 E4433
  have E4435 := ext.tr hE87 E4434
  have E4436 := ext.tr hE72 E4435
  have E4437 := ext.tr hE57 E4436
  have E4438 := ext.tr hE42 E4437
  have E4439 := ext.tr hE27 E4438
  have E4440 := ext.tr hE12 E4439
  refine GO.promote (ci := 11) rfl h4155 (fun j hj => ?_) (fun K4441 e4442 hE4443 h4444 => ?_)
  ·
    have hj : j < 151 := hj
    match j, hj with
    | 0, _ => exact okv_at (PF.at pf4315 0 rfl) (ir_c rfl) (by decide) (by decide)
    | 1, _ => exact okv_at (PF.at pf4315 1 rfl) (ir_c rfl) (by decide) (by decide)
    | 2, _ => exact okv_df rfl rfl (PF.df pf4315 2 rfl rfl)
    | 3, _ => exact okv_at (PF.at pf4315 117 rfl) (ir_c rfl) (by decide) (by decide)
    | 4, _ => exact okv_at (PF.at pf4315 116 rfl) (ir_c rfl) (by decide) (by decide)
    | 5, _ => exact ⟨_, (PF.at pf4315 115 rfl), ⟨_, (E4439.arr h13)⟩⟩
    | 6, _ => exact ⟨_, (PF.at pf4315 114 rfl), ⟨_, (E4438.arr h28)⟩⟩
    | 7, _ => exact ⟨_, (PF.at pf4315 113 rfl), ⟨_, (E4437.arr h43)⟩⟩
    | 8, _ => exact ⟨_, (PF.at pf4315 112 rfl), ⟨_, (E4436.arr h58)⟩⟩
    | 9, _ => exact okv_df rfl rfl (PF.df pf4315 9 rfl rfl)
    | 10, _ => exact okv_df rfl rfl (PF.df pf4315 10 rfl rfl)
    | 11, _ => exact ⟨_, (PF.at pf4315 111 rfl), ⟨_, (E4435.arr h73)⟩⟩
    | 12, _ => exact ⟨_, (PF.at pf4315 110 rfl), ⟨_, (E4434.arr h88)⟩⟩
    | 13, _ => exact ⟨_, (PF.at pf4315 109 rfl), ⟨_, (E4433.arr h103)⟩⟩
    | 14, _ => exact ⟨_, (PF.at pf4315 108 rfl), ⟨_, (E4432.arr h118)⟩⟩
    | 15, _ => exact ⟨_, (PF.at pf4315 107 rfl), ⟨_, (E4431.arr h133)⟩⟩
    | 16, _ => exact ⟨_, (PF.at pf4315 106 rfl), ⟨_, (E4430.arr h148)⟩⟩
    | 17, _ => exact ⟨_, (PF.at pf4315 105 rfl), ⟨_, (E4429.arr h163)⟩⟩
    | 18, _ => exact ⟨_, (PF.at pf4315 104 rfl), ⟨_, (E4428.arr h178)⟩⟩
    | 19, _ => exact ⟨_, (PF.at pf4315 103 rfl), ⟨_, (E4427.arr h193)⟩⟩
    | 20, _ => exact ⟨_, (PF.at pf4315 102 rfl), ⟨_, (E4426.arr h210)⟩⟩
    | 21, _ => exact ⟨_, (PF.at pf4315 101 rfl), ⟨_, (E4425.arr h230)⟩⟩
    | 22, _ => exact ⟨_, (PF.at pf4315 100 rfl), ⟨_, (E4424.arr h253)⟩⟩
    | 23, _ => exact ⟨_, (PF.at pf4315 99 rfl), ⟨_, (E4423.arr h279)⟩⟩
    | 24, _ => exact ⟨_, (PF.at pf4315 98 rfl), ⟨_, (E4422.arr h308)⟩⟩
    | 25, _ => exact ⟨_, (PF.at pf4315 97 rfl), ⟨_, (E4421.arr h338)⟩⟩
    | 26, _ => exact ⟨_, (PF.at pf4315 96 rfl), ⟨_, (E4420.arr h368)⟩⟩
    | 27, _ => exact ⟨_, (PF.at pf4315 95 rfl), ⟨_, (E4419.arr h398)⟩⟩
    | 28, _ => exact ⟨_, (PF.at pf4315 94 rfl), ⟨_, (E4418.arr h428)⟩⟩
    | 29, _ => exact ⟨_, (PF.at pf4315 93 rfl), ⟨_, (E4417.arr h460)⟩⟩
    | 30, _ => exact okv_df rfl rfl (PF.df pf4315 30 rfl rfl)
    | 31, _ => exact okv_df rfl rfl (PF.df pf4315 31 rfl rfl)
    | 32, _ => exact okv_df rfl rfl (PF.df pf4315 32 rfl rfl)
    | 33, _ => exact okv_df rfl rfl (PF.df pf4315 33 rfl rfl)
    | 34, _ => exact okv_df rfl rfl (PF.df pf4315 34 rfl rfl)
    | 35, _ => exact okv_df rfl rfl (PF.df pf4315 35 rfl rfl)
    | 36, _ => exact okv_df rfl rfl (PF.df pf4315 36 rfl rfl)
    | 37, _ => exact okv_df rfl rfl (PF.df pf4315 37 rfl rfl)
    | 38, _ => exact okv_df rfl rfl (PF.df pf4315 38 rfl rfl)
    | 39, _ => exact ⟨_, (PF.at pf4315 92 rfl), ⟨_, (E4416.arr h493)⟩⟩
    | 40, _ => exact ⟨_, (PF.at pf4315 91 rfl), ⟨_, (E4415.arr h526)⟩⟩
    | 41, _ => exact ⟨_, (PF.at pf4315 90 rfl), ⟨_, (E4414.arr h559)⟩⟩
    | 42, _ => exact ⟨_, (PF.at pf4315 89 rfl), ⟨_, (E4413.arr h592)⟩⟩
    | 43, _ => exact ⟨_, (PF.at pf4315 88 rfl), ⟨_, (E4412.arr h625)⟩⟩
    | 44, _ => exact ⟨_, (PF.at pf4315 87 rfl), ⟨_, (E4411.arr h658)⟩⟩
    | 45, _ => exact ⟨_, (PF.at pf4315 86 rfl), ⟨_, (E4410.arr h691)⟩⟩
    | 46, _ => exact ⟨_, (PF.at pf4315 85 rfl), ⟨_, (E4409.arr h724)⟩⟩
    | 47, _ => exact okv_df rfl rfl (PF.df pf4315 47 rfl rfl)
    | 48, _ => exact okv_df rfl rfl (PF.df pf4315 48 rfl rfl)
    | 49, _ => exact ⟨_, (PF.at pf4315 84 rfl), ⟨_, (E4408.arr h757)⟩⟩
    | 50, _ => exact ⟨_, (PF.at pf4315 83 rfl), ⟨_, (E4407.arr h790)⟩⟩
    | 51, _ => exact ⟨_, (PF.at pf4315 82 rfl), ⟨_, (E4406.arr h823)⟩⟩
    | 52, _ => exact ⟨_, (PF.at pf4315 81 rfl), ⟨_, (E4405.arr h856)⟩⟩
    | 53, _ => exact ⟨_, (PF.at pf4315 80 rfl), ⟨_, (E4404.arr h889)⟩⟩
    | 54, _ => exact ⟨_, (PF.at pf4315 79 rfl), ⟨_, (E4403.arr h922)⟩⟩
    | 55, _ => exact ⟨_, (PF.at pf4315 78 rfl), ⟨_, (E4402.arr h955)⟩⟩
    | 56, _ => exact ⟨_, (PF.at pf4315 77 rfl), ⟨_, (E4401.arr h988)⟩⟩
    | 57, _ => exact ⟨_, (PF.at pf4315 76 rfl), ⟨_, (E4400.arr h1021)⟩⟩
    | 58, _ => exact ⟨_, (PF.at pf4315 75 rfl), ⟨_, (E4399.arr h1054)⟩⟩
    | 59, _ => exact ⟨_, (PF.at pf4315 74 rfl), ⟨_, (E4398.arr h1087)⟩⟩
    | 60, _ => exact ⟨_, (PF.at pf4315 73 rfl), ⟨_, (E4397.arr h1120)⟩⟩
    | 61, _ => exact ⟨_, (PF.at pf4315 72 rfl), ⟨_, (E4396.arr h1153)⟩⟩
    | 62, _ => exact ⟨_, (PF.at pf4315 71 rfl), ⟨_, (E4395.arr h1186)⟩⟩
    | 63, _ => exact ⟨_, (PF.at pf4315 70 rfl), ⟨_, (E4394.arr h1219)⟩⟩
    | 64, _ => exact ⟨_, (PF.at pf4315 69 rfl), ⟨_, (E4393.arr h1252)⟩⟩
    | 65, _ => exact ⟨_, (PF.at pf4315 68 rfl), ⟨_, (E4392.arr h1285)⟩⟩
    | 66, _ => exact okv_df rfl rfl (PF.df pf4315 66 rfl rfl)
    | 67, _ => exact ⟨_, (PF.at pf4315 67 rfl), ⟨_, (E4391.arr h1318)⟩⟩
    | 68, _ => exact ⟨_, (PF.at pf4315 66 rfl), ⟨_, (E4390.arr h1351)⟩⟩
    | 69, _ => exact ⟨_, (PF.at pf4315 65 rfl), ⟨_, (E4389.arr h1384)⟩⟩
    | 70, _ => exact ⟨_, (PF.at pf4315 64 rfl), ⟨_, (E4388.arr h1417)⟩⟩
    | 71, _ => exact ⟨_, (PF.at pf4315 63 rfl), ⟨_, (E4387.arr h1450)⟩⟩
    | 72, _ => exact ⟨_, (PF.at pf4315 62 rfl), ⟨_, (E4386.arr h1483)⟩⟩
    | 73, _ => exact ⟨_, (PF.at pf4315 61 rfl), ⟨_, (E4385.arr h1516)⟩⟩
    | 74, _ => exact ⟨_, (PF.at pf4315 60 rfl), ⟨_, (E4384.arr h1549)⟩⟩
    | 75, _ => exact ⟨_, (PF.at pf4315 59 rfl), ⟨_, (E4383.arr h1582)⟩⟩
    | 76, _ => exact ⟨_, (PF.at pf4315 58 rfl), ⟨_, (E4382.arr h1615)⟩⟩
    | 77, _ => exact ⟨_, (PF.at pf4315 57 rfl), ⟨_, (E4381.arr h1648)⟩⟩
    | 78, _ => exact ⟨_, (PF.at pf4315 56 rfl), ⟨_, (E4380.arr h1681)⟩⟩
    | 79, _ => exact ⟨_, (PF.at pf4315 55 rfl), ⟨_, (E4379.arr h1714)⟩⟩
    | 80, _ => exact ⟨_, (PF.at pf4315 54 rfl), ⟨_, (E4378.arr h1747)⟩⟩
    | 81, _ => exact ⟨_, (PF.at pf4315 53 rfl), ⟨_, (E4377.arr h1780)⟩⟩
    | 82, _ => exact okv_df rfl rfl (PF.df pf4315 82 rfl rfl)
    | 83, _ => exact ⟨_, (PF.df pf4315 83 rfl rfl)⟩
    | 84, _ => exact ⟨_, (PF.df pf4315 84 rfl rfl)⟩
    | 85, _ => exact ⟨_, (PF.df pf4315 85 rfl rfl)⟩
    | 86, _ => exact ⟨_, (PF.df pf4315 86 rfl rfl)⟩
    | 87, _ => exact ⟨_, (PF.df pf4315 87 rfl rfl)⟩
    | 88, _ => exact ⟨_, (PF.df pf4315 88 rfl rfl)⟩
    | 89, _ => exact ⟨_, (PF.df pf4315 89 rfl rfl)⟩
    | 90, _ => exact ⟨_, (PF.df pf4315 90 rfl rfl)⟩
    | 91, _ => exact okv_df rfl rfl (PF.df pf4315 91 rfl rfl)
    | 92, _ => exact okv_df rfl rfl (PF.df pf4315 92 rfl rfl)
    | 93, _ => exact okv_df rfl rfl (PF.df pf4315 93 rfl rfl)
    | 94, _ => exact ⟨_, (PF.at pf4315 52 rfl), ⟨_, (E4376.arr h1813)⟩⟩
    | 95, _ => exact ⟨_, (PF.at pf4315 51 rfl), ⟨_, (E4375.arr h1846)⟩⟩
    | 96, _ => exact ⟨_, (PF.at pf4315 50 rfl), ⟨_, (E4374.arr h1879)⟩⟩
    | 97, _ => exact ⟨_, (PF.at pf4315 49 rfl), ⟨_, (E4373.arr h1912)⟩⟩
    | 98, _ => exact ⟨_, (PF.at pf4315 48 rfl), ⟨_, (E4372.arr h1947)⟩⟩
    | 99, _ => exact ⟨_, (PF.at pf4315 47 rfl), ⟨_, (E4371.arr h1985)⟩⟩
    | 100, _ => exact ⟨_, (PF.at pf4315 46 rfl), ⟨_, (E4370.arr h2026)⟩⟩
    | 101, _ => exact ⟨_, (PF.at pf4315 45 rfl), ⟨_, (E4369.arr h2068)⟩⟩
    | 102, _ => exact ⟨_, (PF.at pf4315 44 rfl), ⟨_, (E4368.arr h2112)⟩⟩
    | 103, _ => exact ⟨_, (PF.at pf4315 43 rfl), ⟨_, (E4367.arr h2157)⟩⟩
    | 104, _ => exact ⟨_, (PF.at pf4315 42 rfl), ⟨_, (E4366.arr h2202)⟩⟩
    | 105, _ => exact ⟨_, (PF.at pf4315 41 rfl), ⟨_, (E4365.arr h2247)⟩⟩
    | 106, _ => exact ⟨_, (PF.at pf4315 40 rfl), ⟨_, (E4364.arr h2294)⟩⟩
    | 107, _ => exact ⟨_, (PF.at pf4315 39 rfl), ⟨_, (E4363.arr h2342)⟩⟩
    | 108, _ => exact ⟨_, (PF.at pf4315 38 rfl), ⟨_, (E4362.arr h2390)⟩⟩
    | 109, _ => exact ⟨_, (PF.at pf4315 37 rfl), ⟨_, (E4361.arr h2438)⟩⟩
    | 110, _ => exact ⟨_, (PF.at pf4315 36 rfl), ⟨_, (E4360.arr h2486)⟩⟩
    | 111, _ => exact ⟨_, (PF.at pf4315 35 rfl), ⟨_, (E4359.arr h2534)⟩⟩
    | 112, _ => exact ⟨_, (PF.at pf4315 34 rfl), ⟨_, (E4358.arr h2582)⟩⟩
    | 113, _ => exact ⟨_, (PF.at pf4315 33 rfl), ⟨_, (E4357.arr h2630)⟩⟩
    | 114, _ => exact ⟨_, (PF.at pf4315 32 rfl), ⟨_, (E4356.arr h2678)⟩⟩
    | 115, _ => exact ⟨_, (PF.at pf4315 31 rfl), ⟨_, (E4355.arr h2726)⟩⟩
    | 116, _ => exact ⟨_, (PF.at pf4315 30 rfl), ⟨_, (E4354.arr h2774)⟩⟩
    | 117, _ => exact ⟨_, (PF.at pf4315 29 rfl), ⟨_, (E4353.arr h2822)⟩⟩
    | 118, _ => exact okv_df rfl rfl (PF.df pf4315 118 rfl rfl)
    | 119, _ => exact okv_at (PF.at pf4315 28 rfl) (ir_c rfl) (by decide) (by decide)
    | 120, _ => exact okv_df rfl rfl (PF.df pf4315 120 rfl rfl)
    | 121, _ => exact ⟨_, (PF.at pf4315 27 rfl), ⟨_, (E4352.arr h2884)⟩⟩
    | 122, _ => exact ⟨_, (PF.at pf4315 26 rfl), ⟨_, (E4351.arr h2932)⟩⟩
    | 123, _ => exact ⟨_, (PF.at pf4315 25 rfl), ⟨_, (E4350.arr h2980)⟩⟩
    | 124, _ => exact ⟨_, (PF.at pf4315 24 rfl), ⟨_, (E4349.arr h3028)⟩⟩
    | 125, _ => exact ⟨_, (PF.at pf4315 23 rfl), ⟨_, (E4348.arr h3076)⟩⟩
    | 126, _ => exact ⟨_, (PF.at pf4315 22 rfl), ⟨_, (E4347.arr h3124)⟩⟩
    | 127, _ => exact ⟨_, (PF.at pf4315 21 rfl), ⟨_, (E4346.arr h3172)⟩⟩
    | 128, _ => exact ⟨_, (PF.at pf4315 20 rfl), ⟨_, (E4345.arr h3220)⟩⟩
    | 129, _ => exact ⟨_, (PF.at pf4315 19 rfl), ⟨_, (E4344.arr h3268)⟩⟩
    | 130, _ => exact ⟨_, (PF.at pf4315 18 rfl), ⟨_, (E4343.arr h3316)⟩⟩
    | 131, _ => exact ⟨_, (PF.at pf4315 17 rfl), ⟨_, (E4342.arr h3364)⟩⟩
    | 132, _ => exact ⟨_, (PF.at pf4315 16 rfl), ⟨_, (E4341.arr h3412)⟩⟩
    | 133, _ => exact okv_df rfl rfl (PF.df pf4315 133 rfl rfl)
    | 134, _ => exact ⟨_, (PF.at pf4315 15 rfl), ⟨_, (E4340.arr h3460)⟩⟩
    | 135, _ => exact ⟨_, (PF.at pf4315 14 rfl), ⟨_, (E4339.arr h3508)⟩⟩
    | 136, _ => exact ⟨_, (PF.at pf4315 13 rfl), ⟨_, (E4338.arr h3558)⟩⟩
    | 137, _ => exact okv_df rfl rfl (PF.df pf4315 137 rfl rfl)
    | 138, _ => exact okv_df rfl rfl (PF.df pf4315 138 rfl rfl)
    | 139, _ => exact ⟨_, (PF.at pf4315 12 rfl), ⟨_, (E4337.arr h3611)⟩⟩
    | 140, _ => exact ⟨_, (PF.at pf4315 11 rfl), ⟨_, (E4336.arr h3665)⟩⟩
    | 141, _ => exact ⟨_, (PF.at pf4315 10 rfl), ⟨_, (E4335.arr h3719)⟩⟩
    | 142, _ => exact ⟨_, (PF.at pf4315 9 rfl), ⟨_, (E4334.arr h3773)⟩⟩
    | 143, _ => exact ⟨_, (PF.at pf4315 8 rfl), ⟨_, (E4333.arr h3827)⟩⟩
    | 144, _ => exact ⟨_, (PF.at pf4315 7 rfl), ⟨_, (E4332.arr h3881)⟩⟩
    | 145, _ => exact okv_df rfl rfl (PF.df pf4315 145 rfl rfl)
    | 146, _ => exact ⟨_, (PF.at pf4315 6 rfl), ⟨_, (E4331.arr h3935)⟩⟩
    | 147, _ => exact ⟨_, (PF.at pf4315 5 rfl), ⟨_, (E4330.arr h3989)⟩⟩
    | 148, _ => exact ⟨_, (PF.at pf4315 4 rfl), ⟨_, (E4329.arr h4043)⟩⟩
    | 149, _ => exact ⟨_, (PF.at pf4315 3 rfl), ⟨_, (hE4150.arr h4097)⟩⟩
    | 150, _ => exact ⟨_, (PF.at pf4315 2 rfl), ⟨_, h4151⟩⟩
    | j + 151, hj => exact absurd hj (by omega)
  have q4445 : vi V4312 x 10 = 0 := vi_at (X := 0) (PF.df pf4315 10 rfl rfl) (ir_c rfl)
  have q4446 : vi V4312 x 47 = 0 := vi_at (X := 0) (PF.df pf4315 47 rfl rfl) (ir_c rfl)
  have q4447 : vi V4312 x 48 = 0 := vi_at (X := 0) (PF.df pf4315 48 rfl rfl) (ir_c rfl)
  have q4448 : vi V4312 x 30 = 0 := vi_at (X := 0) (PF.df pf4315 30 rfl rfl) (ir_c rfl)
  have q4449 : vi V4312 x 9 = 0 := vi_at (X := 0) (PF.df pf4315 9 rfl rfl) (ir_c rfl)
  have q4450 : vi V4312 x 2 = 0 := vi_at (X := 0) (PF.df pf4315 2 rfl rfl) (ir_c rfl)
  have q4451 : vi V4312 x 91 = 0 := vi_at (X := 0) (PF.df pf4315 91 rfl rfl) (ir_c rfl)
  have q4452 : vi V4312 x 133 = 0 := vi_at (X := 0) (PF.df pf4315 133 rfl rfl) (ir_c rfl)
  have q4453 : vi V4312 x 120 = 0 := vi_at (X := 0) (PF.df pf4315 120 rfl rfl) (ir_c rfl)
  have q4454 : vi V4312 x 66 = 0 := vi_at (X := 0) (PF.df pf4315 66 rfl rfl) (ir_c rfl)
  have q4455 : vi V4312 x 118 = 0 := vi_at (X := 0) (PF.df pf4315 118 rfl rfl) (ir_c rfl)
  have q4456 : vi V4312 x 137 = 0 := vi_at (X := 0) (PF.df pf4315 137 rfl rfl) (ir_c rfl)
  have q4457 : vi V4312 x 92 = 0 := vi_at (X := 0) (PF.df pf4315 92 rfl rfl) (ir_c rfl)
  have q4458 : vi V4312 x 3 = 120 := vi_at (X := 120) (PF.at pf4315 117 rfl) (ir_c rfl)
  have q4459 : vi V4312 x 4 = 239 := vi_at (X := 239) (PF.at pf4315 116 rfl) (ir_c rfl)
  have hmbg : MBG V4312 x 8 8 := MBG.raw (PF.at pf4315 0 rfl) (PF.at pf4315 1 rfl) (PF.at pf4315 115 rfl) (PF.at pf4315 114 rfl) (PF.at pf4315 113 rfl) (PF.at pf4315 112 rfl) hbgr
  have hzb4460 : ZB V4312 x 19 60 := ZB.mk (PF.at pf4315 103 rfl) hz4316
  have hzb4461 : ZB V4312 x 20 60 := ZB.mk (PF.at pf4315 102 rfl) hz4317
  have hzb4462 : ZB V4312 x 21 60 := ZB.mk (PF.at pf4315 101 rfl) hz4318
  have hzb4463 : ZB V4312 x 22 60 := ZB.mk (PF.at pf4315 100 rfl) hz4319
  have hzb4464 : ZB V4312 x 23 240 := ZB.mk (PF.at pf4315 99 rfl) hz4320
  have hzb4465 : ZB V4312 x 28 60 := ZB.mk (PF.at pf4315 94 rfl) hz4321
  have hzb4466 : ZB V4312 x 97 10 := ZB.mk (PF.at pf4315 49 rfl) hz4322
  have hzb4467 : ZB V4312 x 98 10 := ZB.mk (PF.at pf4315 48 rfl) hz4323
  have hzb4468 : ZB V4312 x 99 10 := ZB.mk (PF.at pf4315 47 rfl) hz4324
  have hzb4469 : ZB V4312 x 101 10 := ZB.mk (PF.at pf4315 45 rfl) hz4325
  have hzb4470 : ZB V4312 x 105 48 := ZB.mk (PF.at pf4315 41 rfl) hz4326
  have hzb4471 : ZB V4312 x 135 63 := ZB.mk (PF.at pf4315 14 rfl) hz4327
  have hzb4472 : ZB V4312 x 136 441 := ZB.mk (PF.at pf4315 13 rfl) hz4328
  refine GO.iconst dX12_init_970 ?_
  refine GO.istore_n (ls1 := [some (.ref x), some (ti 0)]) dX12_init_971 rfl rfl rfl ?_
  refine GO.loop1 (fun i4473 W => 0 ≤ i4473 ∧ i4473 ≤ 4 ∧ (vi W x 10 = 0 ∧ vi W x 47 = 0 ∧ vi W x 48 = 0 ∧ vi W x 30 = 0 ∧ vi W x 9 = 0 ∧ vi W x 2 = 0 ∧ vi W x 91 = 0 ∧ vi W x 133 = 0 ∧ vi W x 120 = 0 ∧ vi W x 66 = 0 ∧ vi W x 118 = 0 ∧ vi W x 137 = 0 ∧ vi W x 92 = 0 ∧ vi W x 3 = 120 ∧ vi W x 4 = 239) ∧ (ZB W x 135 63) ∧ (ZB W x 136 441) ∧ (ZB W x 28 60) ∧ (MBG W x 8 8) ∧ (MSJ W x i4473) ∧ (ZB W x 19 60) ∧ (ZB W x 20 60) ∧ (ZB W x 21 60) ∧ (ZB W x 22 60) ∧ (ZB W x 23 240) ∧ (ZB W x 97 10) ∧ (ZB W x 98 10) ∧ (ZB W x 99 10) ∧ (ZB W x 101 10) ∧ (ZB W x 105 48) ∧ True) (fun i4473 => [some (.ref x), some (ti i4473)]) (fun i4473 W => (2147483647 - i4473).toNat) 0 ⟨by omega, by omega, by omega, (by first | assumption), (by first | assumption), (by first | assumption), (by first | assumption), (by first | exact MSJ.beg), (by first | assumption), (by first | assumption), (by first | assumption), (by first | assumption), (by first | assumption), (by first | assumption), (by first | assumption), (by first | assumption), (by first | assumption), (by first | assumption), trivial⟩ rfl (fun i4473 Wi4473 hp6244 ih6243 => ?_)
  obtain ⟨l_i4473, u_i4473, n_i4473, w0_i4473, w1_i4473, w2_i4473, w3_i4473, hms, w5_i4473, w6_i4473, w7_i4473, w8_i4473, w9_i4473, w10_i4473, w11_i4473, w12_i4473, w13_i4473, w14_i4473, -⟩ := hp6244
  have r_i4473 : ir i4473 := ⟨by omega, by omega⟩
  show GO mX12_init K V (VX (fun K1 V1 => (K1 x = some (0, 11) ∧ vi V1 x 10 = 0 ∧ vi V1 x 47 = 0 ∧ vi V1 x 48 = 0 ∧ vi V1 x 30 = 0 ∧ vi V1 x 9 = 0 ∧ vi V1 x 2 = 0 ∧ vi V1 x 91 = 0 ∧ vi V1 x 133 = 0 ∧ vi V1 x 120 = 0 ∧ vi V1 x 66 = 0 ∧ vi V1 x 118 = 0 ∧ vi V1 x 137 = 0 ∧ vi V1 x 92 = 0 ∧ vi V1 x 3 = 120 ∧ vi V1 x 4 = 239 ∧ ZB V1 x 135 63 ∧ ZB V1 x 136 441 ∧ ZB V1 x 28 60 ∧ ZB V1 x 19 60 ∧ ZB V1 x 20 60 ∧ ZB V1 x 21 60 ∧ ZB V1 x 22 60 ∧ ZB V1 x 23 240 ∧ ZB V1 x 97 10 ∧ ZB V1 x 98 10 ∧ ZB V1 x 99 10 ∧ ZB V1 x 101 10 ∧ ZB V1 x 105 48 ∧ (MBG V1 x 8 8) ∧ (MSF V1 x) ∧ (BRF V1 x)) ∧ KE K K1 x)) K4441 Wi4473 113 19203 972 [some (.ref x), some (ti i4473)] []
  refine GO.useWT (fun hWz => ?_)
  refine GO.iload_n dX12_init_972 rfl rfl ?_
  refine GO.iconst dX12_init_973 ?_
  refine GO.icmp_ge (tgt := 991) dX12_init_974 (by decide) r_i4473 (ir_c rfl) (fun c6245 => ?_) (fun c6245 => ?_)
  ·
    refine GO.iconst dX12_init_991 ?_
    refine GO.istore_n (ls1 := [some (.ref x), some (ti 0)]) dX12_init_992 rfl rfl rfl ?_
    have q6247 : -2147483648 ≤ vi Wi4473 x 10 ∧ vi Wi4473 x 10 ≤ 2147483647 := vi_ir
    have q6248 : -2147483648 ≤ vi Wi4473 x 47 ∧ vi Wi4473 x 47 ≤ 2147483647 := vi_ir
    have q6249 : -2147483648 ≤ vi Wi4473 x 48 ∧ vi Wi4473 x 48 ≤ 2147483647 := vi_ir
    have q6250 : -2147483648 ≤ vi Wi4473 x 30 ∧ vi Wi4473 x 30 ≤ 2147483647 := vi_ir
    have q6251 : -2147483648 ≤ vi Wi4473 x 9 ∧ vi Wi4473 x 9 ≤ 2147483647 := vi_ir
    have q6252 : -2147483648 ≤ vi Wi4473 x 2 ∧ vi Wi4473 x 2 ≤ 2147483647 := vi_ir
    have q6253 : -2147483648 ≤ vi Wi4473 x 91 ∧ vi Wi4473 x 91 ≤ 2147483647 := vi_ir
    have q6254 : -2147483648 ≤ vi Wi4473 x 133 ∧ vi Wi4473 x 133 ≤ 2147483647 := vi_ir
    have q6255 : -2147483648 ≤ vi Wi4473 x 120 ∧ vi Wi4473 x 120 ≤ 2147483647 := vi_ir
    have q6256 : -2147483648 ≤ vi Wi4473 x 66 ∧ vi Wi4473 x 66 ≤ 2147483647 := vi_ir
    have q6257 : -2147483648 ≤ vi Wi4473 x 118 ∧ vi Wi4473 x 118 ≤ 2147483647 := vi_ir
    have q6258 : -2147483648 ≤ vi Wi4473 x 137 ∧ vi Wi4473 x 137 ≤ 2147483647 := vi_ir
    have q6259 : -2147483648 ≤ vi Wi4473 x 92 ∧ vi Wi4473 x 92 ≤ 2147483647 := vi_ir
    have q6260 : -2147483648 ≤ vi Wi4473 x 3 ∧ vi Wi4473 x 3 ≤ 2147483647 := vi_ir
    have q6261 : -2147483648 ≤ vi Wi4473 x 4 ∧ vi Wi4473 x 4 ≤ 2147483647 := vi_ir
    refine GO.loop1 (fun i6246 W => 0 ≤ i6246 ∧ i6246 ≤ 10 ∧ (vi W x 10 = 0 ∧ vi W x 47 = 0 ∧ vi W x 48 = 0 ∧ vi W x 30 = 0 ∧ vi W x 9 = 0 ∧ vi W x 2 = 0 ∧ vi W x 91 = 0 ∧ vi W x 133 = 0 ∧ vi W x 120 = 0 ∧ vi W x 66 = 0 ∧ vi W x 118 = 0 ∧ vi W x 137 = 0 ∧ vi W x 92 = 0 ∧ vi W x 3 = 120 ∧ vi W x 4 = 239) ∧ (ZB W x 135 63) ∧ (ZB W x 136 441) ∧ (ZB W x 28 60) ∧ (MBG W x 8 8) ∧ (MSF W x) ∧ (ZB W x 19 60) ∧ (ZB W x 20 60) ∧ (ZB W x 21 60) ∧ (ZB W x 22 60) ∧ (ZB W x 23 240) ∧ (ZB W x 97 10) ∧ (ZB W x 98 10) ∧ (ZB W x 99 10) ∧ (ZB W x 101 10) ∧ (ZB W x 105 48) ∧ True) (fun i6246 => [some (.ref x), some (ti i6246)]) (fun i6246 W => (2147483647 - i6246).toNat) 0 ⟨by omega, by omega, by omega, (by first | assumption | exact ZB.put 109 (by assumption) hWz (by assumption) rfl rfl (by assumption) (by assumption) (by decide)), (by first | assumption | exact ZB.put 110 (by assumption) hWz (by assumption) rfl rfl (by assumption) (by assumption) (by decide)), (by first | assumption | exact ZB.put 30 (by assumption) hWz (by assumption) rfl rfl (by assumption) (by assumption) (by decide)), (by first | assumption | exact MBG.put (by assumption) hWz (by assumption) (by assumption) (by assumption) (by decide)), (by first | assumption | exact MSJ.fin hms (by omega) | exact MSF.put (by assumption) hWz (by assumption) (by assumption) (by assumption) (by first | decide | exact ⟨by decide, Or.inl (by decide)⟩)), (by first | assumption | exact ZB.put 21 (by assumption) hWz (by assumption) rfl rfl (by assumption) (by assumption) (by decide)), (by first | assumption | exact ZB.put 22 (by assumption) hWz (by assumption) rfl rfl (by assumption) (by assumption) (by decide)), (by first | assumption | exact ZB.put 23 (by assumption) hWz (by assumption) rfl rfl (by assumption) (by assumption) (by decide)), (by first | assumption | exact ZB.put 24 (by assumption) hWz (by assumption) rfl rfl (by assumption) (by assumption) (by decide)), (by first | assumption | exact ZB.put 25 (by assumption) hWz (by assumption) rfl rfl (by assumption) (by assumption) (by decide)), (by first | assumption | exact ZB.put 75 (by assumption) hWz (by assumption) rfl rfl (by assumption) (by assumption) (by decide)), (by first | assumption | exact ZB.put 76 (by assumption) hWz (by assumption) rfl rfl (by assumption) (by assumption) (by decide)), (by first | assumption | exact ZB.put 77 (by assumption) hWz (by assumption) rfl rfl (by assumption) (by assumption) (by decide)), (by first | assumption | exact ZB.put 79 (by assumption) hWz (by assumption) rfl rfl (by assumption) (by assumption) (by decide)), (by first | assumption | exact ZB.put 83 (by assumption) hWz (by assumption) rfl rfl (by assumption) (by assumption) (by decide)), trivial⟩ rfl (fun i6246 Wi6246 hp6690 ih6689 => ?_)
    obtain ⟨l_i6246, u_i6246, n_i6246, w0_i6246, w1_i6246, w2_i6246, w3_i6246, w4_i6246, w5_i6246, w6_i6246, w7_i6246, w8_i6246, w9_i6246, w10_i6246, w11_i6246, w12_i6246, w13_i6246, w14_i6246, -⟩ := hp6690
    have r_i6246 : ir i6246 := ⟨by omega, by omega⟩
    show GO mX12_init K V (VX (fun K1 V1 => (K1 x = some (0, 11) ∧ vi V1 x 10 = 0 ∧ vi V1 x 47 = 0 ∧ vi V1 x 48 = 0 ∧ vi V1 x 30 = 0 ∧ vi V1 x 9 = 0 ∧ vi V1 x 2 = 0 ∧ vi V1 x 91 = 0 ∧ vi V1 x 133 = 0 ∧ vi V1 x 120 = 0 ∧ vi V1 x 66 = 0 ∧ vi V1 x 118 = 0 ∧ vi V1 x 137 = 0 ∧ vi V1 x 92 = 0 ∧ vi V1 x 3 = 120 ∧ vi V1 x 4 = 239 ∧ ZB V1 x 135 63 ∧ ZB V1 x 136 441 ∧ ZB V1 x 28 60 ∧ ZB V1 x 19 60 ∧ ZB V1 x 20 60 ∧ ZB V1 x 21 60 ∧ ZB V1 x 22 60 ∧ ZB V1 x 23 240 ∧ ZB V1 x 97 10 ∧ ZB V1 x 98 10 ∧ ZB V1 x 99 10 ∧ ZB V1 x 101 10 ∧ ZB V1 x 105 48 ∧ (MBG V1 x 8 8) ∧ (MSF V1 x) ∧ (BRF V1 x)) ∧ KE K K1 x)) K4441 Wi6246 113 19203 993 [some (.ref x), some (ti i6246)] []
    refine GO.useWT (fun hWz => ?_)
    refine GO.iload_n dX12_init_993 rfl rfl ?_
    refine GO.bipush dX12_init_994 rfl ?_
    refine GO.icmp_ge (tgt := 1013) dX12_init_996 (by decide) r_i6246 (ir_c rfl) (fun c6691 => ?_) (fun c6691 => ?_)
    ·
      refine GO.iconst dX12_init_1013 ?_
      refine GO.istore_n (ls1 := [some (.ref x), some (ti 0)]) dX12_init_1014 rfl rfl rfl ?_
      have q6693 : -2147483648 ≤ vi Wi6246 x 10 ∧ vi Wi6246 x 10 ≤ 2147483647 := vi_ir
      have q6694 : -2147483648 ≤ vi Wi6246 x 47 ∧ vi Wi6246 x 47 ≤ 2147483647 := vi_ir
      have q6695 : -2147483648 ≤ vi Wi6246 x 48 ∧ vi Wi6246 x 48 ≤ 2147483647 := vi_ir
      have q6696 : -2147483648 ≤ vi Wi6246 x 30 ∧ vi Wi6246 x 30 ≤ 2147483647 := vi_ir
      have q6697 : -2147483648 ≤ vi Wi6246 x 9 ∧ vi Wi6246 x 9 ≤ 2147483647 := vi_ir
      have q6698 : -2147483648 ≤ vi Wi6246 x 2 ∧ vi Wi6246 x 2 ≤ 2147483647 := vi_ir
      have q6699 : -2147483648 ≤ vi Wi6246 x 91 ∧ vi Wi6246 x 91 ≤ 2147483647 := vi_ir
      have q6700 : -2147483648 ≤ vi Wi6246 x 133 ∧ vi Wi6246 x 133 ≤ 2147483647 := vi_ir
      have q6701 : -2147483648 ≤ vi Wi6246 x 120 ∧ vi Wi6246 x 120 ≤ 2147483647 := vi_ir
      have q6702 : -2147483648 ≤ vi Wi6246 x 66 ∧ vi Wi6246 x 66 ≤ 2147483647 := vi_ir
      have q6703 : -2147483648 ≤ vi Wi6246 x 118 ∧ vi Wi6246 x 118 ≤ 2147483647 := vi_ir
      have q6704 : -2147483648 ≤ vi Wi6246 x 137 ∧ vi Wi6246 x 137 ≤ 2147483647 := vi_ir
      have q6705 : -2147483648 ≤ vi Wi6246 x 92 ∧ vi Wi6246 x 92 ≤ 2147483647 := vi_ir
      have q6706 : -2147483648 ≤ vi Wi6246 x 3 ∧ vi Wi6246 x 3 ≤ 2147483647 := vi_ir
      have q6707 : -2147483648 ≤ vi Wi6246 x 4 ∧ vi Wi6246 x 4 ≤ 2147483647 := vi_ir
      refine GO.loop1 (fun i6692 W => 0 ≤ i6692 ∧ i6692 ≤ 24 ∧ (vi W x 10 = 0 ∧ vi W x 47 = 0 ∧ vi W x 48 = 0 ∧ vi W x 30 = 0 ∧ vi W x 9 = 0 ∧ vi W x 2 = 0 ∧ vi W x 91 = 0 ∧ vi W x 133 = 0 ∧ vi W x 120 = 0 ∧ vi W x 66 = 0 ∧ vi W x 118 = 0 ∧ vi W x 137 = 0 ∧ vi W x 92 = 0 ∧ vi W x 3 = 120 ∧ vi W x 4 = 239) ∧ (ZB W x 135 63) ∧ (ZB W x 136 441) ∧ (ZB W x 28 60) ∧ (MBG W x 8 8) ∧ (MSF W x) ∧ (ZB W x 19 60) ∧ (ZB W x 20 60) ∧ (ZB W x 21 60) ∧ (ZB W x 22 60) ∧ (ZB W x 23 240) ∧ (ZB W x 97 10) ∧ (ZB W x 98 10) ∧ (ZB W x 99 10) ∧ (ZB W x 101 10) ∧ (ZB W x 105 48) ∧ True) (fun i6692 => [some (.ref x), some (ti i6692)]) (fun i6692 W => (2147483647 - i6692).toNat) 0 ⟨by omega, by omega, by omega, (by first | assumption | exact ZB.put 109 (by assumption) hWz (by assumption) rfl rfl (by assumption) (by assumption) (by decide)), (by first | assumption | exact ZB.put 110 (by assumption) hWz (by assumption) rfl rfl (by assumption) (by assumption) (by decide)), (by first | assumption | exact ZB.put 30 (by assumption) hWz (by assumption) rfl rfl (by assumption) (by assumption) (by decide)), (by first | assumption | exact MBG.put (by assumption) hWz (by assumption) (by assumption) (by assumption) (by decide)), (by first | assumption | exact MSJ.fin hms (by omega) | exact MSF.put (by assumption) hWz (by assumption) (by assumption) (by assumption) (by first | decide | exact ⟨by decide, Or.inl (by decide)⟩)), (by first | assumption | exact ZB.put 21 (by assumption) hWz (by assumption) rfl rfl (by assumption) (by assumption) (by decide)), (by first | assumption | exact ZB.put 22 (by assumption) hWz (by assumption) rfl rfl (by assumption) (by assumption) (by decide)), (by first | assumption | exact ZB.put 23 (by assumption) hWz (by assumption) rfl rfl (by assumption) (by assumption) (by decide)), (by first | assumption | exact ZB.put 24 (by assumption) hWz (by assumption) rfl rfl (by assumption) (by assumption) (by decide)), (by first | assumption | exact ZB.put 25 (by assumption) hWz (by assumption) rfl rfl (by assumption) (by assumption) (by decide)), (by first | assumption | exact ZB.put 75 (by assumption) hWz (by assumption) rfl rfl (by assumption) (by assumption) (by decide)), (by first | assumption | exact ZB.put 76 (by assumption) hWz (by assumption) rfl rfl (by assumption) (by assumption) (by decide)), (by first | assumption | exact ZB.put 77 (by assumption) hWz (by assumption) rfl rfl (by assumption) (by assumption) (by decide)), (by first | assumption | exact ZB.put 79 (by assumption) hWz (by assumption) rfl rfl (by assumption) (by assumption) (by decide)), (by first | assumption | exact ZB.put 83 (by assumption) hWz (by assumption) rfl rfl (by assumption) (by assumption) (by decide)), trivial⟩ rfl (fun i6692 Wi6692 hp6950 ih6949 => ?_)
      obtain ⟨l_i6692, u_i6692, n_i6692, w0_i6692, w1_i6692, w2_i6692, w3_i6692, w4_i6692, w5_i6692, w6_i6692, w7_i6692, w8_i6692, w9_i6692, w10_i6692, w11_i6692, w12_i6692, w13_i6692, w14_i6692, -⟩ := hp6950
      have r_i6692 : ir i6692 := ⟨by omega, by omega⟩
      show GO mX12_init K V (VX (fun K1 V1 => (K1 x = some (0, 11) ∧ vi V1 x 10 = 0 ∧ vi V1 x 47 = 0 ∧ vi V1 x 48 = 0 ∧ vi V1 x 30 = 0 ∧ vi V1 x 9 = 0 ∧ vi V1 x 2 = 0 ∧ vi V1 x 91 = 0 ∧ vi V1 x 133 = 0 ∧ vi V1 x 120 = 0 ∧ vi V1 x 66 = 0 ∧ vi V1 x 118 = 0 ∧ vi V1 x 137 = 0 ∧ vi V1 x 92 = 0 ∧ vi V1 x 3 = 120 ∧ vi V1 x 4 = 239 ∧ ZB V1 x 135 63 ∧ ZB V1 x 136 441 ∧ ZB V1 x 28 60 ∧ ZB V1 x 19 60 ∧ ZB V1 x 20 60 ∧ ZB V1 x 21 60 ∧ ZB V1 x 22 60 ∧ ZB V1 x 23 240 ∧ ZB V1 x 97 10 ∧ ZB V1 x 98 10 ∧ ZB V1 x 99 10 ∧ ZB V1 x 101 10 ∧ ZB V1 x 105 48 ∧ (MBG V1 x 8 8) ∧ (MSF V1 x) ∧ (BRF V1 x)) ∧ KE K K1 x)) K4441 Wi6692 113 19203 1015 [some (.ref x), some (ti i6692)] []
      refine GO.useWT (fun hWz => ?_)
      refine GO.iload_n dX12_init_1015 rfl rfl ?_
      refine GO.bipush dX12_init_1016 rfl ?_
      refine GO.icmp_ge (tgt := 1036) dX12_init_1018 (by decide) r_i6692 (ir_c rfl) (fun c6951 => ?_) (fun c6951 => ?_)
      ·
        refine GO.iconst dX12_init_1036 ?_
        refine GO.istore_n (ls1 := [some (.ref x), some (ti 0)]) dX12_init_1037 rfl rfl rfl ?_
        have q6953 : -2147483648 ≤ vi Wi6692 x 10 ∧ vi Wi6692 x 10 ≤ 2147483647 := vi_ir
        have q6954 : -2147483648 ≤ vi Wi6692 x 47 ∧ vi Wi6692 x 47 ≤ 2147483647 := vi_ir
        have q6955 : -2147483648 ≤ vi Wi6692 x 48 ∧ vi Wi6692 x 48 ≤ 2147483647 := vi_ir
        have q6956 : -2147483648 ≤ vi Wi6692 x 30 ∧ vi Wi6692 x 30 ≤ 2147483647 := vi_ir
        have q6957 : -2147483648 ≤ vi Wi6692 x 9 ∧ vi Wi6692 x 9 ≤ 2147483647 := vi_ir
        have q6958 : -2147483648 ≤ vi Wi6692 x 2 ∧ vi Wi6692 x 2 ≤ 2147483647 := vi_ir
        have q6959 : -2147483648 ≤ vi Wi6692 x 91 ∧ vi Wi6692 x 91 ≤ 2147483647 := vi_ir
        have q6960 : -2147483648 ≤ vi Wi6692 x 133 ∧ vi Wi6692 x 133 ≤ 2147483647 := vi_ir
        have q6961 : -2147483648 ≤ vi Wi6692 x 120 ∧ vi Wi6692 x 120 ≤ 2147483647 := vi_ir
        have q6962 : -2147483648 ≤ vi Wi6692 x 66 ∧ vi Wi6692 x 66 ≤ 2147483647 := vi_ir
        have q6963 : -2147483648 ≤ vi Wi6692 x 118 ∧ vi Wi6692 x 118 ≤ 2147483647 := vi_ir
        have q6964 : -2147483648 ≤ vi Wi6692 x 137 ∧ vi Wi6692 x 137 ≤ 2147483647 := vi_ir
        have q6965 : -2147483648 ≤ vi Wi6692 x 92 ∧ vi Wi6692 x 92 ≤ 2147483647 := vi_ir
        have q6966 : -2147483648 ≤ vi Wi6692 x 3 ∧ vi Wi6692 x 3 ≤ 2147483647 := vi_ir
        have q6967 : -2147483648 ≤ vi Wi6692 x 4 ∧ vi Wi6692 x 4 ≤ 2147483647 := vi_ir
        refine GO.loop1 (fun i6952 W => 0 ≤ i6952 ∧ i6952 ≤ 600 ∧ (vi W x 10 = 0 ∧ vi W x 47 = 0 ∧ vi W x 48 = 0 ∧ vi W x 30 = 0 ∧ vi W x 9 = 0 ∧ vi W x 2 = 0 ∧ vi W x 91 = 0 ∧ vi W x 133 = 0 ∧ vi W x 120 = 0 ∧ vi W x 66 = 0 ∧ vi W x 118 = 0 ∧ vi W x 137 = 0 ∧ vi W x 92 = 0 ∧ vi W x 3 = 120 ∧ vi W x 4 = 239) ∧ (ZB W x 135 63) ∧ (ZB W x 136 441) ∧ (ZB W x 28 60) ∧ (MBG W x 8 8) ∧ (MSF W x) ∧ (ZB W x 19 60) ∧ (ZB W x 20 60) ∧ (ZB W x 21 60) ∧ (ZB W x 22 60) ∧ (ZB W x 23 240) ∧ (ZB W x 97 10) ∧ (ZB W x 98 10) ∧ (ZB W x 99 10) ∧ (ZB W x 101 10) ∧ (ZB W x 105 48) ∧ (BRJ W x i6952) ∧ True) (fun i6952 => [some (.ref x), some (ti i6952)]) (fun i6952 W => (2147483647 - i6952).toNat) 0 ⟨by omega, by omega, by omega, (by first | assumption | exact ZB.put 109 (by assumption) hWz (by assumption) rfl rfl (by assumption) (by assumption) (by decide)), (by first | assumption | exact ZB.put 110 (by assumption) hWz (by assumption) rfl rfl (by assumption) (by assumption) (by decide)), (by first | assumption | exact ZB.put 30 (by assumption) hWz (by assumption) rfl rfl (by assumption) (by assumption) (by decide)), (by first | assumption | exact MBG.put (by assumption) hWz (by assumption) (by assumption) (by assumption) (by decide)), (by first | assumption | exact MSJ.fin hms (by omega) | exact MSF.put (by assumption) hWz (by assumption) (by assumption) (by assumption) (by first | decide | exact ⟨by decide, Or.inl (by decide)⟩)), (by first | assumption | exact ZB.put 21 (by assumption) hWz (by assumption) rfl rfl (by assumption) (by assumption) (by decide)), (by first | assumption | exact ZB.put 22 (by assumption) hWz (by assumption) rfl rfl (by assumption) (by assumption) (by decide)), (by first | assumption | exact ZB.put 23 (by assumption) hWz (by assumption) rfl rfl (by assumption) (by assumption) (by decide)), (by first | assumption | exact ZB.put 24 (by assumption) hWz (by assumption) rfl rfl (by assumption) (by assumption) (by decide)), (by first | assumption | exact ZB.put 25 (by assumption) hWz (by assumption) rfl rfl (by assumption) (by assumption) (by decide)), (by first | assumption | exact ZB.put 75 (by assumption) hWz (by assumption) rfl rfl (by assumption) (by assumption) (by decide)), (by first | assumption | exact ZB.put 76 (by assumption) hWz (by assumption) rfl rfl (by assumption) (by assumption) (by decide)), (by first | assumption | exact ZB.put 77 (by assumption) hWz (by assumption) rfl rfl (by assumption) (by assumption) (by decide)), (by first | assumption | exact ZB.put 79 (by assumption) hWz (by assumption) rfl rfl (by assumption) (by assumption) (by decide)), (by first | assumption | exact ZB.put 83 (by assumption) hWz (by assumption) rfl rfl (by assumption) (by assumption) (by decide)), (by first | exact BRJ.beg), trivial⟩ rfl (fun i6952 Wi6952 hp7014 ih7013 => ?_)
        obtain ⟨l_i6952, u_i6952, n_i6952, w0_i6952, w1_i6952, w2_i6952, w3_i6952, w4_i6952, w5_i6952, w6_i6952, w7_i6952, w8_i6952, w9_i6952, w10_i6952, w11_i6952, w12_i6952, w13_i6952, w14_i6952, hbj, -⟩ := hp7014
        have r_i6952 : ir i6952 := ⟨by omega, by omega⟩
        show GO mX12_init K V (VX (fun K1 V1 => (K1 x = some (0, 11) ∧ vi V1 x 10 = 0 ∧ vi V1 x 47 = 0 ∧ vi V1 x 48 = 0 ∧ vi V1 x 30 = 0 ∧ vi V1 x 9 = 0 ∧ vi V1 x 2 = 0 ∧ vi V1 x 91 = 0 ∧ vi V1 x 133 = 0 ∧ vi V1 x 120 = 0 ∧ vi V1 x 66 = 0 ∧ vi V1 x 118 = 0 ∧ vi V1 x 137 = 0 ∧ vi V1 x 92 = 0 ∧ vi V1 x 3 = 120 ∧ vi V1 x 4 = 239 ∧ ZB V1 x 135 63 ∧ ZB V1 x 136 441 ∧ ZB V1 x 28 60 ∧ ZB V1 x 19 60 ∧ ZB V1 x 20 60 ∧ ZB V1 x 21 60 ∧ ZB V1 x 22 60 ∧ ZB V1 x 23 240 ∧ ZB V1 x 97 10 ∧ ZB V1 x 98 10 ∧ ZB V1 x 99 10 ∧ ZB V1 x 101 10 ∧ ZB V1 x 105 48 ∧ (MBG V1 x 8 8) ∧ (MSF V1 x) ∧ (BRF V1 x)) ∧ KE K K1 x)) K4441 Wi6952 113 19203 1038 [some (.ref x), some (ti i6952)] []
        refine GO.useWT (fun hWz => ?_)
        refine GO.iload_n dX12_init_1038 rfl rfl ?_
        refine GO.sipush dX12_init_1039 rfl ?_
        refine GO.icmp_ge (tgt := 1058) dX12_init_1042 (by decide) r_i6952 (ir_c rfl) (fun c7015 => ?_) (fun c7015 => ?_)
        ·
          have hbf : BRF Wi6952 x := BRJ.fin hbj (by omega)
          exact GO.retv rfl rfl dX12_init_1058 ⟨rfl, ⟨h4444, by omega, by omega, by omega, by omega, by omega, by omega, by omega, by omega, by omega, by omega, by omega, by omega, by omega, by omega, by omega, (by assumption), (by assumption), (by assumption), (by assumption), (by assumption), (by assumption), (by assumption), (by assumption), (by assumption), (by assumption), (by assumption), (by assumption), (by assumption), (by assumption), (by assumption), (by assumption)⟩, (KE.promote (KE.new (KE.new (KE.new (KE.new (KE.new (KE.new (KE.new (KE.new (KE.new (KE.new (KE.new (KE.new (KE.new (KE.new (KE.new (KE.new (KE.new (KE.new (KE.new (KE.new (KE.new (KE.new (KE.new (KE.new (KE.new (KE.new (KE.new (KE.new (KE.new (KE.new (KE.new (KE.new (KE.new (KE.new (KE.new (KE.new (KE.new (KE.new (KE.new (KE.new (KE.new (KE.new (KE.new (KE.new (KE.new (KE.new (KE.new (KE.new (KE.new (KE.new (KE.new (KE.new (KE.new (KE.new (KE.new (KE.new (KE.new (KE.new (KE.new (KE.new (KE.new (KE.new (KE.new (KE.new (KE.new (KE.new (KE.new (KE.new (KE.new (KE.new (KE.new (KE.new (KE.new (KE.new (KE.new (KE.new (KE.new (KE.new (KE.new (KE.new (KE.new (KE.new (KE.new (KE.new (KE.new (KE.new (KE.new (KE.new (KE.new (KE.new (KE.new (KE.new (KE.new (KE.new (KE.new (KE.new (KE.new (KE.new (KE.new (KE.new (KE.new (KE.new (KE.new (KE.new (KE.new (KE.new (KE.new (KE.new (KE.new (KE.new (KE.new (KE.new (KE.new KE.rf hq10 hK11) hq25 hK26) hq40 hK41) hq55 hK56) hq70 hK71) hq85 hK86) hq100 hK101) hq115 hK116) hq130 hK131) hq145 hK146) hq160 hK161) hq175 hK176) hq190 hK191) hq207 hK208) hq227 hK228) hq250 hK251) hq276 hK277) hq305 hK306) hq335 hK336) hq365 hK366) hq395 hK396) hq425 hK426) hq457 hK458) hq490 hK491) hq523 hK524) hq556 hK557) hq589 hK590) hq622 hK623) hq655 hK656) hq688 hK689) hq721 hK722) hq754 hK755) hq787 hK788) hq820 hK821) hq853 hK854) hq886 hK887) hq919 hK920) hq952 hK953) hq985 hK986) hq1018 hK1019) hq1051 hK1052) hq1084 hK1085) hq1117 hK1118) hq1150 hK1151) hq1183 hK1184) hq1216 hK1217) hq1249 hK1250) hq1282 hK1283) hq1315 hK1316) hq1348 hK1349) hq1381 hK1382) hq1414 hK1415) hq1447 hK1448) hq1480 hK1481) hq1513 hK1514) hq1546 hK1547) hq1579 hK1580) hq1612 hK1613) hq1645 hK1646) hq1678 hK1679) hq1711 hK1712) hq1744 hK1745) hq1777 hK1778) hq1810 hK1811) hq1843 hK1844) hq1876 hK1877) hq1909 hK1910) hq1944 hK1945) hq1982 hK1983) hq2023 hK2024) hq2065 hK2066) hq2109 hK2110) hq2154 hK2155) hq2199 hK2200) hq2244 hK2245) hq2291 hK2292) hq2339 hK2340) hq2387 hK2388) hq2435 hK2436) hq2483 hK2484) hq2531 hK2532) hq2579 hK2580) hq2627 hK2628) hq2675 hK2676) hq2723 hK2724) hq2771 hK2772) hq2819 hK2820) hq2881 hK2882) hq2929 hK2930) hq2977 hK2978) hq3025 hK3026) hq3073 hK3074) hq3121 hK3122) hq3169 hK3170) hq3217 hK3218) hq3265 hK3266) hq3313 hK3314) hq3361 hK3362) hq3409 hK3410) hq3457 hK3458) hq3505 hK3506) hq3555 hK3556) hq3608 hK3609) hq3662 hK3663) hq3716 hK3717) hq3770 hK3771) hq3824 hK3825) hq3878 hK3879) hq3932 hK3933) hq3986 hK3987) hq4040 hK4041) hq4094 hK4095) hq4148 hK4149) e4442)⟩
        ·
          refine GO.aload_n dX12_init_1045 rfl rfl ?_
          refine GO.getA (n := 600) h4444 fl_RX12_77 rfl rfl rfl rfl dX12_init_1046 (fun hv7017 h7016 => ?_)
          refine GO.iload_n dX12_init_1049 rfl rfl ?_
          refine GO.iconst dX12_init_1050 ?_
          refine GO.iast (t := 29) rfl rfl (by decide +kernel) h7016 r_i6952 (by omega) (by omega) (ir_c rfl) (by decide) (by decide) dX12_init_1051 (fun V7019 e7018 => ?_)
          refine GO.iinc (X := i6952) (n := 1) (Y := i6952 + 1) (ls1 := [some (.ref x), some (ti (i6952 + 1))]) dX12_init_1052 rfl rfl rfl rfl ?_
          refine GO.goto (tgt := 1038) dX12_init_1055 (by decide) ?_
          have e7020 : vi V7019 x 10 = vi Wi6952 x 10 := vi_up e7018 (Or.inl (K_ne h4444 h7016 (by decide)))
          have q7021 : -2147483648 ≤ vi Wi6952 x 10 ∧ vi Wi6952 x 10 ≤ 2147483647 := vi_ir
          have e7022 : vi V7019 x 47 = vi Wi6952 x 47 := vi_up e7018 (Or.inl (K_ne h4444 h7016 (by decide)))
          have q7023 : -2147483648 ≤ vi Wi6952 x 47 ∧ vi Wi6952 x 47 ≤ 2147483647 := vi_ir
          have e7024 : vi V7019 x 48 = vi Wi6952 x 48 := vi_up e7018 (Or.inl (K_ne h4444 h7016 (by decide)))
          have q7025 : -2147483648 ≤ vi Wi6952 x 48 ∧ vi Wi6952 x 48 ≤ 2147483647 := vi_ir
          have e7026 : vi V7019 x 30 = vi Wi6952 x 30 := vi_up e7018 (Or.inl (K_ne h4444 h7016 (by decide)))
          have q7027 : -2147483648 ≤ vi Wi6952 x 30 ∧ vi Wi6952 x 30 ≤ 2147483647 := vi_ir
          have e7028 : vi V7019 x 9 = vi Wi6952 x 9 := vi_up e7018 (Or.inl (K_ne h4444 h7016 (by decide)))
          have q7029 : -2147483648 ≤ vi Wi6952 x 9 ∧ vi Wi6952 x 9 ≤ 2147483647 := vi_ir
          have e7030 : vi V7019 x 2 = vi Wi6952 x 2 := vi_up e7018 (Or.inl (K_ne h4444 h7016 (by decide)))
          have q7031 : -2147483648 ≤ vi Wi6952 x 2 ∧ vi Wi6952 x 2 ≤ 2147483647 := vi_ir
          have e7032 : vi V7019 x 91 = vi Wi6952 x 91 := vi_up e7018 (Or.inl (K_ne h4444 h7016 (by decide)))
          have q7033 : -2147483648 ≤ vi Wi6952 x 91 ∧ vi Wi6952 x 91 ≤ 2147483647 := vi_ir
          have e7034 : vi V7019 x 133 = vi Wi6952 x 133 := vi_up e7018 (Or.inl (K_ne h4444 h7016 (by decide)))
          have q7035 : -2147483648 ≤ vi Wi6952 x 133 ∧ vi Wi6952 x 133 ≤ 2147483647 := vi_ir
          have e7036 : vi V7019 x 120 = vi Wi6952 x 120 := vi_up e7018 (Or.inl (K_ne h4444 h7016 (by decide)))
          have q7037 : -2147483648 ≤ vi Wi6952 x 120 ∧ vi Wi6952 x 120 ≤ 2147483647 := vi_ir
          have e7038 : vi V7019 x 66 = vi Wi6952 x 66 := vi_up e7018 (Or.inl (K_ne h4444 h7016 (by decide)))
          have q7039 : -2147483648 ≤ vi Wi6952 x 66 ∧ vi Wi6952 x 66 ≤ 2147483647 := vi_ir
          have e7040 : vi V7019 x 118 = vi Wi6952 x 118 := vi_up e7018 (Or.inl (K_ne h4444 h7016 (by decide)))
          have q7041 : -2147483648 ≤ vi Wi6952 x 118 ∧ vi Wi6952 x 118 ≤ 2147483647 := vi_ir
          have e7042 : vi V7019 x 137 = vi Wi6952 x 137 := vi_up e7018 (Or.inl (K_ne h4444 h7016 (by decide)))
          have q7043 : -2147483648 ≤ vi Wi6952 x 137 ∧ vi Wi6952 x 137 ≤ 2147483647 := vi_ir
          have e7044 : vi V7019 x 92 = vi Wi6952 x 92 := vi_up e7018 (Or.inl (K_ne h4444 h7016 (by decide)))
          have q7045 : -2147483648 ≤ vi Wi6952 x 92 ∧ vi Wi6952 x 92 ≤ 2147483647 := vi_ir
          have e7046 : vi V7019 x 3 = vi Wi6952 x 3 := vi_up e7018 (Or.inl (K_ne h4444 h7016 (by decide)))
          have q7047 : -2147483648 ≤ vi Wi6952 x 3 ∧ vi Wi6952 x 3 ≤ 2147483647 := vi_ir
          have e7048 : vi V7019 x 4 = vi Wi6952 x 4 := vi_up e7018 (Or.inl (K_ne h4444 h7016 (by decide)))
          have q7049 : -2147483648 ≤ vi Wi6952 x 4 ∧ vi Wi6952 x 4 ≤ 2147483647 := vi_ir
          exact ih7013 (i6952 + 1) V7019 ⟨by omega, by omega, by omega, (by first | assumption | exact ZB.put 109 (by assumption) hWz (by assumption) rfl rfl (by assumption) (by assumption) (by decide)), (by first | assumption | exact ZB.put 110 (by assumption) hWz (by assumption) rfl rfl (by assumption) (by assumption) (by decide)), (by first | assumption | exact ZB.put 30 (by assumption) hWz (by assumption) rfl rfl (by assumption) (by assumption) (by decide)), (by first | assumption | exact MBG.put (by assumption) hWz (by assumption) (by assumption) (by assumption) (by decide)), (by first | assumption | exact MSJ.fin hms (by omega) | exact MSF.put (by assumption) hWz (by assumption) (by assumption) (by assumption) (by first | decide | exact ⟨by decide, Or.inl (by decide)⟩)), (by first | assumption | exact ZB.put 21 (by assumption) hWz (by assumption) rfl rfl (by assumption) (by assumption) (by decide)), (by first | assumption | exact ZB.put 22 (by assumption) hWz (by assumption) rfl rfl (by assumption) (by assumption) (by decide)), (by first | assumption | exact ZB.put 23 (by assumption) hWz (by assumption) rfl rfl (by assumption) (by assumption) (by decide)), (by first | assumption | exact ZB.put 24 (by assumption) hWz (by assumption) rfl rfl (by assumption) (by assumption) (by decide)), (by first | assumption | exact ZB.put 25 (by assumption) hWz (by assumption) rfl rfl (by assumption) (by assumption) (by decide)), (by first | assumption | exact ZB.put 75 (by assumption) hWz (by assumption) rfl rfl (by assumption) (by assumption) (by decide)), (by first | assumption | exact ZB.put 76 (by assumption) hWz (by assumption) rfl rfl (by assumption) (by assumption) (by decide)), (by first | assumption | exact ZB.put 77 (by assumption) hWz (by assumption) rfl rfl (by assumption) (by assumption) (by decide)), (by first | assumption | exact ZB.put 79 (by assumption) hWz (by assumption) rfl rfl (by assumption) (by assumption) (by decide)), (by first | assumption | exact ZB.put 83 (by assumption) hWz (by assumption) rfl rfl (by assumption) (by assumption) (by decide)), (by first | exact BRJ.beg | exact BRJ.step hbj hWz (by assumption) (by assumption) (by omega) (by omega)), trivial⟩ (by show (2147483647 - (i6952 + 1)).toNat < (2147483647 - i6952).toNat; omega)
      ·
        refine GO.aload_n dX12_init_1021 rfl rfl ?_
        refine GO.getA (n := 24) h4444 fl_RX12_337 rfl rfl rfl rfl dX12_init_1022 (fun hv7051 h7050 => ?_)
        refine GO.iload_n dX12_init_1025 rfl rfl ?_
        refine GO.sipush dX12_init_1026 rfl ?_
        refine GO.iast (t := 114) rfl rfl (by decide +kernel) h7050 r_i6692 (by omega) (by omega) (ir_c rfl) (by decide) (by decide) dX12_init_1029 (fun V7053 e7052 => ?_)
        refine GO.iinc (X := i6692) (n := 1) (Y := i6692 + 1) (ls1 := [some (.ref x), some (ti (i6692 + 1))]) dX12_init_1030 rfl rfl rfl rfl ?_
        refine GO.goto (tgt := 1015) dX12_init_1033 (by decide) ?_
        have e7054 : vi V7053 x 10 = vi Wi6692 x 10 := vi_up e7052 (Or.inl (K_ne h4444 h7050 (by decide)))
        have q7055 : -2147483648 ≤ vi Wi6692 x 10 ∧ vi Wi6692 x 10 ≤ 2147483647 := vi_ir
        have e7056 : vi V7053 x 47 = vi Wi6692 x 47 := vi_up e7052 (Or.inl (K_ne h4444 h7050 (by decide)))
        have q7057 : -2147483648 ≤ vi Wi6692 x 47 ∧ vi Wi6692 x 47 ≤ 2147483647 := vi_ir
        have e7058 : vi V7053 x 48 = vi Wi6692 x 48 := vi_up e7052 (Or.inl (K_ne h4444 h7050 (by decide)))
        have q7059 : -2147483648 ≤ vi Wi6692 x 48 ∧ vi Wi6692 x 48 ≤ 2147483647 := vi_ir
        have e7060 : vi V7053 x 30 = vi Wi6692 x 30 := vi_up e7052 (Or.inl (K_ne h4444 h7050 (by decide)))
        have q7061 : -2147483648 ≤ vi Wi6692 x 30 ∧ vi Wi6692 x 30 ≤ 2147483647 := vi_ir
        have e7062 : vi V7053 x 9 = vi Wi6692 x 9 := vi_up e7052 (Or.inl (K_ne h4444 h7050 (by decide)))
        have q7063 : -2147483648 ≤ vi Wi6692 x 9 ∧ vi Wi6692 x 9 ≤ 2147483647 := vi_ir
        have e7064 : vi V7053 x 2 = vi Wi6692 x 2 := vi_up e7052 (Or.inl (K_ne h4444 h7050 (by decide)))
        have q7065 : -2147483648 ≤ vi Wi6692 x 2 ∧ vi Wi6692 x 2 ≤ 2147483647 := vi_ir
        have e7066 : vi V7053 x 91 = vi Wi6692 x 91 := vi_up e7052 (Or.inl (K_ne h4444 h7050 (by decide)))
        have q7067 : -2147483648 ≤ vi Wi6692 x 91 ∧ vi Wi6692 x 91 ≤ 2147483647 := vi_ir
        have e7068 : vi V7053 x 133 = vi Wi6692 x 133 := vi_up e7052 (Or.inl (K_ne h4444 h7050 (by decide)))
        have q7069 : -2147483648 ≤ vi Wi6692 x 133 ∧ vi Wi6692 x 133 ≤ 2147483647 := vi_ir
        have e7070 : vi V7053 x 120 = vi Wi6692 x 120 := vi_up e7052 (Or.inl (K_ne h4444 h7050 (by decide)))
        have q7071 : -2147483648 ≤ vi Wi6692 x 120 ∧ vi Wi6692 x 120 ≤ 2147483647 := vi_ir
        have e7072 : vi V7053 x 66 = vi Wi6692 x 66 := vi_up e7052 (Or.inl (K_ne h4444 h7050 (by decide)))
        have q7073 : -2147483648 ≤ vi Wi6692 x 66 ∧ vi Wi6692 x 66 ≤ 2147483647 := vi_ir
        have e7074 : vi V7053 x 118 = vi Wi6692 x 118 := vi_up e7052 (Or.inl (K_ne h4444 h7050 (by decide)))
        have q7075 : -2147483648 ≤ vi Wi6692 x 118 ∧ vi Wi6692 x 118 ≤ 2147483647 := vi_ir
        have e7076 : vi V7053 x 137 = vi Wi6692 x 137 := vi_up e7052 (Or.inl (K_ne h4444 h7050 (by decide)))
        have q7077 : -2147483648 ≤ vi Wi6692 x 137 ∧ vi Wi6692 x 137 ≤ 2147483647 := vi_ir
        have e7078 : vi V7053 x 92 = vi Wi6692 x 92 := vi_up e7052 (Or.inl (K_ne h4444 h7050 (by decide)))
        have q7079 : -2147483648 ≤ vi Wi6692 x 92 ∧ vi Wi6692 x 92 ≤ 2147483647 := vi_ir
        have e7080 : vi V7053 x 3 = vi Wi6692 x 3 := vi_up e7052 (Or.inl (K_ne h4444 h7050 (by decide)))
        have q7081 : -2147483648 ≤ vi Wi6692 x 3 ∧ vi Wi6692 x 3 ≤ 2147483647 := vi_ir
        have e7082 : vi V7053 x 4 = vi Wi6692 x 4 := vi_up e7052 (Or.inl (K_ne h4444 h7050 (by decide)))
        have q7083 : -2147483648 ≤ vi Wi6692 x 4 ∧ vi Wi6692 x 4 ≤ 2147483647 := vi_ir
        exact ih6949 (i6692 + 1) V7053 ⟨by omega, by omega, by omega, (by first | assumption | exact ZB.put 109 (by assumption) hWz (by assumption) rfl rfl (by assumption) (by assumption) (by decide)), (by first | assumption | exact ZB.put 110 (by assumption) hWz (by assumption) rfl rfl (by assumption) (by assumption) (by decide)), (by first | assumption | exact ZB.put 30 (by assumption) hWz (by assumption) rfl rfl (by assumption) (by assumption) (by decide)), (by first | assumption | exact MBG.put (by assumption) hWz (by assumption) (by assumption) (by assumption) (by decide)), (by first | assumption | exact MSJ.fin hms (by omega) | exact MSF.put (by assumption) hWz (by assumption) (by assumption) (by assumption) (by first | decide | exact ⟨by decide, Or.inl (by decide)⟩)), (by first | assumption | exact ZB.put 21 (by assumption) hWz (by assumption) rfl rfl (by assumption) (by assumption) (by decide)), (by first | assumption | exact ZB.put 22 (by assumption) hWz (by assumption) rfl rfl (by assumption) (by assumption) (by decide)), (by first | assumption | exact ZB.put 23 (by assumption) hWz (by assumption) rfl rfl (by assumption) (by assumption) (by decide)), (by first | assumption | exact ZB.put 24 (by assumption) hWz (by assumption) rfl rfl (by assumption) (by assumption) (by decide)), (by first | assumption | exact ZB.put 25 (by assumption) hWz (by assumption) rfl rfl (by assumption) (by assumption) (by decide)), (by first | assumption | exact ZB.put 75 (by assumption) hWz (by assumption) rfl rfl (by assumption) (by assumption) (by decide)), (by first | assumption | exact ZB.put 76 (by assumption) hWz (by assumption) rfl rfl (by assumption) (by assumption) (by decide)), (by first | assumption | exact ZB.put 77 (by assumption) hWz (by assumption) rfl rfl (by assumption) (by assumption) (by decide)), (by first | assumption | exact ZB.put 79 (by assumption) hWz (by assumption) rfl rfl (by assumption) (by assumption) (by decide)), (by first | assumption | exact ZB.put 83 (by assumption) hWz (by assumption) rfl rfl (by assumption) (by assumption) (by decide)), trivial⟩ (by show (2147483647 - (i6692 + 1)).toNat < (2147483647 - i6692).toNat; omega)
    ·
      refine GO.aload_n dX12_init_999 rfl rfl ?_
      refine GO.getA (n := 10) h4444 fl_RX12_301 rfl rfl rfl rfl dX12_init_1000 (fun hv7085 h7084 => ?_)
      refine GO.iload_n dX12_init_1003 rfl rfl ?_
      refine GO.bipush dX12_init_1004 rfl ?_
      refine GO.iast (t := 102) rfl rfl (by decide +kernel) h7084 r_i6246 (by omega) (by omega) (ir_c rfl) (by decide) (by decide) dX12_init_1006 (fun V7087 e7086 => ?_)
      refine GO.iinc (X := i6246) (n := 1) (Y := i6246 + 1) (ls1 := [some (.ref x), some (ti (i6246 + 1))]) dX12_init_1007 rfl rfl rfl rfl ?_
      refine GO.goto (tgt := 993) dX12_init_1010 (by decide) ?_
      have e7088 : vi V7087 x 10 = vi Wi6246 x 10 := vi_up e7086 (Or.inl (K_ne h4444 h7084 (by decide)))
      have q7089 : -2147483648 ≤ vi Wi6246 x 10 ∧ vi Wi6246 x 10 ≤ 2147483647 := vi_ir
      have e7090 : vi V7087 x 47 = vi Wi6246 x 47 := vi_up e7086 (Or.inl (K_ne h4444 h7084 (by decide)))
      have q7091 : -2147483648 ≤ vi Wi6246 x 47 ∧ vi Wi6246 x 47 ≤ 2147483647 := vi_ir
      have e7092 : vi V7087 x 48 = vi Wi6246 x 48 := vi_up e7086 (Or.inl (K_ne h4444 h7084 (by decide)))
      have q7093 : -2147483648 ≤ vi Wi6246 x 48 ∧ vi Wi6246 x 48 ≤ 2147483647 := vi_ir
      have e7094 : vi V7087 x 30 = vi Wi6246 x 30 := vi_up e7086 (Or.inl (K_ne h4444 h7084 (by decide)))
      have q7095 : -2147483648 ≤ vi Wi6246 x 30 ∧ vi Wi6246 x 30 ≤ 2147483647 := vi_ir
      have e7096 : vi V7087 x 9 = vi Wi6246 x 9 := vi_up e7086 (Or.inl (K_ne h4444 h7084 (by decide)))
      have q7097 : -2147483648 ≤ vi Wi6246 x 9 ∧ vi Wi6246 x 9 ≤ 2147483647 := vi_ir
      have e7098 : vi V7087 x 2 = vi Wi6246 x 2 := vi_up e7086 (Or.inl (K_ne h4444 h7084 (by decide)))
      have q7099 : -2147483648 ≤ vi Wi6246 x 2 ∧ vi Wi6246 x 2 ≤ 2147483647 := vi_ir
      have e7100 : vi V7087 x 91 = vi Wi6246 x 91 := vi_up e7086 (Or.inl (K_ne h4444 h7084 (by decide)))
      have q7101 : -2147483648 ≤ vi Wi6246 x 91 ∧ vi Wi6246 x 91 ≤ 2147483647 := vi_ir
      have e7102 : vi V7087 x 133 = vi Wi6246 x 133 := vi_up e7086 (Or.inl (K_ne h4444 h7084 (by decide)))
      have q7103 : -2147483648 ≤ vi Wi6246 x 133 ∧ vi Wi6246 x 133 ≤ 2147483647 := vi_ir
      have e7104 : vi V7087 x 120 = vi Wi6246 x 120 := vi_up e7086 (Or.inl (K_ne h4444 h7084 (by decide)))
      have q7105 : -2147483648 ≤ vi Wi6246 x 120 ∧ vi Wi6246 x 120 ≤ 2147483647 := vi_ir
      have e7106 : vi V7087 x 66 = vi Wi6246 x 66 := vi_up e7086 (Or.inl (K_ne h4444 h7084 (by decide)))
      have q7107 : -2147483648 ≤ vi Wi6246 x 66 ∧ vi Wi6246 x 66 ≤ 2147483647 := vi_ir
      have e7108 : vi V7087 x 118 = vi Wi6246 x 118 := vi_up e7086 (Or.inl (K_ne h4444 h7084 (by decide)))
      have q7109 : -2147483648 ≤ vi Wi6246 x 118 ∧ vi Wi6246 x 118 ≤ 2147483647 := vi_ir
      have e7110 : vi V7087 x 137 = vi Wi6246 x 137 := vi_up e7086 (Or.inl (K_ne h4444 h7084 (by decide)))
      have q7111 : -2147483648 ≤ vi Wi6246 x 137 ∧ vi Wi6246 x 137 ≤ 2147483647 := vi_ir
      have e7112 : vi V7087 x 92 = vi Wi6246 x 92 := vi_up e7086 (Or.inl (K_ne h4444 h7084 (by decide)))
      have q7113 : -2147483648 ≤ vi Wi6246 x 92 ∧ vi Wi6246 x 92 ≤ 2147483647 := vi_ir
      have e7114 : vi V7087 x 3 = vi Wi6246 x 3 := vi_up e7086 (Or.inl (K_ne h4444 h7084 (by decide)))
      have q7115 : -2147483648 ≤ vi Wi6246 x 3 ∧ vi Wi6246 x 3 ≤ 2147483647 := vi_ir
      have e7116 : vi V7087 x 4 = vi Wi6246 x 4 := vi_up e7086 (Or.inl (K_ne h4444 h7084 (by decide)))
      have q7117 : -2147483648 ≤ vi Wi6246 x 4 ∧ vi Wi6246 x 4 ≤ 2147483647 := vi_ir
      exact ih6689 (i6246 + 1) V7087 ⟨by omega, by omega, by omega, (by first | assumption | exact ZB.put 109 (by assumption) hWz (by assumption) rfl rfl (by assumption) (by assumption) (by decide)), (by first | assumption | exact ZB.put 110 (by assumption) hWz (by assumption) rfl rfl (by assumption) (by assumption) (by decide)), (by first | assumption | exact ZB.put 30 (by assumption) hWz (by assumption) rfl rfl (by assumption) (by assumption) (by decide)), (by first | assumption | exact MBG.put (by assumption) hWz (by assumption) (by assumption) (by assumption) (by decide)), (by first | assumption | exact MSJ.fin hms (by omega) | exact MSF.put (by assumption) hWz (by assumption) (by assumption) (by assumption) (by first | decide | exact ⟨by decide, Or.inl (by decide)⟩)), (by first | assumption | exact ZB.put 21 (by assumption) hWz (by assumption) rfl rfl (by assumption) (by assumption) (by decide)), (by first | assumption | exact ZB.put 22 (by assumption) hWz (by assumption) rfl rfl (by assumption) (by assumption) (by decide)), (by first | assumption | exact ZB.put 23 (by assumption) hWz (by assumption) rfl rfl (by assumption) (by assumption) (by decide)), (by first | assumption | exact ZB.put 24 (by assumption) hWz (by assumption) rfl rfl (by assumption) (by assumption) (by decide)), (by first | assumption | exact ZB.put 25 (by assumption) hWz (by assumption) rfl rfl (by assumption) (by assumption) (by decide)), (by first | assumption | exact ZB.put 75 (by assumption) hWz (by assumption) rfl rfl (by assumption) (by assumption) (by decide)), (by first | assumption | exact ZB.put 76 (by assumption) hWz (by assumption) rfl rfl (by assumption) (by assumption) (by decide)), (by first | assumption | exact ZB.put 77 (by assumption) hWz (by assumption) rfl rfl (by assumption) (by assumption) (by decide)), (by first | assumption | exact ZB.put 79 (by assumption) hWz (by assumption) rfl rfl (by assumption) (by assumption) (by decide)), (by first | assumption | exact ZB.put 83 (by assumption) hWz (by assumption) rfl rfl (by assumption) (by assumption) (by decide)), trivial⟩ (by show (2147483647 - (i6246 + 1)).toNat < (2147483647 - i6246).toNat; omega)
  ·
    refine GO.aload_n dX12_init_977 rfl rfl ?_
    refine GO.getA (n := 4) h4444 fl_RX12_244 rfl rfl rfl rfl dX12_init_978 (fun hv7119 h7118 => ?_)
    refine GO.iload_n dX12_init_981 rfl rfl ?_
    refine GO.bipush dX12_init_982 rfl ?_
    refine GO.iast (t := 84) rfl rfl (by decide +kernel) h7118 r_i4473 (by omega) (by omega) (ir_c rfl) (by decide) (by decide) dX12_init_984 (fun V7121 e7120 => ?_)
    refine GO.iinc (X := i4473) (n := 1) (Y := i4473 + 1) (ls1 := [some (.ref x), some (ti (i4473 + 1))]) dX12_init_985 rfl rfl rfl rfl ?_
    refine GO.goto (tgt := 972) dX12_init_988 (by decide) ?_
    have e7122 : vi V7121 x 10 = vi Wi4473 x 10 := vi_up e7120 (Or.inl (K_ne h4444 h7118 (by decide)))
    have q7123 : -2147483648 ≤ vi Wi4473 x 10 ∧ vi Wi4473 x 10 ≤ 2147483647 := vi_ir
    have e7124 : vi V7121 x 47 = vi Wi4473 x 47 := vi_up e7120 (Or.inl (K_ne h4444 h7118 (by decide)))
    have q7125 : -2147483648 ≤ vi Wi4473 x 47 ∧ vi Wi4473 x 47 ≤ 2147483647 := vi_ir
    have e7126 : vi V7121 x 48 = vi Wi4473 x 48 := vi_up e7120 (Or.inl (K_ne h4444 h7118 (by decide)))
    have q7127 : -2147483648 ≤ vi Wi4473 x 48 ∧ vi Wi4473 x 48 ≤ 2147483647 := vi_ir
    have e7128 : vi V7121 x 30 = vi Wi4473 x 30 := vi_up e7120 (Or.inl (K_ne h4444 h7118 (by decide)))
    have q7129 : -2147483648 ≤ vi Wi4473 x 30 ∧ vi Wi4473 x 30 ≤ 2147483647 := vi_ir
    have e7130 : vi V7121 x 9 = vi Wi4473 x 9 := vi_up e7120 (Or.inl (K_ne h4444 h7118 (by decide)))
    have q7131 : -2147483648 ≤ vi Wi4473 x 9 ∧ vi Wi4473 x 9 ≤ 2147483647 := vi_ir
    have e7132 : vi V7121 x 2 = vi Wi4473 x 2 := vi_up e7120 (Or.inl (K_ne h4444 h7118 (by decide)))
    have q7133 : -2147483648 ≤ vi Wi4473 x 2 ∧ vi Wi4473 x 2 ≤ 2147483647 := vi_ir
    have e7134 : vi V7121 x 91 = vi Wi4473 x 91 := vi_up e7120 (Or.inl (K_ne h4444 h7118 (by decide)))
    have q7135 : -2147483648 ≤ vi Wi4473 x 91 ∧ vi Wi4473 x 91 ≤ 2147483647 := vi_ir
    have e7136 : vi V7121 x 133 = vi Wi4473 x 133 := vi_up e7120 (Or.inl (K_ne h4444 h7118 (by decide)))
    have q7137 : -2147483648 ≤ vi Wi4473 x 133 ∧ vi Wi4473 x 133 ≤ 2147483647 := vi_ir
    have e7138 : vi V7121 x 120 = vi Wi4473 x 120 := vi_up e7120 (Or.inl (K_ne h4444 h7118 (by decide)))
    have q7139 : -2147483648 ≤ vi Wi4473 x 120 ∧ vi Wi4473 x 120 ≤ 2147483647 := vi_ir
    have e7140 : vi V7121 x 66 = vi Wi4473 x 66 := vi_up e7120 (Or.inl (K_ne h4444 h7118 (by decide)))
    have q7141 : -2147483648 ≤ vi Wi4473 x 66 ∧ vi Wi4473 x 66 ≤ 2147483647 := vi_ir
    have e7142 : vi V7121 x 118 = vi Wi4473 x 118 := vi_up e7120 (Or.inl (K_ne h4444 h7118 (by decide)))
    have q7143 : -2147483648 ≤ vi Wi4473 x 118 ∧ vi Wi4473 x 118 ≤ 2147483647 := vi_ir
    have e7144 : vi V7121 x 137 = vi Wi4473 x 137 := vi_up e7120 (Or.inl (K_ne h4444 h7118 (by decide)))
    have q7145 : -2147483648 ≤ vi Wi4473 x 137 ∧ vi Wi4473 x 137 ≤ 2147483647 := vi_ir
    have e7146 : vi V7121 x 92 = vi Wi4473 x 92 := vi_up e7120 (Or.inl (K_ne h4444 h7118 (by decide)))
    have q7147 : -2147483648 ≤ vi Wi4473 x 92 ∧ vi Wi4473 x 92 ≤ 2147483647 := vi_ir
    have e7148 : vi V7121 x 3 = vi Wi4473 x 3 := vi_up e7120 (Or.inl (K_ne h4444 h7118 (by decide)))
    have q7149 : -2147483648 ≤ vi Wi4473 x 3 ∧ vi Wi4473 x 3 ≤ 2147483647 := vi_ir
    have e7150 : vi V7121 x 4 = vi Wi4473 x 4 := vi_up e7120 (Or.inl (K_ne h4444 h7118 (by decide)))
    have q7151 : -2147483648 ≤ vi Wi4473 x 4 ∧ vi Wi4473 x 4 ≤ 2147483647 := vi_ir
    exact ih6243 (i4473 + 1) V7121 ⟨by omega, by omega, by omega, (by first | assumption | exact ZB.put 109 (by assumption) hWz (by assumption) rfl rfl (by assumption) (by assumption) (by decide)), (by first | assumption | exact ZB.put 110 (by assumption) hWz (by assumption) rfl rfl (by assumption) (by assumption) (by decide)), (by first | assumption | exact ZB.put 30 (by assumption) hWz (by assumption) rfl rfl (by assumption) (by assumption) (by decide)), (by first | assumption | exact MBG.put (by assumption) hWz (by assumption) (by assumption) (by assumption) (by decide)), (by first | exact MSJ.beg | exact MSJ.step hms hWz (by assumption) (by assumption) (by omega) (by omega)), (by first | assumption | exact ZB.put 21 (by assumption) hWz (by assumption) rfl rfl (by assumption) (by assumption) (by decide)), (by first | assumption | exact ZB.put 22 (by assumption) hWz (by assumption) rfl rfl (by assumption) (by assumption) (by decide)), (by first | assumption | exact ZB.put 23 (by assumption) hWz (by assumption) rfl rfl (by assumption) (by assumption) (by decide)), (by first | assumption | exact ZB.put 24 (by assumption) hWz (by assumption) rfl rfl (by assumption) (by assumption) (by decide)), (by first | assumption | exact ZB.put 25 (by assumption) hWz (by assumption) rfl rfl (by assumption) (by assumption) (by decide)), (by first | assumption | exact ZB.put 75 (by assumption) hWz (by assumption) rfl rfl (by assumption) (by assumption) (by decide)), (by first | assumption | exact ZB.put 76 (by assumption) hWz (by assumption) rfl rfl (by assumption) (by assumption) (by decide)), (by first | assumption | exact ZB.put 77 (by assumption) hWz (by assumption) rfl rfl (by assumption) (by assumption) (by decide)), (by first | assumption | exact ZB.put 79 (by assumption) hWz (by assumption) rfl rfl (by assumption) (by assumption) (by decide)), (by first | assumption | exact ZB.put 83 (by assumption) hWz (by assumption) rfl rfl (by assumption) (by assumption) (by decide)), trivial⟩ (by show (2147483647 - (i4473 + 1)).toNat < (2147483647 - i4473).toNat; omega)
