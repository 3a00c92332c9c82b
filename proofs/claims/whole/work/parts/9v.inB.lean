/-! the model is made -/
theorem i_X13_88 {D : zD} {d : Nat} {h : zH} (hd : 4 ≤ d) (f0 : frI 89 h) : z_C D M_X13_init d [(2, 88)] (gL 89) h (fun o G' h' => o = .inl none ∧ G' = gL 114 ∧ h' = (z_wr (z_wr (z_wr (z_wr (z_wr (z_wr (z_wr (z_wr (z_wr (z_wr (z_wr (z_wr (z_wr (z_wr (z_wr (z_wr (z_wr (z_wr (z_wr (z_wr (z_wr (z_wr (z_wr (z_wr (z_wr (z_wr (z_wr (z_wr (z_wr (z_wr (z_wr (z_wr (z_wr (z_wr (z_wr (z_wr (z_wr (z_wr (z_wr (z_wr (z_wr (z_wr (z_wr (z_wr (z_wr (z_wr (z_wr (z_wr (z_wr (z_wr h 88 0 89) 88 1 90) 88 2 91) 88 5 92) 88 6 93) 88 7 94) 88 8 95) 88 9 96) 88 10 97) 88 11 98) 88 12 99) 88 13 100) 88 21 (-1)) 88 22 101) 88 23 102) 88 24 103) 88 25 104) 88 26 105) 88 27 106) 88 28 107) 88 35 108) 88 36 109) 88 37 110) 88 38 111) 88 39 112) 88 40 113) 89 0 1) 90 0 1) 89 1 1) 90 1 1) 89 2 1) 90 2 1) 89 3 1) 90 3 1) 89 4 1) 90 4 1) 89 5 1) 90 5 1) 89 6 1) 90 6 1) 89 7 1) 90 7 1) 89 8 1) 90 8 1) 89 9 1) 90 9 1) 89 10 1) 90 10 1) 89 11 1) 90 11 1)) := by
  refine z_enter mo_X13_init (L := [(0, 2, 88)]) rfl (nle rfl) ?_
  refine z_aload_n (q := 1) 0 dX13_init_0 rfl rfl ?_
  refine z_objInit (q := 4) (by decide) k1096 k127 k128 (by omega) (nle rfl) dX13_init_1 rfl ?_
  refine z_aload_n (q := 5) 0 dX13_init_4 rfl rfl ?_
  refine z_bipush (q := 7) dX13_init_5 rfl (by decide) ?_
  refine n_newa (q := 9) (k := 89) 50 (by decide) (by decide) rfl k222 (by decide) (by decide) rfl f0 dX13_init_7 rfl ?_
  have f1 := f0.up (k' := 90) (by decide)
  refine z_pF (q := 12) (ki := 0) fX13_9 rfl hc11 rfl (z_sv2 rfl) (gI (by decide)) dX13_init_9 rfl ?_
  have f2 := f1.w 88 0 89 (by decide)
  refine z_aload_n (q := 13) 0 dX13_init_12 rfl rfl ?_
  refine z_bipush (q := 15) dX13_init_13 rfl (by decide) ?_
  refine n_newa (q := 17) (k := 90) 50 (by decide) (by decide) rfl k222 (by decide) (by decide) rfl f2 dX13_init_15 rfl ?_
  have f3 := f2.up (k' := 91) (by decide)
  refine z_pF (q := 20) (ki := 1) fX13_13 rfl hc11 rfl (z_sv2 rfl) (gI (by decide)) dX13_init_17 rfl ?_
  have f4 := f3.w 88 1 90 (by decide)
  refine z_aload_n (q := 21) 0 dX13_init_20 rfl rfl ?_
  refine z_sipush (q := 24) dX13_init_21 rfl (by decide) ?_
  refine n_newa (q := 26) (k := 91) 51 (by decide) (by decide) rfl k168 (by decide) (by decide) rfl f4 dX13_init_24 rfl ?_
  have f5 := f4.up (k' := 92) (by decide)
  refine z_pF (q := 29) (ki := 2) fX13_16 rfl hc11 rfl (z_sv2 rfl) (gI (by decide)) dX13_init_26 rfl ?_
  have f6 := f5.w 88 2 91 (by decide)
  refine z_aload_n (q := 30) 0 dX13_init_29 rfl rfl ?_
  refine z_bipush (q := 32) dX13_init_30 rfl (by decide) ?_
  refine n_newa (q := 34) (k := 92) 50 (by decide) (by decide) rfl k222 (by decide) (by decide) rfl f6 dX13_init_32 rfl ?_
  have f7 := f6.up (k' := 93) (by decide)
  refine z_pF (q := 37) (ki := 5) fX13_20 rfl hc11 rfl (z_sv2 rfl) (gI (by decide)) dX13_init_34 rfl ?_
  have f8 := f7.w 88 5 92 (by decide)
  refine z_aload_n (q := 38) 0 dX13_init_37 rfl rfl ?_
  refine z_bipush (q := 40) dX13_init_38 rfl (by decide) ?_
  refine n_newa (q := 42) (k := 93) 50 (by decide) (by decide) rfl k222 (by decide) (by decide) rfl f8 dX13_init_40 rfl ?_
  have f9 := f8.up (k' := 94) (by decide)
  refine z_pF (q := 45) (ki := 6) fX13_23 rfl hc11 rfl (z_sv2 rfl) (gI (by decide)) dX13_init_42 rfl ?_
  have f10 := f9.w 88 6 93 (by decide)
  refine z_aload_n (q := 46) 0 dX13_init_45 rfl rfl ?_
  refine z_bipush (q := 48) dX13_init_46 rfl (by decide) ?_
  refine n_newa (q := 50) (k := 94) 50 (by decide) (by decide) rfl k222 (by decide) (by decide) rfl f10 dX13_init_48 rfl ?_
  have f11 := f10.up (k' := 95) (by decide)
  refine z_pF (q := 53) (ki := 7) fX13_26 rfl hc11 rfl (z_sv2 rfl) (gI (by decide)) dX13_init_50 rfl ?_
  have f12 := f11.w 88 7 94 (by decide)
  refine z_aload_n (q := 54) 0 dX13_init_53 rfl rfl ?_
  refine z_bipush (q := 56) dX13_init_54 rfl (by decide) ?_
  refine n_newa (q := 58) (k := 95) 50 (by decide) (by decide) rfl k222 (by decide) (by decide) rfl f12 dX13_init_56 rfl ?_
  have f13 := f12.up (k' := 96) (by decide)
  refine z_pF (q := 61) (ki := 8) fX13_29 rfl hc11 rfl (z_sv2 rfl) (gI (by decide)) dX13_init_58 rfl ?_
  have f14 := f13.w 88 8 95 (by decide)
  refine z_aload_n (q := 62) 0 dX13_init_61 rfl rfl ?_
  refine z_bipush (q := 64) dX13_init_62 rfl (by decide) ?_
  refine n_newa (q := 66) (k := 96) 50 (by decide) (by decide) rfl k222 (by decide) (by decide) rfl f14 dX13_init_64 rfl ?_
  have f15 := f14.up (k' := 97) (by decide)
  refine z_pF (q := 69) (ki := 9) fX13_32 rfl hc11 rfl (z_sv2 rfl) (gI (by decide)) dX13_init_66 rfl ?_
  have f16 := f15.w 88 9 96 (by decide)
  refine z_aload_n (q := 70) 0 dX13_init_69 rfl rfl ?_
  refine z_bipush (q := 72) dX13_init_70 rfl (by decide) ?_
  refine n_newa (q := 74) (k := 97) 50 (by decide) (by decide) rfl k222 (by decide) (by decide) rfl f16 dX13_init_72 rfl ?_
  have f17 := f16.up (k' := 98) (by decide)
  refine z_pF (q := 77) (ki := 10) fX13_35 rfl hc11 rfl (z_sv2 rfl) (gI (by decide)) dX13_init_74 rfl ?_
  have f18 := f17.w 88 10 97 (by decide)
  refine z_aload_n (q := 78) 0 dX13_init_77 rfl rfl ?_
  refine z_bipush (q := 80) dX13_init_78 rfl (by decide) ?_
  refine n_newa (q := 82) (k := 98) 50 (by decide) (by decide) rfl k222 (by decide) (by decide) rfl f18 dX13_init_80 rfl ?_
  have f19 := f18.up (k' := 99) (by decide)
  refine z_pF (q := 85) (ki := 11) fX13_38 rfl hc11 rfl (z_sv2 rfl) (gI (by decide)) dX13_init_82 rfl ?_
  have f20 := f19.w 88 11 98 (by decide)
  refine z_aload_n (q := 86) 0 dX13_init_85 rfl rfl ?_
  refine n_new (q := 89) (k := 99) cb10 k1097 k1098 k109 rfl f20 dX13_init_86 rfl ?_
  have f21 := f20.up (k' := 100) (by decide)
  refine z_dup (q := 90) (by decide) dX13_init_89 rfl ?_
  refine n_inv (q := 93) (d2 := d - 1) (rest := [(2, 99), (2, 88)]) (av := []) (by decide) (i_X12 (by omega) (gI (by decide)) (by rw [w_na (by decide), w_na (by decide), w_na (by decide), w_na (by decide), w_na (by decide), w_na (by decide), w_na (by decide), w_na (by decide), w_na (by decide), w_na (by decide)]; exact (congrFun (f0 99 (by decide)) 0).trans rfl) (by rw [w_na (by decide), w_na (by decide), w_na (by decide), w_na (by decide), w_na (by decide), w_na (by decide), w_na (by decide), w_na (by decide), w_na (by decide), w_na (by decide)]; exact (congrFun (f0 99 (by decide)) 1).trans rfl) (by rw [w_na (by decide), w_na (by decide), w_na (by decide), w_na (by decide), w_na (by decide), w_na (by decide), w_na (by decide), w_na (by decide), w_na (by decide), w_na (by decide)]; exact (congrFun (f0 99 (by decide)) 2).trans rfl) (by rw [w_na (by decide), w_na (by decide), w_na (by decide), w_na (by decide), w_na (by decide), w_na (by decide), w_na (by decide), w_na (by decide), w_na (by decide), w_na (by decide)]; exact (congrFun (f0 99 (by decide)) 3).trans rfl)) mo_X12_init np_X12_init rfl rfl rfl k1136 k1134 k1135 (by omega) rfl (nle rfl) dX13_init_90 rfl ?_
  refine z_pF (q := 96) (ki := 12) fX13_44 rfl hc11 rfl (z_sv2 rfl) (gI (by decide)) dX13_init_93 rfl ?_
  have f22 := f21.w 88 12 99 (by decide)
  refine z_aload_n (q := 97) 0 dX13_init_96 rfl rfl ?_
  refine z_sipush (q := 100) dX13_init_97 rfl (by decide) ?_
  refine n_newa (q := 102) (k := 100) 52 (by decide) (by decide) rfl k167 (by decide) (by decide) rfl f22 dX13_init_100 rfl ?_
  have f23 := f22.up (k' := 101) (by decide)
  refine z_pF (q := 105) (ki := 13) fX13_48 rfl hc11 rfl (z_sv2 rfl) (gI (by decide)) dX13_init_102 rfl ?_
  have f24 := f23.w 88 13 100 (by decide)
  refine z_aload_n (q := 106) 0 dX13_init_105 rfl rfl ?_
  refine z_iconst (q := 107) dX13_init_106 rfl ?_
  refine z_pf (q := 110) (ki := 21) fX13_52 rfl (z_sv0 rfl) (gI (by decide)) dX13_init_107 rfl ?_
  have f25 := f24.w 88 21 (-1) (by decide)
  refine z_aload_n (q := 111) 0 dX13_init_110 rfl rfl ?_
  refine z_ldc (q := 113) (n := 216000) k1156 (by decide) dX13_init_111 rfl ?_
  refine n_newa (q := 115) (k := 101) 51 (by decide) (by decide) rfl k168 (by decide) (by decide) rfl f25 dX13_init_113 rfl ?_
  have f26 := f25.up (k' := 102) (by decide)
  refine z_pF (q := 118) (ki := 22) fX13_57 rfl hc11 rfl (z_sv2 rfl) (gI (by decide)) dX13_init_115 rfl ?_
  have f27 := f26.w 88 22 101 (by decide)
  refine z_aload_n (q := 119) 0 dX13_init_118 rfl rfl ?_
  refine z_sipush (q := 122) dX13_init_119 rfl (by decide) ?_
  refine n_newa (q := 124) (k := 102) 50 (by decide) (by decide) rfl k222 (by decide) (by decide) rfl f27 dX13_init_122 rfl ?_
  have f28 := f27.up (k' := 103) (by decide)
  refine z_pF (q := 127) (ki := 23) fX13_60 rfl hc11 rfl (z_sv2 rfl) (gI (by decide)) dX13_init_124 rfl ?_
  have f29 := f28.w 88 23 102 (by decide)
  refine z_aload_n (q := 128) 0 dX13_init_127 rfl rfl ?_
  refine z_sipush (q := 131) dX13_init_128 rfl (by decide) ?_
  refine n_newa (q := 133) (k := 103) 50 (by decide) (by decide) rfl k222 (by decide) (by decide) rfl f29 dX13_init_131 rfl ?_
  have f30 := f29.up (k' := 104) (by decide)
  refine z_pF (q := 136) (ki := 24) fX13_63 rfl hc11 rfl (z_sv2 rfl) (gI (by decide)) dX13_init_133 rfl ?_
  have f31 := f30.w 88 24 103 (by decide)
  refine z_aload_n (q := 137) 0 dX13_init_136 rfl rfl ?_
  refine z_sipush (q := 140) dX13_init_137 rfl (by decide) ?_
  refine n_newa (q := 142) (k := 104) 50 (by decide) (by decide) rfl k222 (by decide) (by decide) rfl f31 dX13_init_140 rfl ?_
  have f32 := f31.up (k' := 105) (by decide)
  refine z_pF (q := 145) (ki := 25) fX13_66 rfl hc11 rfl (z_sv2 rfl) (gI (by decide)) dX13_init_142 rfl ?_
  have f33 := f32.w 88 25 104 (by decide)
  refine z_aload_n (q := 146) 0 dX13_init_145 rfl rfl ?_
  refine z_sipush (q := 149) dX13_init_146 rfl (by decide) ?_
  refine n_newa (q := 151) (k := 105) 50 (by decide) (by decide) rfl k222 (by decide) (by decide) rfl f33 dX13_init_149 rfl ?_
  have f34 := f33.up (k' := 106) (by decide)
  refine z_pF (q := 154) (ki := 26) fX13_69 rfl hc11 rfl (z_sv2 rfl) (gI (by decide)) dX13_init_151 rfl ?_
  have f35 := f34.w 88 26 105 (by decide)
  refine z_aload_n (q := 155) 0 dX13_init_154 rfl rfl ?_
  refine z_bipush (q := 157) dX13_init_155 rfl (by decide) ?_
  refine n_newa (q := 159) (k := 106) 50 (by decide) (by decide) rfl k222 (by decide) (by decide) rfl f35 dX13_init_157 rfl ?_
  have f36 := f35.up (k' := 107) (by decide)
  refine z_pF (q := 162) (ki := 27) fX13_72 rfl hc11 rfl (z_sv2 rfl) (gI (by decide)) dX13_init_159 rfl ?_
  have f37 := f36.w 88 27 106 (by decide)
  refine z_aload_n (q := 163) 0 dX13_init_162 rfl rfl ?_
  refine z_sipush (q := 166) dX13_init_163 rfl (by decide) ?_
  refine n_newa (q := 168) (k := 107) 53 (by decide) (by decide) rfl k1287 (by decide) (by decide) rfl f37 dX13_init_166 rfl ?_
  have f38 := f37.up (k' := 108) (by decide)
  refine z_pF (q := 171) (ki := 28) fX13_75 rfl hc11 rfl (z_sv2 rfl) (gI (by decide)) dX13_init_168 rfl ?_
  have f39 := f38.w 88 28 107 (by decide)
  refine z_aload_n (q := 172) 0 dX13_init_171 rfl rfl ?_
  refine z_iconst (q := 173) dX13_init_172 rfl ?_
  refine n_newa (q := 175) (k := 108) 50 (by decide) (by decide) rfl k222 (by decide) (by decide) rfl f39 dX13_init_173 rfl ?_
  have f40 := f39.up (k' := 109) (by decide)
  refine z_pF (q := 178) (ki := 35) fX13_79 rfl hc11 rfl (z_sv2 rfl) (gI (by decide)) dX13_init_175 rfl ?_
  have f41 := f40.w 88 35 108 (by decide)
  refine z_aload_n (q := 179) 0 dX13_init_178 rfl rfl ?_
  refine z_iconst (q := 180) dX13_init_179 rfl ?_
  refine n_newa (q := 182) (k := 109) 50 (by decide) (by decide) rfl k222 (by decide) (by decide) rfl f41 dX13_init_180 rfl ?_
  have f42 := f41.up (k' := 110) (by decide)
  refine z_pF (q := 185) (ki := 36) fX13_82 rfl hc11 rfl (z_sv2 rfl) (gI (by decide)) dX13_init_182 rfl ?_
  have f43 := f42.w 88 36 109 (by decide)
  refine z_aload_n (q := 186) 0 dX13_init_185 rfl rfl ?_
  refine z_iconst (q := 187) dX13_init_186 rfl ?_
  refine n_newa (q := 189) (k := 110) 50 (by decide) (by decide) rfl k222 (by decide) (by decide) rfl f43 dX13_init_187 rfl ?_
  have f44 := f43.up (k' := 111) (by decide)
  refine z_pF (q := 192) (ki := 37) fX13_85 rfl hc11 rfl (z_sv2 rfl) (gI (by decide)) dX13_init_189 rfl ?_
  have f45 := f44.w 88 37 110 (by decide)
  refine z_aload_n (q := 193) 0 dX13_init_192 rfl rfl ?_
  refine z_sipush (q := 196) dX13_init_193 rfl (by decide) ?_
  refine n_newa (q := 198) (k := 111) 50 (by decide) (by decide) rfl k222 (by decide) (by decide) rfl f45 dX13_init_196 rfl ?_
  have f46 := f45.up (k' := 112) (by decide)
  refine z_pF (q := 201) (ki := 38) fX13_88 rfl hc11 rfl (z_sv2 rfl) (gI (by decide)) dX13_init_198 rfl ?_
  have f47 := f46.w 88 38 111 (by decide)
  refine z_aload_n (q := 202) 0 dX13_init_201 rfl rfl ?_
  refine z_sipush (q := 205) dX13_init_202 rfl (by decide) ?_
  refine n_newa (q := 207) (k := 112) 50 (by decide) (by decide) rfl k222 (by decide) (by decide) rfl f47 dX13_init_205 rfl ?_
  have f48 := f47.up (k' := 113) (by decide)
  refine z_pF (q := 210) (ki := 39) fX13_91 rfl hc11 rfl (z_sv2 rfl) (gI (by decide)) dX13_init_207 rfl ?_
  have f49 := f48.w 88 39 112 (by decide)
  refine z_aload_n (q := 211) 0 dX13_init_210 rfl rfl ?_
  refine z_sipush (q := 214) dX13_init_211 rfl (by decide) ?_
  refine n_newa (q := 216) (k := 113) 50 (by decide) (by decide) rfl k222 (by decide) (by decide) rfl f49 dX13_init_214 rfl ?_
  have f50 := f49.up (k' := 114) (by decide)
  refine z_pF (q := 219) (ki := 40) fX13_94 rfl hc11 rfl (z_sv2 rfl) (gI (by decide)) dX13_init_216 rfl ?_
  have f51 := f50.w 88 40 113 (by decide)
  refine z_iconst (q := 220) dX13_init_219 rfl ?_
  refine z_istore_n (q := 221) (L' := [(0, 2, 88), (1, 0, 0)]) dX13_init_220 rfl (by decide) rfl ?_
  refine z_iload_n (q := 222) 1 dX13_init_221 rfl rfl ?_
  refine z_bipush (q := 224) dX13_init_222 rfl (by decide) ?_
  refine z_icmp_ge (q := 227) (t := 247) ⟨by decide, by decide⟩ ⟨by decide, by decide⟩ dX13_init_224 (by decide) rfl (fun c => absurd c (by decide)) (fun c => ?_)
  refine z_aload_n (q := 228) 0 dX13_init_227 rfl rfl ?_
  refine z_gf (q := 231) (ki := 0) (v := (2, 89)) fX13_9 rfl (z_ldr rfl (by rw [w_nj (by decide), w_nj (by decide), w_nj (by decide), w_nj (by decide), w_nj (by decide), w_nj (by decide), w_nj (by decide), w_nj (by decide), w_nj (by decide), w_nj (by decide), w_nj (by decide), w_nj (by decide), w_nj (by decide), w_nj (by decide), w_nj (by decide), w_nj (by decide), w_nj (by decide), w_nj (by decide), w_nj (by decide), w_nj (by decide), w_nj (by decide), w_nj (by decide), w_nj (by decide), w_nj (by decide), w_nj (by decide), w_s] <;> rfl)) (gI (by decide)) dX13_init_228 rfl ?_
  refine z_iload_n (q := 232) 1 dX13_init_231 rfl rfl ?_
  refine z_iconst (q := 233) dX13_init_232 rfl ?_
  refine z_isn (q := 234) (n := 12) (gI (by decide)) (gN (by decide)) (by decide) (by decide) dX13_init_233 rfl ?_
  have f52 := f51.w 89 0 1 (by decide)
  refine z_aload_n (q := 235) 0 dX13_init_234 rfl rfl ?_
  refine z_gf (q := 238) (ki := 1) (v := (2, 90)) fX13_13 rfl (z_ldr rfl (by rw [w_na (by decide), w_nj (by decide), w_nj (by decide), w_nj (by decide), w_nj (by decide), w_nj (by decide), w_nj (by decide), w_nj (by decide), w_nj (by decide), w_nj (by decide), w_nj (by decide), w_nj (by decide), w_nj (by decide), w_nj (by decide), w_nj (by decide), w_nj (by decide), w_nj (by decide), w_nj (by decide), w_nj (by decide), w_nj (by decide), w_nj (by decide), w_nj (by decide), w_nj (by decide), w_nj (by decide), w_nj (by decide), w_s] <;> rfl)) (gI (by decide)) dX13_init_235 rfl ?_
  refine z_iload_n (q := 239) 1 dX13_init_238 rfl rfl ?_
  refine z_iconst (q := 240) dX13_init_239 rfl ?_
  refine z_isn (q := 241) (n := 12) (gI (by decide)) (gN (by decide)) (by decide) (by decide) dX13_init_240 rfl ?_
  have f53 := f52.w 90 0 1 (by decide)
  refine z_iinc (q := 244) (L' := [(0, 2, 88), (1, 0, 1)]) 1 dX13_init_241 rfl rfl (by decide) rfl ?_
  refine z_goto (t := 221) dX13_init_244 (by decide) ?_
  refine z_iload_n (q := 222) 1 dX13_init_221 rfl rfl ?_
  refine z_bipush (q := 224) dX13_init_222 rfl (by decide) ?_
  refine z_icmp_ge (q := 227) (t := 247) ⟨by decide, by decide⟩ ⟨by decide, by decide⟩ dX13_init_224 (by decide) rfl (fun c => absurd c (by decide)) (fun c => ?_)
  refine z_aload_n (q := 228) 0 dX13_init_227 rfl rfl ?_
  refine z_gf (q := 231) (ki := 0) (v := (2, 89)) fX13_9 rfl (z_ldr rfl (by rw [w_na (by decide), w_na (by decide), w_nj (by decide), w_nj (by decide), w_nj (by decide), w_nj (by decide), w_nj (by decide), w_nj (by decide), w_nj (by decide), w_nj (by decide), w_nj (by decide), w_nj (by decide), w_nj (by decide), w_nj (by decide), w_nj (by decide), w_nj (by decide), w_nj (by decide), w_nj (by decide), w_nj (by decide), w_nj (by decide), w_nj (by decide), w_nj (by decide), w_nj (by decide), w_nj (by decide), w_nj (by decide), w_nj (by decide), w_nj (by decide), w_s] <;> rfl)) (gI (by decide)) dX13_init_228 rfl ?_
  refine z_iload_n (q := 232) 1 dX13_init_231 rfl rfl ?_
  refine z_iconst (q := 233) dX13_init_232 rfl ?_
  refine z_isn (q := 234) (n := 12) (gI (by decide)) (gN (by decide)) (by decide) (by decide) dX13_init_233 rfl ?_
  have f54 := f53.w 89 1 1 (by decide)
  refine z_aload_n (q := 235) 0 dX13_init_234 rfl rfl ?_
  refine z_gf (q := 238) (ki := 1) (v := (2, 90)) fX13_13 rfl (z_ldr rfl (by rw [w_na (by decide), w_na (by decide), w_na (by decide), w_nj (by decide), w_nj (by decide), w_nj (by decide), w_nj (by decide), w_nj (by decide), w_nj (by decide), w_nj (by decide), w_nj (by decide), w_nj (by decide), w_nj (by decide), w_nj (by decide), w_nj (by decide), w_nj (by decide), w_nj (by decide), w_nj (by decide), w_nj (by decide), w_nj (by decide), w_nj (by decide), w_nj (by decide), w_nj (by decide), w_nj (by decide), w_nj (by decide), w_nj (by decide), w_nj (by decide), w_s] <;> rfl)) (gI (by decide)) dX13_init_235 rfl ?_
  refine z_iload_n (q := 239) 1 dX13_init_238 rfl rfl ?_
  refine z_iconst (q := 240) dX13_init_239 rfl ?_
  refine z_isn (q := 241) (n := 12) (gI (by decide)) (gN (by decide)) (by decide) (by decide) dX13_init_240 rfl ?_
  have f55 := f54.w 90 1 1 (by decide)
  refine z_iinc (q := 244) (L' := [(0, 2, 88), (1, 0, 2)]) 1 dX13_init_241 rfl rfl (by decide) rfl ?_
  refine z_goto (t := 221) dX13_init_244 (by decide) ?_
  refine z_iload_n (q := 222) 1 dX13_init_221 rfl rfl ?_
  refine z_bipush (q := 224) dX13_init_222 rfl (by decide) ?_
  refine z_icmp_ge (q := 227) (t := 247) ⟨by decide, by decide⟩ ⟨by decide, by decide⟩ dX13_init_224 (by decide) rfl (fun c => absurd c (by decide)) (fun c => ?_)
  refine z_aload_n (q := 228) 0 dX13_init_227 rfl rfl ?_
  refine z_gf (q := 231) (ki := 0) (v := (2, 89)) fX13_9 rfl (z_ldr rfl (by rw [w_na (by decide), w_na (by decide), w_na (by decide), w_na (by decide), w_nj (by decide), w_nj (by decide), w_nj (by decide), w_nj (by decide), w_nj (by decide), w_nj (by decide), w_nj (by decide), w_nj (by decide), w_nj (by decide), w_nj (by decide), w_nj (by decide), w_nj (by decide), w_nj (by decide), w_nj (by decide), w_nj (by decide), w_nj (by decide), w_nj (by decide), w_nj (by decide), w_nj (by decide), w_nj (by decide), w_nj (by decide), w_nj (by decide), w_nj (by decide), w_nj (by decide), w_nj (by decide), w_s] <;> rfl)) (gI (by decide)) dX13_init_228 rfl ?_
  refine z_iload_n (q := 232) 1 dX13_init_231 rfl rfl ?_
  refine z_iconst (q := 233) dX13_init_232 rfl ?_
  refine z_isn (q := 234) (n := 12) (gI (by decide)) (gN (by decide)) (by decide) (by decide) dX13_init_233 rfl ?_
  have f56 := f55.w 89 2 1 (by decide)
  refine z_aload_n (q := 235) 0 dX13_init_234 rfl rfl ?_
  refine z_gf (q := 238) (ki := 1) (v := (2, 90)) fX13_13 rfl (z_ldr rfl (by rw [w_na (by decide), w_na (by decide), w_na (by decide), w_na (by decide), w_na (by decide), w_nj (by decide), w_nj (by decide), w_nj (by decide), w_nj (by decide), w_nj (by decide), w_nj (by decide), w_nj (by decide), w_nj (by decide), w_nj (by decide), w_nj (by decide), w_nj (by decide), w_nj (by decide), w_nj (by decide), w_nj (by decide), w_nj (by decide), w_nj (by decide), w_nj (by decide), w_nj (by decide), w_nj (by decide), w_nj (by decide), w_nj (by decide), w_nj (by decide), w_nj (by decide), w_nj (by decide), w_s] <;> rfl)) (gI (by decide)) dX13_init_235 rfl ?_
  refine z_iload_n (q := 239) 1 dX13_init_238 rfl rfl ?_
  refine z_iconst (q := 240) dX13_init_239 rfl ?_
  refine z_isn (q := 241) (n := 12) (gI (by decide)) (gN (by decide)) (by decide) (by decide) dX13_init_240 rfl ?_
  have f57 := f56.w 90 2 1 (by decide)
  refine z_iinc (q := 244) (L' := [(0, 2, 88), (1, 0, 3)]) 1 dX13_init_241 rfl rfl (by decide) rfl ?_
  refine z_goto (t := 221) dX13_init_244 (by decide) ?_
  refine z_iload_n (q := 222) 1 dX13_init_221 rfl rfl ?_
  refine z_bipush (q := 224) dX13_init_222 rfl (by decide) ?_
  refine z_icmp_ge (q := 227) (t := 247) ⟨by decide, by decide⟩ ⟨by decide, by decide⟩ dX13_init_224 (by decide) rfl (fun c => absurd c (by decide)) (fun c => ?_)
  refine z_aload_n (q := 228) 0 dX13_init_227 rfl rfl ?_
  refine z_gf (q := 231) (ki := 0) (v := (2, 89)) fX13_9 rfl (z_ldr rfl (by rw [w_na (by decide), w_na (by decide), w_na (by decide), w_na (by decide), w_na (by decide), w_na (by decide), w_nj (by decide), w_nj (by decide), w_nj (by decide), w_nj (by decide), w_nj (by decide), w_nj (by decide), w_nj (by decide), w_nj (by decide), w_nj (by decide), w_nj (by decide), w_nj (by decide), w_nj (by decide), w_nj (by decide), w_nj (by decide), w_nj (by decide), w_nj (by decide), w_nj (by decide), w_nj (by decide), w_nj (by decide), w_nj (by decide), w_nj (by decide), w_nj (by decide), w_nj (by decide), w_nj (by decide), w_nj (by decide), w_s] <;> rfl)) (gI (by decide)) dX13_init_228 rfl ?_
  refine z_iload_n (q := 232) 1 dX13_init_231 rfl rfl ?_
  refine z_iconst (q := 233) dX13_init_232 rfl ?_
  refine z_isn (q := 234) (n := 12) (gI (by decide)) (gN (by decide)) (by decide) (by decide) dX13_init_233 rfl ?_
  have f58 := f57.w 89 3 1 (by decide)
  refine z_aload_n (q := 235) 0 dX13_init_234 rfl rfl ?_
  refine z_gf (q := 238) (ki := 1) (v := (2, 90)) fX13_13 rfl (z_ldr rfl (by rw [w_na (by decide), w_na (by decide), w_na (by decide), w_na (by decide), w_na (by decide), w_na (by decide), w_na (by decide), w_nj (by decide), w_nj (by decide), w_nj (by decide), w_nj (by decide), w_nj (by decide), w_nj (by decide), w_nj (by decide), w_nj (by decide), w_nj (by decide), w_nj (by decide), w_nj (by decide), w_nj (by decide), w_nj (by decide), w_nj (by decide), w_nj (by decide), w_nj (by decide), w_nj (by decide), w_nj (by decide), w_nj (by decide), w_nj (by decide), w_nj (by decide), w_nj (by decide), w_nj (by decide), w_nj (by decide), w_s] <;> rfl)) (gI (by decide)) dX13_init_235 rfl ?_
  refine z_iload_n (q := 239) 1 dX13_init_238 rfl rfl ?_
  refine z_iconst (q := 240) dX13_init_239 rfl ?_
  refine z_isn (q := 241) (n := 12) (gI (by decide)) (gN (by decide)) (by decide) (by decide) dX13_init_240 rfl ?_
  have f59 := f58.w 90 3 1 (by decide)
  refine z_iinc (q := 244) (L' := [(0, 2, 88), (1, 0, 4)]) 1 dX13_init_241 rfl rfl (by decide) rfl ?_
  refine z_goto (t := 221) dX13_init_244 (by decide) ?_
  refine z_iload_n (q := 222) 1 dX13_init_221 rfl rfl ?_
  refine z_bipush (q := 224) dX13_init_222 rfl (by decide) ?_
  refine z_icmp_ge (q := 227) (t := 247) ⟨by decide, by decide⟩ ⟨by decide, by decide⟩ dX13_init_224 (by decide) rfl (fun c => absurd c (by decide)) (fun c => ?_)
  refine z_aload_n (q := 228) 0 dX13_init_227 rfl rfl ?_
  refine z_gf (q := 231) (ki := 0) (v := (2, 89)) fX13_9 rfl (z_ldr rfl (by rw [w_na (by decide), w_na (by decide), w_na (by decide), w_na (by decide), w_na (by decide), w_na (by decide), w_na (by decide), w_na (by decide), w_nj (by decide), w_nj (by decide), w_nj (by decide), w_nj (by decide), w_nj (by decide), w_nj (by decide), w_nj (by decide), w_nj (by decide), w_nj (by decide), w_nj (by decide), w_nj (by decide), w_nj (by decide), w_nj (by decide), w_nj (by decide), w_nj (by decide), w_nj (by decide), w_nj (by decide), w_nj (by decide), w_nj (by decide), w_nj (by decide), w_nj (by decide), w_nj (by decide), w_nj (by decide), w_nj (by decide), w_nj (by decide), w_s] <;> rfl)) (gI (by decide)) dX13_init_228 rfl ?_
  refine z_iload_n (q := 232) 1 dX13_init_231 rfl rfl ?_
  refine z_iconst (q := 233) dX13_init_232 rfl ?_
  refine z_isn (q := 234) (n := 12) (gI (by decide)) (gN (by decide)) (by decide) (by decide) dX13_init_233 rfl ?_
  have f60 := f59.w 89 4 1 (by decide)
  refine z_aload_n (q := 235) 0 dX13_init_234 rfl rfl ?_
  refine z_gf (q := 238) (ki := 1) (v := (2, 90)) fX13_13 rfl (z_ldr rfl (by rw [w_na (by decide), w_na (by decide), w_na (by decide), w_na (by decide), w_na (by decide), w_na (by decide), w_na (by decide), w_na (by decide), w_na (by decide), w_nj (by decide), w_nj (by decide), w_nj (by decide), w_nj (by decide), w_nj (by decide), w_nj (by decide), w_nj (by decide), w_nj (by decide), w_nj (by decide), w_nj (by decide), w_nj (by decide), w_nj (by decide), w_nj (by decide), w_nj (by decide), w_nj (by decide), w_nj (by decide), w_nj (by decide), w_nj (by decide), w_nj (by decide), w_nj (by decide), w_nj (by decide), w_nj (by decide), w_nj (by decide), w_nj (by decide), w_s] <;> rfl)) (gI (by decide)) dX13_init_235 rfl ?_
  refine z_iload_n (q := 239) 1 dX13_init_238 rfl rfl ?_
  refine z_iconst (q := 240) dX13_init_239 rfl ?_
  refine z_isn (q := 241) (n := 12) (gI (by decide)) (gN (by decide)) (by decide) (by decide) dX13_init_240 rfl ?_
  have f61 := f60.w 90 4 1 (by decide)
  refine z_iinc (q := 244) (L' := [(0, 2, 88), (1, 0, 5)]) 1 dX13_init_241 rfl rfl (by decide) rfl ?_
  refine z_goto (t := 221) dX13_init_244 (by decide) ?_
  refine z_iload_n (q := 222) 1 dX13_init_221 rfl rfl ?_
  refine z_bipush (q := 224) dX13_init_222 rfl (by decide) ?_
  refine z_icmp_ge (q := 227) (t := 247) ⟨by decide, by decide⟩ ⟨by decide, by decide⟩ dX13_init_224 (by decide) rfl (fun c => absurd c (by decide)) (fun c => ?_)
  refine z_aload_n (q := 228) 0 dX13_init_227 rfl rfl ?_
  refine z_gf (q := 231) (ki := 0) (v := (2, 89)) fX13_9 rfl (z_ldr rfl (by rw [w_na (by decide), w_na (by decide), w_na (by decide), w_na (by decide), w_na (by decide), w_na (by decide), w_na (by decide), w_na (by decide), w_na (by decide), w_na (by decide), w_nj (by decide), w_nj (by decide), w_nj (by decide), w_nj (by decide), w_nj (by decide), w_nj (by decide), w_nj (by decide), w_nj (by decide), w_nj (by decide), w_nj (by decide), w_nj (by decide), w_nj (by decide), w_nj (by decide), w_nj (by decide), w_nj (by decide), w_nj (by decide), w_nj (by decide), w_nj (by decide), w_nj (by decide), w_nj (by decide), w_nj (by decide), w_nj (by decide), w_nj (by decide), w_nj (by decide), w_nj (by decide), w_s] <;> rfl)) (gI (by decide)) dX13_init_228 rfl ?_
  refine z_iload_n (q := 232) 1 dX13_init_231 rfl rfl ?_
  refine z_iconst (q := 233) dX13_init_232 rfl ?_
  refine z_isn (q := 234) (n := 12) (gI (by decide)) (gN (by decide)) (by decide) (by decide) dX13_init_233 rfl ?_
  have f62 := f61.w 89 5 1 (by decide)
  refine z_aload_n (q := 235) 0 dX13_init_234 rfl rfl ?_
  refine z_gf (q := 238) (ki := 1) (v := (2, 90)) fX13_13 rfl (z_ldr rfl (by rw [w_na (by decide), w_na (by decide), w_na (by decide), w_na (by decide), w_na (by decide), w_na (by decide), w_na (by decide), w_na (by decide), w_na (by decide), w_na (by decide), w_na (by decide), w_nj (by decide), w_nj (by decide), w_nj (by decide), w_nj (by decide), w_nj (by decide), w_nj (by decide), w_nj (by decide), w_nj (by decide), w_nj (by decide), w_nj (by decide), w_nj (by decide), w_nj (by decide), w_nj (by decide), w_nj (by decide), w_nj (by decide), w_nj (by decide), w_nj (by decide), w_nj (by decide), w_nj (by decide), w_nj (by decide), w_nj (by decide), w_nj (by decide), w_nj (by decide), w_nj (by decide), w_s] <;> rfl)) (gI (by decide)) dX13_init_235 rfl ?_
  refine z_iload_n (q := 239) 1 dX13_init_238 rfl rfl ?_
  refine z_iconst (q := 240) dX13_init_239 rfl ?_
  refine z_isn (q := 241) (n := 12) (gI (by decide)) (gN (by decide)) (by decide) (by decide) dX13_init_240 rfl ?_
  have f63 := f62.w 90 5 1 (by decide)
  refine z_iinc (q := 244) (L' := [(0, 2, 88), (1, 0, 6)]) 1 dX13_init_241 rfl rfl (by decide) rfl ?_
  refine z_goto (t := 221) dX13_init_244 (by decide) ?_
  refine z_iload_n (q := 222) 1 dX13_init_221 rfl rfl ?_
  refine z_bipush (q := 224) dX13_init_222 rfl (by decide) ?_
  refine z_icmp_ge (q := 227) (t := 247) ⟨by decide, by decide⟩ ⟨by decide, by decide⟩ dX13_init_224 (by decide) rfl (fun c => absurd c (by decide)) (fun c => ?_)
  refine z_aload_n (q := 228) 0 dX13_init_227 rfl rfl ?_
  refine z_gf (q := 231) (ki := 0) (v := (2, 89)) fX13_9 rfl (z_ldr rfl (by rw [w_na (by decide), w_na (by decide), w_na (by decide), w_na (by decide), w_na (by decide), w_na (by decide), w_na (by decide), w_na (by decide), w_na (by decide), w_na (by decide), w_na (by decide), w_na (by decide), w_nj (by decide), w_nj (by decide), w_nj (by decide), w_nj (by decide), w_nj (by decide), w_nj (by decide), w_nj (by decide), w_nj (by decide), w_nj (by decide), w_nj (by decide), w_nj (by decide), w_nj (by decide), w_nj (by decide), w_nj (by decide), w_nj (by decide), w_nj (by decide), w_nj (by decide), w_nj (by decide), w_nj (by decide), w_nj (by decide), w_nj (by decide), w_nj (by decide), w_nj (by decide), w_nj (by decide), w_nj (by decide), w_s] <;> rfl)) (gI (by decide)) dX13_init_228 rfl ?_
  refine z_iload_n (q := 232) 1 dX13_init_231 rfl rfl ?_
  refine z_iconst (q := 233) dX13_init_232 rfl ?_
  refine z_isn (q := 234) (n := 12) (gI (by decide)) (gN (by decide)) (by decide) (by decide) dX13_init_233 rfl ?_
  have f64 := f63.w 89 6 1 (by decide)
  refine z_aload_n (q := 235) 0 dX13_init_234 rfl rfl ?_
  refine z_gf (q := 238) (ki := 1) (v := (2, 90)) fX13_13 rfl (z_ldr rfl (by rw [w_na (by decide), w_na (by decide), w_na (by decide), w_na (by decide), w_na (by decide), w_na (by decide), w_na (by decide), w_na (by decide), w_na (by decide), w_na (by decide), w_na (by decide), w_na (by decide), w_na (by decide), w_nj (by decide), w_nj (by decide), w_nj (by decide), w_nj (by decide), w_nj (by decide), w_nj (by decide), w_nj (by decide), w_nj (by decide), w_nj (by decide), w_nj (by decide), w_nj (by decide), w_nj (by decide), w_nj (by decide), w_nj (by decide), w_nj (by decide), w_nj (by decide), w_nj (by decide), w_nj (by decide), w_nj (by decide), w_nj (by decide), w_nj (by decide), w_nj (by decide), w_nj (by decide), w_nj (by decide), w_s] <;> rfl)) (gI (by decide)) dX13_init_235 rfl ?_
  refine z_iload_n (q := 239) 1 dX13_init_238 rfl rfl ?_
  refine z_iconst (q := 240) dX13_init_239 rfl ?_
  refine z_isn (q := 241) (n := 12) (gI (by decide)) (gN (by decide)) (by decide) (by decide) dX13_init_240 rfl ?_
  have f65 := f64.w 90 6 1 (by decide)
  refine z_iinc (q := 244) (L' := [(0, 2, 88), (1, 0, 7)]) 1 dX13_init_241 rfl rfl (by decide) rfl ?_
  refine z_goto (t := 221) dX13_init_244 (by decide) ?_
  refine z_iload_n (q := 222) 1 dX13_init_221 rfl rfl ?_
  refine z_bipush (q := 224) dX13_init_222 rfl (by decide) ?_
  refine z_icmp_ge (q := 227) (t := 247) ⟨by decide, by decide⟩ ⟨by decide, by decide⟩ dX13_init_224 (by decide) rfl (fun c => absurd c (by decide)) (fun c => ?_)
  refine z_aload_n (q := 228) 0 dX13_init_227 rfl rfl ?_
  refine z_gf (q := 231) (ki := 0) (v := (2, 89)) fX13_9 rfl (z_ldr rfl (by rw [w_na (by decide), w_na (by decide), w_na (by decide), w_na (by decide), w_na (by decide), w_na (by decide), w_na (by decide), w_na (by decide), w_na (by decide), w_na (by decide), w_na (by decide), w_na (by decide), w_na (by decide), w_na (by decide), w_nj (by decide), w_nj (by decide), w_nj (by decide), w_nj (by decide), w_nj (by decide), w_nj (by decide), w_nj (by decide), w_nj (by decide), w_nj (by decide), w_nj (by decide), w_nj (by decide), w_nj (by decide), w_nj (by decide), w_nj (by decide), w_nj (by decide), w_nj (by decide), w_nj (by decide), w_nj (by decide), w_nj (by decide), w_nj (by decide), w_nj (by decide), w_nj (by decide), w_nj (by decide), w_nj (by decide), w_nj (by decide), w_s] <;> rfl)) (gI (by decide)) dX13_init_228 rfl ?_
  refine z_iload_n (q := 232) 1 dX13_init_231 rfl rfl ?_
  refine z_iconst (q := 233) dX13_init_232 rfl ?_
  refine z_isn (q := 234) (n := 12) (gI (by decide)) (gN (by decide)) (by decide) (by decide) dX13_init_233 rfl ?_
  have f66 := f65.w 89 7 1 (by decide)
  refine z_aload_n (q := 235) 0 dX13_init_234 rfl rfl ?_
  refine z_gf (q := 238) (ki := 1) (v := (2, 90)) fX13_13 rfl (z_ldr rfl (by rw [w_na (by decide), w_na (by decide), w_na (by decide), w_na (by decide), w_na (by decide), w_na (by decide), w_na (by decide), w_na (by decide), w_na (by decide), w_na (by decide), w_na (by decide), w_na (by decide), w_na (by decide), w_na (by decide), w_na (by decide), w_nj (by decide), w_nj (by decide), w_nj (by decide), w_nj (by decide), w_nj (by decide), w_nj (by decide), w_nj (by decide), w_nj (by decide), w_nj (by decide), w_nj (by decide), w_nj (by decide), w_nj (by decide), w_nj (by decide), w_nj (by decide), w_nj (by decide), w_nj (by decide), w_nj (by decide), w_nj (by decide), w_nj (by decide), w_nj (by decide), w_nj (by decide), w_nj (by decide), w_nj (by decide), w_nj (by decide), w_s] <;> rfl)) (gI (by decide)) dX13_init_235 rfl ?_
  refine z_iload_n (q := 239) 1 dX13_init_238 rfl rfl ?_
  refine z_iconst (q := 240) dX13_init_239 rfl ?_
  refine z_isn (q := 241) (n := 12) (gI (by decide)) (gN (by decide)) (by decide) (by decide) dX13_init_240 rfl ?_
  have f67 := f66.w 90 7 1 (by decide)
  refine z_iinc (q := 244) (L' := [(0, 2, 88), (1, 0, 8)]) 1 dX13_init_241 rfl rfl (by decide) rfl ?_
  refine z_goto (t := 221) dX13_init_244 (by decide) ?_
  refine z_iload_n (q := 222) 1 dX13_init_221 rfl rfl ?_
  refine z_bipush (q := 224) dX13_init_222 rfl (by decide) ?_
  refine z_icmp_ge (q := 227) (t := 247) ⟨by decide, by decide⟩ ⟨by decide, by decide⟩ dX13_init_224 (by decide) rfl (fun c => absurd c (by decide)) (fun c => ?_)
  refine z_aload_n (q := 228) 0 dX13_init_227 rfl rfl ?_
  refine z_gf (q := 231) (ki := 0) (v := (2, 89)) fX13_9 rfl (z_ldr rfl (by rw [w_na (by decide), w_na (by decide), w_na (by decide), w_na (by decide), w_na (by decide), w_na (by decide), w_na (by decide), w_na (by decide), w_na (by decide), w_na (by decide), w_na (by decide), w_na (by decide), w_na (by decide), w_na (by decide), w_na (by decide), w_na (by decide), w_nj (by decide), w_nj (by decide), w_nj (by decide), w_nj (by decide), w_nj (by decide), w_nj (by decide), w_nj (by decide), w_nj (by decide), w_nj (by decide), w_nj (by decide), w_nj (by decide), w_nj (by decide), w_nj (by decide), w_nj (by decide), w_nj (by decide), w_nj (by decide), w_nj (by decide), w_nj (by decide), w_nj (by decide), w_nj (by decide), w_nj (by decide), w_nj (by decide), w_nj (by decide), w_nj (by decide), w_nj (by decide), w_s] <;> rfl)) (gI (by decide)) dX13_init_228 rfl ?_
  refine z_iload_n (q := 232) 1 dX13_init_231 rfl rfl ?_
  refine z_iconst (q := 233) dX13_init_232 rfl ?_
  refine z_isn (q := 234) (n := 12) (gI (by decide)) (gN (by decide)) (by decide) (by decide) dX13_init_233 rfl ?_
  have f68 := f67.w 89 8 1 (by decide)
  refine z_aload_n (q := 235) 0 dX13_init_234 rfl rfl ?_
  refine z_gf (q := 238) (ki := 1) (v := (2, 90)) fX13_13 rfl (z_ldr rfl (by rw [w_na (by decide), w_na (by decide), w_na (by decide), w_na (by decide), w_na (by decide), w_na (by decide), w_na (by decide), w_na (by decide), w_na (by decide), w_na (by decide), w_na (by decide), w_na (by decide), w_na (by decide), w_na (by decide), w_na (by decide), w_na (by decide), w_na (by decide), w_nj (by decide), w_nj (by decide), w_nj (by decide), w_nj (by decide), w_nj (by decide), w_nj (by decide), w_nj (by decide), w_nj (by decide), w_nj (by decide), w_nj (by decide), w_nj (by decide), w_nj (by decide), w_nj (by decide), w_nj (by decide), w_nj (by decide), w_nj (by decide), w_nj (by decide), w_nj (by decide), w_nj (by decide), w_nj (by decide), w_nj (by decide), w_nj (by decide), w_nj (by decide), w_nj (by decide), w_s] <;> rfl)) (gI (by decide)) dX13_init_235 rfl ?_
  refine z_iload_n (q := 239) 1 dX13_init_238 rfl rfl ?_
  refine z_iconst (q := 240) dX13_init_239 rfl ?_
  refine z_isn (q := 241) (n := 12) (gI (by decide)) (gN (by decide)) (by decide) (by decide) dX13_init_240 rfl ?_
  have f69 := f68.w 90 8 1 (by decide)
  refine z_iinc (q := 244) (L' := [(0, 2, 88), (1, 0, 9)]) 1 dX13_init_241 rfl rfl (by decide) rfl ?_
  refine z_goto (t := 221) dX13_init_244 (by decide) ?_
  refine z_iload_n (q := 222) 1 dX13_init_221 rfl rfl ?_
  refine z_bipush (q := 224) dX13_init_222 rfl (by decide) ?_
  refine z_icmp_ge (q := 227) (t := 247) ⟨by decide, by decide⟩ ⟨by decide, by decide⟩ dX13_init_224 (by decide) rfl (fun c => absurd c (by decide)) (fun c => ?_)
  refine z_aload_n (q := 228) 0 dX13_init_227 rfl rfl ?_
  refine z_gf (q := 231) (ki := 0) (v := (2, 89)) fX13_9 rfl (z_ldr rfl (by rw [w_na (by decide), w_na (by decide), w_na (by decide), w_na (by decide), w_na (by decide), w_na (by decide), w_na (by decide), w_na (by decide), w_na (by decide), w_na (by decide), w_na (by decide), w_na (by decide), w_na (by decide), w_na (by decide), w_na (by decide), w_na (by decide), w_na (by decide), w_na (by decide), w_nj (by decide), w_nj (by decide), w_nj (by decide), w_nj (by decide), w_nj (by decide), w_nj (by decide), w_nj (by decide), w_nj (by decide), w_nj (by decide), w_nj (by decide), w_nj (by decide), w_nj (by decide), w_nj (by decide), w_nj (by decide), w_nj (by decide), w_nj (by decide), w_nj (by decide), w_nj (by decide), w_nj (by decide), w_nj (by decide), w_nj (by decide), w_nj (by decide), w_nj (by decide), w_nj (by decide), w_nj (by decide), w_s] <;> rfl)) (gI (by decide)) dX13_init_228 rfl ?_
  refine z_iload_n (q := 232) 1 dX13_init_231 rfl rfl ?_
  refine z_iconst (q := 233) dX13_init_232 rfl ?_
  refine z_isn (q := 234) (n := 12) (gI (by decide)) (gN (by decide)) (by decide) (by decide) dX13_init_233 rfl ?_
  have f70 := f69.w 89 9 1 (by decide)
  refine z_aload_n (q := 235) 0 dX13_init_234 rfl rfl ?_
  refine z_gf (q := 238) (ki := 1) (v := (2, 90)) fX13_13 rfl (z_ldr rfl (by rw [w_na (by decide), w_na (by decide), w_na (by decide), w_na (by decide), w_na (by decide), w_na (by decide), w_na (by decide), w_na (by decide), w_na (by decide), w_na (by decide), w_na (by decide), w_na (by decide), w_na (by decide), w_na (by decide), w_na (by decide), w_na (by decide), w_na (by decide), w_na (by decide), w_na (by decide), w_nj (by decide), w_nj (by decide), w_nj (by decide), w_nj (by decide), w_nj (by decide), w_nj (by decide), w_nj (by decide), w_nj (by decide), w_nj (by decide), w_nj (by decide), w_nj (by decide), w_nj (by decide), w_nj (by decide), w_nj (by decide), w_nj (by decide), w_nj (by decide), w_nj (by decide), w_nj (by decide), w_nj (by decide), w_nj (by decide), w_nj (by decide), w_nj (by decide), w_nj (by decide), w_nj (by decide), w_s] <;> rfl)) (gI (by decide)) dX13_init_235 rfl ?_
  refine z_iload_n (q := 239) 1 dX13_init_238 rfl rfl ?_
  refine z_iconst (q := 240) dX13_init_239 rfl ?_
  refine z_isn (q := 241) (n := 12) (gI (by decide)) (gN (by decide)) (by decide) (by decide) dX13_init_240 rfl ?_
  have f71 := f70.w 90 9 1 (by decide)
  refine z_iinc (q := 244) (L' := [(0, 2, 88), (1, 0, 10)]) 1 dX13_init_241 rfl rfl (by decide) rfl ?_
  refine z_goto (t := 221) dX13_init_244 (by decide) ?_
  refine z_iload_n (q := 222) 1 dX13_init_221 rfl rfl ?_
  refine z_bipush (q := 224) dX13_init_222 rfl (by decide) ?_
  refine z_icmp_ge (q := 227) (t := 247) ⟨by decide, by decide⟩ ⟨by decide, by decide⟩ dX13_init_224 (by decide) rfl (fun c => absurd c (by decide)) (fun c => ?_)
  refine z_aload_n (q := 228) 0 dX13_init_227 rfl rfl ?_
  refine z_gf (q := 231) (ki := 0) (v := (2, 89)) fX13_9 rfl (z_ldr rfl (by rw [w_na (by decide), w_na (by decide), w_na (by decide), w_na (by decide), w_na (by decide), w_na (by decide), w_na (by decide), w_na (by decide), w_na (by decide), w_na (by decide), w_na (by decide), w_na (by decide), w_na (by decide), w_na (by decide), w_na (by decide), w_na (by decide), w_na (by decide), w_na (by decide), w_na (by decide), w_na (by decide), w_nj (by decide), w_nj (by decide), w_nj (by decide), w_nj (by decide), w_nj (by decide), w_nj (by decide), w_nj (by decide), w_nj (by decide), w_nj (by decide), w_nj (by decide), w_nj (by decide), w_nj (by decide), w_nj (by decide), w_nj (by decide), w_nj (by decide), w_nj (by decide), w_nj (by decide), w_nj (by decide), w_nj (by decide), w_nj (by decide), w_nj (by decide), w_nj (by decide), w_nj (by decide), w_nj (by decide), w_nj (by decide), w_s] <;> rfl)) (gI (by decide)) dX13_init_228 rfl ?_
  refine z_iload_n (q := 232) 1 dX13_init_231 rfl rfl ?_
  refine z_iconst (q := 233) dX13_init_232 rfl ?_
  refine z_isn (q := 234) (n := 12) (gI (by decide)) (gN (by decide)) (by decide) (by decide) dX13_init_233 rfl ?_
  have f72 := f71.w 89 10 1 (by decide)
  refine z_aload_n (q := 235) 0 dX13_init_234 rfl rfl ?_
  refine z_gf (q := 238) (ki := 1) (v := (2, 90)) fX13_13 rfl (z_ldr rfl (by rw [w_na (by decide), w_na (by decide), w_na (by decide), w_na (by decide), w_na (by decide), w_na (by decide), w_na (by decide), w_na (by decide), w_na (by decide), w_na (by decide), w_na (by decide), w_na (by decide), w_na (by decide), w_na (by decide), w_na (by decide), w_na (by decide), w_na (by decide), w_na (by decide), w_na (by decide), w_na (by decide), w_na (by decide), w_nj (by decide), w_nj (by decide), w_nj (by decide), w_nj (by decide), w_nj (by decide), w_nj (by decide), w_nj (by decide), w_nj (by decide), w_nj (by decide), w_nj (by decide), w_nj (by decide), w_nj (by decide), w_nj (by decide), w_nj (by decide), w_nj (by decide), w_nj (by decide), w_nj (by decide), w_nj (by decide), w_nj (by decide), w_nj (by decide), w_nj (by decide), w_nj (by decide), w_nj (by decide), w_nj (by decide), w_s] <;> rfl)) (gI (by decide)) dX13_init_235 rfl ?_
  refine z_iload_n (q := 239) 1 dX13_init_238 rfl rfl ?_
  refine z_iconst (q := 240) dX13_init_239 rfl ?_
  refine z_isn (q := 241) (n := 12) (gI (by decide)) (gN (by decide)) (by decide) (by decide) dX13_init_240 rfl ?_
  have f73 := f72.w 90 10 1 (by decide)
  refine z_iinc (q := 244) (L' := [(0, 2, 88), (1, 0, 11)]) 1 dX13_init_241 rfl rfl (by decide) rfl ?_
  refine z_goto (t := 221) dX13_init_244 (by decide) ?_
  refine z_iload_n (q := 222) 1 dX13_init_221 rfl rfl ?_
  refine z_bipush (q := 224) dX13_init_222 rfl (by decide) ?_
  refine z_icmp_ge (q := 227) (t := 247) ⟨by decide, by decide⟩ ⟨by decide, by decide⟩ dX13_init_224 (by decide) rfl (fun c => absurd c (by decide)) (fun c => ?_)
  refine z_aload_n (q := 228) 0 dX13_init_227 rfl rfl ?_
  refine z_gf (q := 231) (ki := 0) (v := (2, 89)) fX13_9 rfl (z_ldr rfl (by rw [w_na (by decide), w_na (by decide), w_na (by decide), w_na (by decide), w_na (by decide), w_na (by decide), w_na (by decide), w_na (by decide), w_na (by decide), w_na (by decide), w_na (by decide), w_na (by decide), w_na (by decide), w_na (by decide), w_na (by decide), w_na (by decide), w_na (by decide), w_na (by decide), w_na (by decide), w_na (by decide), w_na (by decide), w_na (by decide), w_nj (by decide), w_nj (by decide), w_nj (by decide), w_nj (by decide), w_nj (by decide), w_nj (by decide), w_nj (by decide), w_nj (by decide), w_nj (by decide), w_nj (by decide), w_nj (by decide), w_nj (by decide), w_nj (by decide), w_nj (by decide), w_nj (by decide), w_nj (by decide), w_nj (by decide), w_nj (by decide), w_nj (by decide), w_nj (by decide), w_nj (by decide), w_nj (by decide), w_nj (by decide), w_nj (by decide), w_nj (by decide), w_s] <;> rfl)) (gI (by decide)) dX13_init_228 rfl ?_
  refine z_iload_n (q := 232) 1 dX13_init_231 rfl rfl ?_
  refine z_iconst (q := 233) dX13_init_232 rfl ?_
  refine z_isn (q := 234) (n := 12) (gI (by decide)) (gN (by decide)) (by decide) (by decide) dX13_init_233 rfl ?_
  have f74 := f73.w 89 11 1 (by decide)
  refine z_aload_n (q := 235) 0 dX13_init_234 rfl rfl ?_
  refine z_gf (q := 238) (ki := 1) (v := (2, 90)) fX13_13 rfl (z_ldr rfl (by rw [w_na (by decide), w_na (by decide), w_na (by decide), w_na (by decide), w_na (by decide), w_na (by decide), w_na (by decide), w_na (by decide), w_na (by decide), w_na (by decide), w_na (by decide), w_na (by decide), w_na (by decide), w_na (by decide), w_na (by decide), w_na (by decide), w_na (by decide), w_na (by decide), w_na (by decide), w_na (by decide), w_na (by decide), w_na (by decide), w_na (by decide), w_nj (by decide), w_nj (by decide), w_nj (by decide), w_nj (by decide), w_nj (by decide), w_nj (by decide), w_nj (by decide), w_nj (by decide), w_nj (by decide), w_nj (by decide), w_nj (by decide), w_nj (by decide), w_nj (by decide), w_nj (by decide), w_nj (by decide), w_nj (by decide), w_nj (by decide), w_nj (by decide), w_nj (by decide), w_nj (by decide), w_nj (by decide), w_nj (by decide), w_nj (by decide), w_nj (by decide), w_s] <;> rfl)) (gI (by decide)) dX13_init_235 rfl ?_
  refine z_iload_n (q := 239) 1 dX13_init_238 rfl rfl ?_
  refine z_iconst (q := 240) dX13_init_239 rfl ?_
  refine z_isn (q := 241) (n := 12) (gI (by decide)) (gN (by decide)) (by decide) (by decide) dX13_init_240 rfl ?_
  have f75 := f74.w 90 11 1 (by decide)
  refine z_iinc (q := 244) (L' := [(0, 2, 88), (1, 0, 12)]) 1 dX13_init_241 rfl rfl (by decide) rfl ?_
  refine z_goto (t := 221) dX13_init_244 (by decide) ?_
  refine z_iload_n (q := 222) 1 dX13_init_221 rfl rfl ?_
  refine z_bipush (q := 224) dX13_init_222 rfl (by decide) ?_
  refine z_icmp_ge (q := 227) (t := 247) ⟨by decide, by decide⟩ ⟨by decide, by decide⟩ dX13_init_224 (by decide) rfl (fun c => ?_) (fun c => absurd (by decide) c)
  exact z_vret rfl dX13_init_247 ⟨rfl, rfl, rfl⟩
def iHc : zH := (z_wr (z_wr (z_wr (z_wr (z_wr (z_wr (z_wr (z_wr (z_wr (z_wr (z_wr (z_wr (z_wr (z_wr (z_wr (z_wr (z_wr (z_wr (z_wr (z_wr (z_wr (z_wr (z_wr (z_wr (z_wr (z_wr (z_wr (z_wr (z_wr (z_wr (z_wr (z_wr (z_wr (z_wr (z_wr (z_wr (z_wr (z_wr (z_wr (z_wr (z_wr (z_wr (z_wr (z_wr (z_wr (z_wr (z_wr (z_wr (z_wr (z_wr (z_wr (z_wr (z_wr (z_wr (z_wr (z_wr (z_wr (z_wr (z_wr (z_wr (z_wr (z_wr (z_wr (z_wr (z_wr (z_wr (z_wr (z_wr (z_wr (z_wr (z_wr (z_wr (z_wr (z_wr (z_wr (z_wr (z_wr (z_wr (z_wr (z_wr (z_wr (z_wr (z_wr (z_wr (z_wr (z_wr (z_wr (z_wr (z_wr (z_wr (z_wr (z_wr (z_wr (z_wr (z_wr (z_wr (z_wr (z_wr (z_wr (z_wr (z_wr (z_wr (z_wr (z_wr (z_wr (z_wr (z_wr (z_wr (z_wr (z_wr (z_wr (z_wr (z_wr (z_wr (z_wr (z_wr (z_wr (z_wr (z_wr (z_wr (z_wr (z_wr (z_wr (z_wr (z_wr (z_wr (z_wr (z_wr (z_wr (z_wr (z_wr (z_wr (z_wr (z_wr (z_wr (z_wr (z_wr (z_wr (z_wr (z_wr (z_wr (z_wr (z_wr (z_wr (z_wr (z_wr (z_wr (z_wr (z_wr (z_wr (z_wr (z_wr (z_wr (z_wr (z_wr (z_wr iB 0 0 1) 0 1 2) 0 2 3) 0 3 0) 0 4 0) 0 5 (-1)) 5 0 6) 5 1 1) 5 2 1) 4 0 5) 4 1 0) 4 2 (-1)) 0 6 4) 8 0 9) 8 1 0) 7 0 8) 7 1 0) 7 2 (-1)) 7 9 10) 7 10 11) 0 7 7) 12 0 13) 12 1 14) 12 2 15) 12 3 16) 12 4 17) 12 5 18) 0 8 12) 20 0 21) 20 1 1) 20 2 1) 19 1 20) 22 0 23) 22 1 1) 22 2 1) 19 2 22) 19 0 12) 0 9 19) 25 0 26) 25 1 1) 25 2 1) 24 1 25) 27 0 28) 27 1 1) 27 2 1) 24 2 27) 24 0 12) 0 10 24) 29 0 30) 29 1 1) 29 2 1) 0 11 29) 31 0 32) 31 1 0) 0 12 31) 34 0 35) 34 1 1) 34 2 1) 33 1 34) 36 0 37) 36 1 1) 36 2 1) 33 2 36) 38 0 39) 38 1 1) 38 2 1) 33 3 38) 40 0 41) 40 1 1) 40 2 1) 33 4 40) 42 0 43) 42 1 1) 42 2 1) 33 5 42) 44 0 45) 44 1 1) 44 2 1) 33 6 44) 46 0 47) 46 1 1) 46 2 1) 33 7 46) 33 8 0) 33 9 48) 33 10 49) 33 11 50) 33 12 0) 51 0 0) 51 1 0) 51 2 52) 51 3 53) 51 4 54) 51 5 55) 33 13 51) 33 14 0) 33 15 0) 33 16 0) 33 0 12) 0 13 33) 56 0 57) 56 1 1) 56 2 1) 1 0 56) 58 0 59) 58 1 0) 2 0 58) 60 0 61) 60 1 1) 60 2 1) 1 1 60) 62 0 63) 62 1 0) 2 1 62) 64 0 65) 64 1 1) 64 2 1) 1 2 64) 66 0 67) 66 1 0) 2 2 66) 68 0 69) 68 1 1) 68 2 1) 1 3 68) 70 0 71) 70 1 0) 2 3 70) 72 0 73) 72 1 1) 72 2 1) 1 4 72) 74 0 75) 74 1 0) 2 4 74) 76 0 77) 76 1 1) 76 2 1) 1 5 76) 78 0 79) 78 1 0) 2 5 78) 80 0 81) 80 1 1) 80 2 1) 1 6 80) 82 0 83) 82 1 0) 2 6 82) 84 0 85) 84 1 1) 84 2 1) 1 7 84) 86 0 87) 86 1 0) 2 7 86)
def iHm : zH := (z_wr (z_wr (z_wr (z_wr (z_wr (z_wr (z_wr (z_wr (z_wr (z_wr (z_wr (z_wr (z_wr (z_wr (z_wr (z_wr (z_wr (z_wr (z_wr (z_wr (z_wr (z_wr (z_wr (z_wr (z_wr (z_wr (z_wr (z_wr (z_wr (z_wr (z_wr (z_wr (z_wr (z_wr (z_wr (z_wr (z_wr (z_wr (z_wr (z_wr (z_wr (z_wr (z_wr (z_wr (z_wr (z_wr (z_wr (z_wr (z_wr (z_wr iHc 88 0 89) 88 1 90) 88 2 91) 88 5 92) 88 6 93) 88 7 94) 88 8 95) 88 9 96) 88 10 97) 88 11 98) 88 12 99) 88 13 100) 88 21 (-1)) 88 22 101) 88 23 102) 88 24 103) 88 25 104) 88 26 105) 88 27 106) 88 28 107) 88 35 108) 88 36 109) 88 37 110) 88 38 111) 88 39 112) 88 40 113) 89 0 1) 90 0 1) 89 1 1) 90 1 1) 89 2 1) 90 2 1) 89 3 1) 90 3 1) 89 4 1) 90 4 1) 89 5 1) 90 5 1) 89 6 1) 90 6 1) 89 7 1) 90 7 1) 89 8 1) 90 8 1) 89 9 1) 90 9 1) 89 10 1) 90 10 1) 89 11 1) 90 11 1)
