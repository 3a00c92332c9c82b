/-! the law: one case after the other -/
def M_law : zM := (yL_law, code, 4, some .boolean, [])
section LawR
variable {D : zD} {M M2 : zM} {d d2 pc q t : Nat} {L : List (Nat × zV)} {st rest av : List zV} {G : zG} {h : zH} {S : zA} {Q : zO → zG → zH → Prop}
theorem z_c6 : z_at D G h (-6) 50 D.2.2.2.2.2.1 D.2.2.2.2.2.2 := Or.inr (Or.inl ⟨6, by decide, by decide, rfl, rfl⟩)
theorem z_icmpE {x off : Int} (hd : decode M.2.1 pc = .ok (.if_icmp .eq off, 3)) (ht : (pc : Int) + off = (t : Int)) (kt : z_F D M d t L st G h Q) : z_F D M d pc L ((0, x) :: (0, x) :: st) G h Q :=
  z_pure (fun cx hr hl kk => lv_icmp_eq cx.1 cx.2.1 hd ht (fun _ => kk _ hl) (fun hn => absurd rfl hn)) kt
theorem z_lcmpE {x : Int} (hd : decode M.2.1 pc = .ok (.lcmp, 1)) (hq : pc + 1 = q) (k : z_F D M d q L ((0, 0) :: st) G h Q) : z_F D M d pc L ((1, x) :: (1, x) :: st) G h Q := by
  subst hq
  refine z_pure (fun cx hr hl kk => W.lcmp cx.1 cx.2.1 hd ?_) k
  have := kk _ hl
  have e : Int32.ofInt 0 = lg_cmp (Int64.ofInt x) (Int64.ofInt x) := by
    unfold lg_cmp
    simp
  have e2 : z_sc D ((0, 0) :: st) = .int (lg_cmp (Int64.ofInt x) (Int64.ofInt x)) :: z_sc D st := by
    rw [← e]; rfl
  rw [e2] at this
  exact this
theorem law_c {kk : Nat} {r : Int × zA} {Ml : zM} (hd : d2 + 1 ≤ d) (o : aok S) (m : mAb h S) (cc : z_CY D M2 d2 av G h (cCl (kk, r.1) r.2 G h)) (K : ∀ (G' : zG) (h' : zH), cAb G' h' r.2 → mAb h' S → z_Y D Ml d q L ((kk, r.1) :: rest) G' h' Q) : z_K D M2 d av G h (fun y G' h' => ∃ x, y = some (kk, x) ∧ z_Y D Ml d q L ((kk, x) :: rest) G' h' Q) :=
  ⟨d2, hd, cc.mono fun out G' h' _ hh => ⟨_, hh.1, _, rfl, K G' h' hh.2.2 (mAb_c o m hh.2.1)⟩⟩
theorem law_m {kk : Nat} {r : Int × zA} {Ml : zM} (hd : d2 + 1 ≤ d) (c : cAb G h r.2) (mm : z_CY D M2 d2 av G h (mCl (kk, r.1) r.2 G h)) (K : ∀ h' : zH, cAb G h' r.2 → mAb h' r.2 → z_Y D Ml d q L ((kk, r.1) :: rest) G h' Q) : z_K D M2 d av G h (fun y G' h' => ∃ x, y = some (kk, x) ∧ z_Y D Ml d q L ((kk, x) :: rest) G' h' Q) :=
  ⟨d2, hd, mm.mono fun out G' h' _ hh => ⟨_, hh.1, _, rfl, by rw [hh.2.1]; exact K h' (cAb_m c hh.2.2.1) hh.2.2.2⟩⟩
end LawR
section Law
variable {D : zD} {d : Nat} {G : zG} {h : zH} {S : zA} {Q : zO → zG → zH → Prop}
theorem w_feed (hd : 40 ≤ d) (hs : ∀ j : Int, z_in (D.2.2.2.2.2.2 j)) {i : Int} (i0 : 0 ≤ i) (i6 : i + 6 ≤ D.2.2.2.2.2.1) (hl : lay G h) (o : aok S) (c : cAb G h S) (m : mAb h S) (K : ∀ (G' : zG) (h' : zH) (S' : zA), lay G' h' → aok S' → cAb G' h' S' → mAb h' S' → z_F D M_law d 832 [(0, 2, -6), (1, 2, 0), (2, 2, 88), (3, 0, i)] [] G' h' (fun o G' h' => lay G' h' ∧ Q o G' h')) : z_F D M_law d 124 [(0, 2, -6), (1, 2, 0), (2, 2, 88), (3, 0, i)] [] G h (fun o G' h' => lay G' h' ∧ Q o G' h') := by
  refine z_aload_n (q := 125) 1 dL_law_124 rfl rfl ?_
  refine z_aload_n (q := 126) 0 dL_law_125 rfl rfl ?_
  refine z_iload_n (q := 127) 3 dL_law_126 rfl rfl ?_
  refine z_iconst (q := 128) dL_law_127 rfl ?_
  refine z_iadd (q := 129) dL_law_128 rfl ?_
  refine z_iale (q := 130) z_c6 (by omega) (by omega) rfl dL_law_129 rfl ?_
  refine z_aload_n (q := 131) 0 dL_law_130 rfl rfl ?_
  refine z_iload_n (q := 132) 3 dL_law_131 rfl rfl ?_
  refine z_iconst (q := 133) dL_law_132 rfl ?_
  refine z_iadd (q := 134) dL_law_133 rfl ?_
  refine z_iale (q := 135) z_c6 (by omega) (by omega) rfl dL_law_134 rfl ?_
  refine z_aload_n (q := 136) 0 dL_law_135 rfl rfl ?_
  refine z_iload_n (q := 137) 3 dL_law_136 rfl rfl ?_
  refine z_iconst (q := 138) dL_law_137 rfl ?_
  refine z_iadd (q := 139) dL_law_138 rfl ?_
  refine z_iale (q := 140) z_c6 (by omega) (by omega) rfl dL_law_139 rfl ?_
  refine z_aload_n (q := 141) 0 dL_law_140 rfl rfl ?_
  refine z_iload_n (q := 142) 3 dL_law_141 rfl rfl ?_
  refine z_iconst (q := 143) dL_law_142 rfl ?_
  refine z_iadd (q := 144) dL_law_143 rfl ?_
  refine z_iale (q := 145) z_c6 (by omega) (by omega) rfl dL_law_144 rfl ?_
  refine z_aload_n (q := 146) 0 dL_law_145 rfl rfl ?_
  refine z_iload_n (q := 147) 3 dL_law_146 rfl rfl ?_
  refine z_iconst (q := 148) dL_law_147 rfl ?_
  refine z_iadd (q := 149) dL_law_148 rfl ?_
  refine z_iale (q := 150) z_c6 (by omega) (by omega) rfl dL_law_149 rfl ?_
  refine z_goV (q := 153) (av := [(0, (D.2.2.2.2.2.2 (i + 1))), (0, (D.2.2.2.2.2.2 (i + 2))), (0, (D.2.2.2.2.2.2 (i + 3))), (0, (D.2.2.2.2.2.2 (i + 4))), (0, (D.2.2.2.2.2.2 (i + 5)))]) (rest := []) cb9 (hl.i 0 (by decide) rfl) z_toi hl (law_c (d2 := d - 1) (by omega) o m (cc_feed (by omega) o c) (fun G1 h1 c1 m1 => ?_)) mo_X11_feed np_X11_feed k441 k442 k443 rfl (nle rfl) dL_law_150 rfl
  intro hl1
  refine z_aload_n (q := 154) 2 dL_law_153 rfl rfl ?_
  refine z_aload_n (q := 155) 0 dL_law_154 rfl rfl ?_
  refine z_iload_n (q := 156) 3 dL_law_155 rfl rfl ?_
  refine z_iconst (q := 157) dL_law_156 rfl ?_
  refine z_iadd (q := 158) dL_law_157 rfl ?_
  refine z_iale (q := 159) z_c6 (by omega) (by omega) rfl dL_law_158 rfl ?_
  refine z_aload_n (q := 160) 0 dL_law_159 rfl rfl ?_
  refine z_iload_n (q := 161) 3 dL_law_160 rfl rfl ?_
  refine z_iconst (q := 162) dL_law_161 rfl ?_
  refine z_iadd (q := 163) dL_law_162 rfl ?_
  refine z_iale (q := 164) z_c6 (by omega) (by omega) rfl dL_law_163 rfl ?_
  refine z_aload_n (q := 165) 0 dL_law_164 rfl rfl ?_
  refine z_iload_n (q := 166) 3 dL_law_165 rfl rfl ?_
  refine z_iconst (q := 167) dL_law_166 rfl ?_
  refine z_iadd (q := 168) dL_law_167 rfl ?_
  refine z_iale (q := 169) z_c6 (by omega) (by omega) rfl dL_law_168 rfl ?_
  refine z_aload_n (q := 170) 0 dL_law_169 rfl rfl ?_
  refine z_iload_n (q := 171) 3 dL_law_170 rfl rfl ?_
  refine z_iconst (q := 172) dL_law_171 rfl ?_
  refine z_iadd (q := 173) dL_law_172 rfl ?_
  refine z_iale (q := 174) z_c6 (by omega) (by omega) rfl dL_law_173 rfl ?_
  refine z_aload_n (q := 175) 0 dL_law_174 rfl rfl ?_
  refine z_iload_n (q := 176) 3 dL_law_175 rfl rfl ?_
  refine z_iconst (q := 177) dL_law_176 rfl ?_
  refine z_iadd (q := 178) dL_law_177 rfl ?_
  refine z_iale (q := 179) z_c6 (by omega) (by omega) rfl dL_law_178 rfl ?_
  refine z_goV (q := 182) (av := [(0, (D.2.2.2.2.2.2 (i + 1))), (0, (D.2.2.2.2.2.2 (i + 2))), (0, (D.2.2.2.2.2.2 (i + 3))), (0, (D.2.2.2.2.2.2 (i + 4))), (0, (D.2.2.2.2.2.2 (i + 5)))]) (rest := [(0, (q_feed (D.2.2.2.2.2.2 (i + 1)) (D.2.2.2.2.2.2 (i + 2)) (D.2.2.2.2.2.2 (i + 3)) (D.2.2.2.2.2.2 (i + 4)) (D.2.2.2.2.2.2 (i + 5)) S).1)]) cb11 (hl1.i 88 (by decide) rfl) z_toi hl1 (law_m (d2 := d - 1) (by omega) c1 (mm_feed (by omega) o m1) (fun h2 c2 m2 => ?_)) mo_X13_feed np_X13_feed k1288 k1289 k1290 rfl (nle rfl) dL_law_179 rfl
  intro hl2
  refine z_icmpE (t := 832) dL_law_182 (by decide) ?_
  exact K G1 h2 _ hl2 (aok_feed o _ _ _ _ _) c2 m2
theorem w_end (hd : 40 ≤ d) (hs : ∀ j : Int, z_in (D.2.2.2.2.2.2 j)) {i : Int} (i0 : 0 ≤ i) (i6 : i + 6 ≤ D.2.2.2.2.2.1) (hl : lay G h) (o : aok S) (c : cAb G h S) (m : mAb h S) (K : ∀ (G' : zG) (h' : zH) (S' : zA), lay G' h' → aok S' → cAb G' h' S' → mAb h' S' → z_F D M_law d 832 [(0, 2, -6), (1, 2, 0), (2, 2, 88), (3, 0, i)] [] G' h' (fun o G' h' => lay G' h' ∧ Q o G' h')) : z_F D M_law d 187 [(0, 2, -6), (1, 2, 0), (2, 2, 88), (3, 0, i)] [] G h (fun o G' h' => lay G' h' ∧ Q o G' h') := by
  refine z_aload_n (q := 188) 1 dL_law_187 rfl rfl ?_
  refine z_aload_n (q := 189) 0 dL_law_188 rfl rfl ?_
  refine z_iload_n (q := 190) 3 dL_law_189 rfl rfl ?_
  refine z_iconst (q := 191) dL_law_190 rfl ?_
  refine z_iadd (q := 192) dL_law_191 rfl ?_
  refine z_iale (q := 193) z_c6 (by omega) (by omega) rfl dL_law_192 rfl ?_
  refine z_goV (q := 196) (av := [(0, (D.2.2.2.2.2.2 (i + 1)))]) (rest := []) cb9 (hl.i 0 (by decide) rfl) z_toi hl (law_c (d2 := d - 1) (by omega) o m (cc_end (hs _) o c) (fun G1 h1 c1 m1 => ?_)) mo_X11_end np_X11_end k449 k450 k451 rfl (nle rfl) dL_law_193 rfl
  intro hl1
  refine z_aload_n (q := 197) 2 dL_law_196 rfl rfl ?_
  refine z_aload_n (q := 198) 0 dL_law_197 rfl rfl ?_
  refine z_iload_n (q := 199) 3 dL_law_198 rfl rfl ?_
  refine z_iconst (q := 200) dL_law_199 rfl ?_
  refine z_iadd (q := 201) dL_law_200 rfl ?_
  refine z_iale (q := 202) z_c6 (by omega) (by omega) rfl dL_law_201 rfl ?_
  refine z_goV (q := 205) (av := [(0, (D.2.2.2.2.2.2 (i + 1)))]) (rest := [(0, (q_end (D.2.2.2.2.2.2 (i + 1)) S).1)]) cb11 (hl1.i 88 (by decide) rfl) z_toi hl1 (law_m (d2 := d - 1) (by omega) c1 (mm_end (by omega) (hs _) o m1) (fun h2 c2 m2 => ?_)) mo_X13_end np_X13_end k1296 k1297 k1298 rfl (nle rfl) dL_law_202 rfl
  intro hl2
  refine z_icmpE (t := 832) dL_law_205 (by decide) ?_
  exact K G1 h2 _ hl2 (aok_end o _) c2 m2
theorem w_table (hd : 40 ≤ d) (hs : ∀ j : Int, z_in (D.2.2.2.2.2.2 j)) {i : Int} (i0 : 0 ≤ i) (i6 : i + 6 ≤ D.2.2.2.2.2.1) (hl : lay G h) (o : aok S) (c : cAb G h S) (m : mAb h S) (K : ∀ (G' : zG) (h' : zH) (S' : zA), lay G' h' → aok S' → cAb G' h' S' → mAb h' S' → z_F D M_law d 832 [(0, 2, -6), (1, 2, 0), (2, 2, 88), (3, 0, i)] [] G' h' (fun o G' h' => lay G' h' ∧ Q o G' h')) : z_F D M_law d 210 [(0, 2, -6), (1, 2, 0), (2, 2, 88), (3, 0, i)] [] G h (fun o G' h' => lay G' h' ∧ Q o G' h') := by
  refine z_aload_n (q := 211) 1 dL_law_210 rfl rfl ?_
  refine z_aload_n (q := 212) 0 dL_law_211 rfl rfl ?_
  refine z_iload_n (q := 213) 3 dL_law_212 rfl rfl ?_
  refine z_iconst (q := 214) dL_law_213 rfl ?_
  refine z_iadd (q := 215) dL_law_214 rfl ?_
  refine z_iale (q := 216) z_c6 (by omega) (by omega) rfl dL_law_215 rfl ?_
  refine z_goV (q := 219) (av := [(0, (D.2.2.2.2.2.2 (i + 1)))]) (rest := []) cb9 (hl.i 0 (by decide) rfl) z_toi hl (law_c (d2 := d - 1) (by omega) o m (cc_table (by omega) (hs _) o c) (fun G1 h1 c1 m1 => ?_)) mo_X11_table np_X11_table k453 k454 k455 rfl (nle rfl) dL_law_216 rfl
  intro hl1
  refine z_aload_n (q := 220) 2 dL_law_219 rfl rfl ?_
  refine z_aload_n (q := 221) 0 dL_law_220 rfl rfl ?_
  refine z_iload_n (q := 222) 3 dL_law_221 rfl rfl ?_
  refine z_iconst (q := 223) dL_law_222 rfl ?_
  refine z_iadd (q := 224) dL_law_223 rfl ?_
  refine z_iale (q := 225) z_c6 (by omega) (by omega) rfl dL_law_224 rfl ?_
  refine z_goV (q := 228) (av := [(0, (D.2.2.2.2.2.2 (i + 1)))]) (rest := [(0, (q_table (D.2.2.2.2.2.2 (i + 1)) S).1)]) cb11 (hl1.i 88 (by decide) rfl) z_toi hl1 (law_m (d2 := d - 1) (by omega) c1 (mm_table (by omega) (hs _) o m1) (fun h2 c2 m2 => ?_)) mo_X13_table np_X13_table k1303 k1304 k1305 rfl (nle rfl) dL_law_225 rfl
  intro hl2
  refine z_icmpE (t := 832) dL_law_228 (by decide) ?_
  exact K G1 h2 _ hl2 (aok_table o _) c2 m2
theorem w_way (hd : 40 ≤ d) (hs : ∀ j : Int, z_in (D.2.2.2.2.2.2 j)) {i : Int} (i0 : 0 ≤ i) (i6 : i + 6 ≤ D.2.2.2.2.2.1) (hl : lay G h) (o : aok S) (c : cAb G h S) (m : mAb h S) (K : ∀ (G' : zG) (h' : zH) (S' : zA), lay G' h' → aok S' → cAb G' h' S' → mAb h' S' → z_F D M_law d 832 [(0, 2, -6), (1, 2, 0), (2, 2, 88), (3, 0, i)] [] G' h' (fun o G' h' => lay G' h' ∧ Q o G' h')) : z_F D M_law d 233 [(0, 2, -6), (1, 2, 0), (2, 2, 88), (3, 0, i)] [] G h (fun o G' h' => lay G' h' ∧ Q o G' h') := by
  refine z_aload_n (q := 234) 1 dL_law_233 rfl rfl ?_
  refine z_aload_n (q := 235) 0 dL_law_234 rfl rfl ?_
  refine z_iload_n (q := 236) 3 dL_law_235 rfl rfl ?_
  refine z_iconst (q := 237) dL_law_236 rfl ?_
  refine z_iadd (q := 238) dL_law_237 rfl ?_
  refine z_iale (q := 239) z_c6 (by omega) (by omega) rfl dL_law_238 rfl ?_
  refine z_goV (q := 242) (av := [(0, (D.2.2.2.2.2.2 (i + 1)))]) (rest := []) cb9 (hl.i 0 (by decide) rfl) z_toi hl (law_c (d2 := d - 1) (by omega) o m (cc_way (by omega) (hs _) o c) (fun G1 h1 c1 m1 => ?_)) mo_X11_way np_X11_way k515 k516 k517 rfl (nle rfl) dL_law_239 rfl
  intro hl1
  refine z_aload_n (q := 243) 2 dL_law_242 rfl rfl ?_
  refine z_aload_n (q := 244) 0 dL_law_243 rfl rfl ?_
  refine z_iload_n (q := 245) 3 dL_law_244 rfl rfl ?_
  refine z_iconst (q := 246) dL_law_245 rfl ?_
  refine z_iadd (q := 247) dL_law_246 rfl ?_
  refine z_iale (q := 248) z_c6 (by omega) (by omega) rfl dL_law_247 rfl ?_
  refine z_goV (q := 251) (av := [(0, (D.2.2.2.2.2.2 (i + 1)))]) (rest := [(0, (q_way (D.2.2.2.2.2.2 (i + 1)) S).1)]) cb11 (hl1.i 88 (by decide) rfl) z_toi hl1 (law_m (d2 := d - 1) (by omega) c1 (mm_way (by omega) (hs _) o m1) (fun h2 c2 m2 => ?_)) mo_X13_way np_X13_way k1352 k1353 k1354 rfl (nle rfl) dL_law_248 rfl
  intro hl2
  refine z_icmpE (t := 832) dL_law_251 (by decide) ?_
  exact K G1 h2 _ hl2 (aok_way o _) c2 m2
theorem w_fault (hd : 40 ≤ d) (hs : ∀ j : Int, z_in (D.2.2.2.2.2.2 j)) {i : Int} (i0 : 0 ≤ i) (i6 : i + 6 ≤ D.2.2.2.2.2.1) (hl : lay G h) (o : aok S) (c : cAb G h S) (m : mAb h S) (K : ∀ (G' : zG) (h' : zH) (S' : zA), lay G' h' → aok S' → cAb G' h' S' → mAb h' S' → z_F D M_law d 832 [(0, 2, -6), (1, 2, 0), (2, 2, 88), (3, 0, i)] [] G' h' (fun o G' h' => lay G' h' ∧ Q o G' h')) : z_F D M_law d 256 [(0, 2, -6), (1, 2, 0), (2, 2, 88), (3, 0, i)] [] G h (fun o G' h' => lay G' h' ∧ Q o G' h') := by
  refine z_aload_n (q := 257) 1 dL_law_256 rfl rfl ?_
  refine z_aload_n (q := 258) 0 dL_law_257 rfl rfl ?_
  refine z_iload_n (q := 259) 3 dL_law_258 rfl rfl ?_
  refine z_iconst (q := 260) dL_law_259 rfl ?_
  refine z_iadd (q := 261) dL_law_260 rfl ?_
  refine z_iale (q := 262) z_c6 (by omega) (by omega) rfl dL_law_261 rfl ?_
  refine z_goV (q := 265) (av := [(0, (D.2.2.2.2.2.2 (i + 1)))]) (rest := []) cb9 (hl.i 0 (by decide) rfl) z_toi hl (law_c (d2 := d - 1) (by omega) o m (cc_fault (hs _) c) (fun G1 h1 c1 m1 => ?_)) mo_X11_fault np_X11_fault k662 k663 k664 rfl (nle rfl) dL_law_262 rfl
  intro hl1
  refine z_aload_n (q := 266) 2 dL_law_265 rfl rfl ?_
  refine z_aload_n (q := 267) 0 dL_law_266 rfl rfl ?_
  refine z_iload_n (q := 268) 3 dL_law_267 rfl rfl ?_
  refine z_iconst (q := 269) dL_law_268 rfl ?_
  refine z_iadd (q := 270) dL_law_269 rfl ?_
  refine z_iale (q := 271) z_c6 (by omega) (by omega) rfl dL_law_270 rfl ?_
  refine z_goV (q := 274) (av := [(0, (D.2.2.2.2.2.2 (i + 1)))]) (rest := [(0, (q_fault (D.2.2.2.2.2.2 (i + 1)) S).1)]) cb11 (hl1.i 88 (by decide) rfl) z_toi hl1 (law_m (d2 := d - 1) (by omega) c1 (mm_fault (hs _) m1) (fun h2 c2 m2 => ?_)) mo_X13_fault np_X13_fault k1453 k1454 k1455 rfl (nle rfl) dL_law_271 rfl
  intro hl2
  refine z_icmpE (t := 832) dL_law_274 (by decide) ?_
  exact K G1 h2 _ hl2 o c2 m2
theorem w_size (hd : 40 ≤ d) (hs : ∀ j : Int, z_in (D.2.2.2.2.2.2 j)) {i : Int} (i0 : 0 ≤ i) (i6 : i + 6 ≤ D.2.2.2.2.2.1) (hl : lay G h) (o : aok S) (c : cAb G h S) (m : mAb h S) (K : ∀ (G' : zG) (h' : zH) (S' : zA), lay G' h' → aok S' → cAb G' h' S' → mAb h' S' → z_F D M_law d 832 [(0, 2, -6), (1, 2, 0), (2, 2, 88), (3, 0, i)] [] G' h' (fun o G' h' => lay G' h' ∧ Q o G' h')) : z_F D M_law d 279 [(0, 2, -6), (1, 2, 0), (2, 2, 88), (3, 0, i)] [] G h (fun o G' h' => lay G' h' ∧ Q o G' h') := by
  refine z_aload_n (q := 280) 1 dL_law_279 rfl rfl ?_
  refine z_aload_n (q := 281) 0 dL_law_280 rfl rfl ?_
  refine z_iload_n (q := 282) 3 dL_law_281 rfl rfl ?_
  refine z_iconst (q := 283) dL_law_282 rfl ?_
  refine z_iadd (q := 284) dL_law_283 rfl ?_
  refine z_iale (q := 285) z_c6 (by omega) (by omega) rfl dL_law_284 rfl ?_
  refine z_aload_n (q := 286) 0 dL_law_285 rfl rfl ?_
  refine z_iload_n (q := 287) 3 dL_law_286 rfl rfl ?_
  refine z_iconst (q := 288) dL_law_287 rfl ?_
  refine z_iadd (q := 289) dL_law_288 rfl ?_
  refine z_iale (q := 290) z_c6 (by omega) (by omega) rfl dL_law_289 rfl ?_
  refine z_goV (q := 293) (av := [(0, (D.2.2.2.2.2.2 (i + 1))), (0, (D.2.2.2.2.2.2 (i + 2)))]) (rest := []) cb9 (hl.i 0 (by decide) rfl) z_toi hl (law_c (d2 := d - 1) (by omega) o m (cc_size (by omega) (hs _) (hs _) o c) (fun G1 h1 c1 m1 => ?_)) mo_X11_size np_X11_size k666 k667 k668 rfl (nle rfl) dL_law_290 rfl
  intro hl1
  refine z_aload_n (q := 294) 2 dL_law_293 rfl rfl ?_
  refine z_aload_n (q := 295) 0 dL_law_294 rfl rfl ?_
  refine z_iload_n (q := 296) 3 dL_law_295 rfl rfl ?_
  refine z_iconst (q := 297) dL_law_296 rfl ?_
  refine z_iadd (q := 298) dL_law_297 rfl ?_
  refine z_iale (q := 299) z_c6 (by omega) (by omega) rfl dL_law_298 rfl ?_
  refine z_aload_n (q := 300) 0 dL_law_299 rfl rfl ?_
  refine z_iload_n (q := 301) 3 dL_law_300 rfl rfl ?_
  refine z_iconst (q := 302) dL_law_301 rfl ?_
  refine z_iadd (q := 303) dL_law_302 rfl ?_
  refine z_iale (q := 304) z_c6 (by omega) (by omega) rfl dL_law_303 rfl ?_
  refine z_goV (q := 307) (av := [(0, (D.2.2.2.2.2.2 (i + 1))), (0, (D.2.2.2.2.2.2 (i + 2)))]) (rest := [(0, (q_size (D.2.2.2.2.2.2 (i + 1)) (D.2.2.2.2.2.2 (i + 2)) S).1)]) cb11 (hl1.i 88 (by decide) rfl) z_toi hl1 (law_m (d2 := d - 1) (by omega) c1 (mm_size (by omega) (hs _) (hs _) o m1) (fun h2 c2 m2 => ?_)) mo_X13_size np_X13_size k1457 k1458 k1459 rfl (nle rfl) dL_law_304 rfl
  intro hl2
  refine z_icmpE (t := 832) dL_law_307 (by decide) ?_
  exact K G1 h2 _ hl2 o c2 m2
theorem w_cell (hd : 40 ≤ d) (hs : ∀ j : Int, z_in (D.2.2.2.2.2.2 j)) {i : Int} (i0 : 0 ≤ i) (i6 : i + 6 ≤ D.2.2.2.2.2.1) (hl : lay G h) (o : aok S) (c : cAb G h S) (m : mAb h S) (K : ∀ (G' : zG) (h' : zH) (S' : zA), lay G' h' → aok S' → cAb G' h' S' → mAb h' S' → z_F D M_law d 832 [(0, 2, -6), (1, 2, 0), (2, 2, 88), (3, 0, i)] [] G' h' (fun o G' h' => lay G' h' ∧ Q o G' h')) : z_F D M_law d 312 [(0, 2, -6), (1, 2, 0), (2, 2, 88), (3, 0, i)] [] G h (fun o G' h' => lay G' h' ∧ Q o G' h') := by
  refine z_aload_n (q := 313) 1 dL_law_312 rfl rfl ?_
  refine z_aload_n (q := 314) 0 dL_law_313 rfl rfl ?_
  refine z_iload_n (q := 315) 3 dL_law_314 rfl rfl ?_
  refine z_iconst (q := 316) dL_law_315 rfl ?_
  refine z_iadd (q := 317) dL_law_316 rfl ?_
  refine z_iale (q := 318) z_c6 (by omega) (by omega) rfl dL_law_317 rfl ?_
  refine z_aload_n (q := 319) 0 dL_law_318 rfl rfl ?_
  refine z_iload_n (q := 320) 3 dL_law_319 rfl rfl ?_
  refine z_iconst (q := 321) dL_law_320 rfl ?_
  refine z_iadd (q := 322) dL_law_321 rfl ?_
  refine z_iale (q := 323) z_c6 (by omega) (by omega) rfl dL_law_322 rfl ?_
  refine z_aload_n (q := 324) 0 dL_law_323 rfl rfl ?_
  refine z_iload_n (q := 325) 3 dL_law_324 rfl rfl ?_
  refine z_iconst (q := 326) dL_law_325 rfl ?_
  refine z_iadd (q := 327) dL_law_326 rfl ?_
  refine z_iale (q := 328) z_c6 (by omega) (by omega) rfl dL_law_327 rfl ?_
  refine z_goV (q := 331) (av := [(0, (D.2.2.2.2.2.2 (i + 1))), (0, (D.2.2.2.2.2.2 (i + 2))), (0, (D.2.2.2.2.2.2 (i + 3)))]) (rest := []) cb9 (hl.i 0 (by decide) rfl) z_tol hl (law_c (d2 := d - 1) (by omega) o m (cc_cell (by omega) (hs _) (hs _) (hs _) o c) (fun G1 h1 c1 m1 => ?_)) mo_X11_cell np_X11_cell k694 k695 k696 rfl (nle rfl) dL_law_328 rfl
  intro hl1
  refine z_aload_n (q := 332) 2 dL_law_331 rfl rfl ?_
  refine z_aload_n (q := 333) 0 dL_law_332 rfl rfl ?_
  refine z_iload_n (q := 334) 3 dL_law_333 rfl rfl ?_
  refine z_iconst (q := 335) dL_law_334 rfl ?_
  refine z_iadd (q := 336) dL_law_335 rfl ?_
  refine z_iale (q := 337) z_c6 (by omega) (by omega) rfl dL_law_336 rfl ?_
  refine z_aload_n (q := 338) 0 dL_law_337 rfl rfl ?_
  refine z_iload_n (q := 339) 3 dL_law_338 rfl rfl ?_
  refine z_iconst (q := 340) dL_law_339 rfl ?_
  refine z_iadd (q := 341) dL_law_340 rfl ?_
  refine z_iale (q := 342) z_c6 (by omega) (by omega) rfl dL_law_341 rfl ?_
  refine z_aload_n (q := 343) 0 dL_law_342 rfl rfl ?_
  refine z_iload_n (q := 344) 3 dL_law_343 rfl rfl ?_
  refine z_iconst (q := 345) dL_law_344 rfl ?_
  refine z_iadd (q := 346) dL_law_345 rfl ?_
  refine z_iale (q := 347) z_c6 (by omega) (by omega) rfl dL_law_346 rfl ?_
  refine z_goV (q := 350) (av := [(0, (D.2.2.2.2.2.2 (i + 1))), (0, (D.2.2.2.2.2.2 (i + 2))), (0, (D.2.2.2.2.2.2 (i + 3)))]) (rest := [(1, (q_cell (D.2.2.2.2.2.2 (i + 1)) (D.2.2.2.2.2.2 (i + 2)) (D.2.2.2.2.2.2 (i + 3)) S).1)]) cb11 (hl1.i 88 (by decide) rfl) z_tol hl1 (law_m (d2 := d - 1) (by omega) c1 (mm_cell (by omega) (hs _) (hs _) (hs _) o m1) (fun h2 c2 m2 => ?_)) mo_X13_cell np_X13_cell k1473 k1474 k1475 rfl (nle rfl) dL_law_347 rfl
  intro hl2
  refine z_lcmpE (q := 351) dL_law_350 rfl ?_
  refine z_if_eq (q := 354) (t := 832) ⟨by decide, by decide⟩ dL_law_351 (by decide) rfl (fun _ => ?_) (fun c => absurd rfl c)
  exact K G1 h2 _ hl2 o c2 m2
theorem w_copy (hd : 40 ≤ d) (hs : ∀ j : Int, z_in (D.2.2.2.2.2.2 j)) {i : Int} (i0 : 0 ≤ i) (i6 : i + 6 ≤ D.2.2.2.2.2.1) (hl : lay G h) (o : aok S) (c : cAb G h S) (m : mAb h S) (K : ∀ (G' : zG) (h' : zH) (S' : zA), lay G' h' → aok S' → cAb G' h' S' → mAb h' S' → z_F D M_law d 832 [(0, 2, -6), (1, 2, 0), (2, 2, 88), (3, 0, i)] [] G' h' (fun o G' h' => lay G' h' ∧ Q o G' h')) : z_F D M_law d 356 [(0, 2, -6), (1, 2, 0), (2, 2, 88), (3, 0, i)] [] G h (fun o G' h' => lay G' h' ∧ Q o G' h') := by
  refine z_aload_n (q := 357) 1 dL_law_356 rfl rfl ?_
  refine z_aload_n (q := 358) 0 dL_law_357 rfl rfl ?_
  refine z_iload_n (q := 359) 3 dL_law_358 rfl rfl ?_
  refine z_iconst (q := 360) dL_law_359 rfl ?_
  refine z_iadd (q := 361) dL_law_360 rfl ?_
  refine z_iale (q := 362) z_c6 (by omega) (by omega) rfl dL_law_361 rfl ?_
  refine z_aload_n (q := 363) 0 dL_law_362 rfl rfl ?_
  refine z_iload_n (q := 364) 3 dL_law_363 rfl rfl ?_
  refine z_iconst (q := 365) dL_law_364 rfl ?_
  refine z_iadd (q := 366) dL_law_365 rfl ?_
  refine z_iale (q := 367) z_c6 (by omega) (by omega) rfl dL_law_366 rfl ?_
  refine z_goV (q := 370) (av := [(0, (D.2.2.2.2.2.2 (i + 1))), (0, (D.2.2.2.2.2.2 (i + 2)))]) (rest := []) cb9 (hl.i 0 (by decide) rfl) z_toi hl (law_c (d2 := d - 1) (by omega) o m (cc_copy (by omega) (hs _) (hs _) o c) (fun G1 h1 c1 m1 => ?_)) mo_X11_copy np_X11_copy k707 k708 k709 rfl (nle rfl) dL_law_367 rfl
  intro hl1
  refine z_aload_n (q := 371) 2 dL_law_370 rfl rfl ?_
  refine z_aload_n (q := 372) 0 dL_law_371 rfl rfl ?_
  refine z_iload_n (q := 373) 3 dL_law_372 rfl rfl ?_
  refine z_iconst (q := 374) dL_law_373 rfl ?_
  refine z_iadd (q := 375) dL_law_374 rfl ?_
  refine z_iale (q := 376) z_c6 (by omega) (by omega) rfl dL_law_375 rfl ?_
  refine z_aload_n (q := 377) 0 dL_law_376 rfl rfl ?_
  refine z_iload_n (q := 378) 3 dL_law_377 rfl rfl ?_
  refine z_iconst (q := 379) dL_law_378 rfl ?_
  refine z_iadd (q := 380) dL_law_379 rfl ?_
  refine z_iale (q := 381) z_c6 (by omega) (by omega) rfl dL_law_380 rfl ?_
  refine z_goV (q := 384) (av := [(0, (D.2.2.2.2.2.2 (i + 1))), (0, (D.2.2.2.2.2.2 (i + 2)))]) (rest := [(0, (q_copy (D.2.2.2.2.2.2 (i + 1)) (D.2.2.2.2.2.2 (i + 2)) S).1)]) cb11 (hl1.i 88 (by decide) rfl) z_toi hl1 (law_m (d2 := d - 1) (by omega) c1 (mm_copy (by omega) (hs _) (hs _) o m1) (fun h2 c2 m2 => ?_)) mo_X13_copy np_X13_copy k1478 k1479 k1480 rfl (nle rfl) dL_law_381 rfl
  intro hl2
  refine z_icmpE (t := 832) dL_law_384 (by decide) ?_
  exact K G1 h2 _ hl2 (aok_copy o _ _) c2 m2
theorem w_fits (hd : 40 ≤ d) (hs : ∀ j : Int, z_in (D.2.2.2.2.2.2 j)) {i : Int} (i0 : 0 ≤ i) (i6 : i + 6 ≤ D.2.2.2.2.2.1) (hl : lay G h) (o : aok S) (c : cAb G h S) (m : mAb h S) (K : ∀ (G' : zG) (h' : zH) (S' : zA), lay G' h' → aok S' → cAb G' h' S' → mAb h' S' → z_F D M_law d 832 [(0, 2, -6), (1, 2, 0), (2, 2, 88), (3, 0, i)] [] G' h' (fun o G' h' => lay G' h' ∧ Q o G' h')) : z_F D M_law d 389 [(0, 2, -6), (1, 2, 0), (2, 2, 88), (3, 0, i)] [] G h (fun o G' h' => lay G' h' ∧ Q o G' h') := by
  refine z_aload_n (q := 390) 1 dL_law_389 rfl rfl ?_
  refine z_aload_n (q := 391) 0 dL_law_390 rfl rfl ?_
  refine z_iload_n (q := 392) 3 dL_law_391 rfl rfl ?_
  refine z_iconst (q := 393) dL_law_392 rfl ?_
  refine z_iadd (q := 394) dL_law_393 rfl ?_
  refine z_iale (q := 395) z_c6 (by omega) (by omega) rfl dL_law_394 rfl ?_
  refine z_aload_n (q := 396) 0 dL_law_395 rfl rfl ?_
  refine z_iload_n (q := 397) 3 dL_law_396 rfl rfl ?_
  refine z_iconst (q := 398) dL_law_397 rfl ?_
  refine z_iadd (q := 399) dL_law_398 rfl ?_
  refine z_iale (q := 400) z_c6 (by omega) (by omega) rfl dL_law_399 rfl ?_
  refine z_goV (q := 403) (av := [(0, (D.2.2.2.2.2.2 (i + 1))), (0, (D.2.2.2.2.2.2 (i + 2)))]) (rest := []) cb9 (hl.i 0 (by decide) rfl) z_toi hl (law_c (d2 := d - 1) (by omega) o m (cc_fits (by omega) (hs _) (hs _) o c) (fun G1 h1 c1 m1 => ?_)) mo_X11_fits np_X11_fits k711 k712 k713 rfl (nle rfl) dL_law_400 rfl
  intro hl1
  refine z_aload_n (q := 404) 2 dL_law_403 rfl rfl ?_
  refine z_aload_n (q := 405) 0 dL_law_404 rfl rfl ?_
  refine z_iload_n (q := 406) 3 dL_law_405 rfl rfl ?_
  refine z_iconst (q := 407) dL_law_406 rfl ?_
  refine z_iadd (q := 408) dL_law_407 rfl ?_
  refine z_iale (q := 409) z_c6 (by omega) (by omega) rfl dL_law_408 rfl ?_
  refine z_aload_n (q := 410) 0 dL_law_409 rfl rfl ?_
  refine z_iload_n (q := 411) 3 dL_law_410 rfl rfl ?_
  refine z_iconst (q := 412) dL_law_411 rfl ?_
  refine z_iadd (q := 413) dL_law_412 rfl ?_
  refine z_iale (q := 414) z_c6 (by omega) (by omega) rfl dL_law_413 rfl ?_
  refine z_goV (q := 417) (av := [(0, (D.2.2.2.2.2.2 (i + 1))), (0, (D.2.2.2.2.2.2 (i + 2)))]) (rest := [(0, (q_fits (D.2.2.2.2.2.2 (i + 1)) (D.2.2.2.2.2.2 (i + 2)) S).1)]) cb11 (hl1.i 88 (by decide) rfl) z_toi hl1 (law_m (d2 := d - 1) (by omega) c1 (mm_fits (by omega) (hs _) (hs _) o m1) (fun h2 c2 m2 => ?_)) mo_X13_fits np_X13_fits k1482 k1483 k1484 rfl (nle rfl) dL_law_414 rfl
  intro hl2
  refine z_icmpE (t := 832) dL_law_417 (by decide) ?_
  exact K G1 h2 _ hl2 o c2 m2
theorem w_step (hd : 40 ≤ d) (hs : ∀ j : Int, z_in (D.2.2.2.2.2.2 j)) {i : Int} (i0 : 0 ≤ i) (i6 : i + 6 ≤ D.2.2.2.2.2.1) (hl : lay G h) (o : aok S) (c : cAb G h S) (m : mAb h S) (K : ∀ (G' : zG) (h' : zH) (S' : zA), lay G' h' → aok S' → cAb G' h' S' → mAb h' S' → z_F D M_law d 832 [(0, 2, -6), (1, 2, 0), (2, 2, 88), (3, 0, i)] [] G' h' (fun o G' h' => lay G' h' ∧ Q o G' h')) : z_F D M_law d 422 [(0, 2, -6), (1, 2, 0), (2, 2, 88), (3, 0, i)] [] G h (fun o G' h' => lay G' h' ∧ Q o G' h') := by
  refine z_aload_n (q := 423) 1 dL_law_422 rfl rfl ?_
  refine z_aload_n (q := 424) 0 dL_law_423 rfl rfl ?_
  refine z_iload_n (q := 425) 3 dL_law_424 rfl rfl ?_
  refine z_iconst (q := 426) dL_law_425 rfl ?_
  refine z_iadd (q := 427) dL_law_426 rfl ?_
  refine z_iale (q := 428) z_c6 (by omega) (by omega) rfl dL_law_427 rfl ?_
  refine z_aload_n (q := 429) 0 dL_law_428 rfl rfl ?_
  refine z_iload_n (q := 430) 3 dL_law_429 rfl rfl ?_
  refine z_iconst (q := 431) dL_law_430 rfl ?_
  refine z_iadd (q := 432) dL_law_431 rfl ?_
  refine z_iale (q := 433) z_c6 (by omega) (by omega) rfl dL_law_432 rfl ?_
  refine z_aload_n (q := 434) 0 dL_law_433 rfl rfl ?_
  refine z_iload_n (q := 435) 3 dL_law_434 rfl rfl ?_
  refine z_iconst (q := 436) dL_law_435 rfl ?_
  refine z_iadd (q := 437) dL_law_436 rfl ?_
  refine z_iale (q := 438) z_c6 (by omega) (by omega) rfl dL_law_437 rfl ?_
  refine z_aload_n (q := 439) 0 dL_law_438 rfl rfl ?_
  refine z_iload_n (q := 440) 3 dL_law_439 rfl rfl ?_
  refine z_iconst (q := 441) dL_law_440 rfl ?_
  refine z_iadd (q := 442) dL_law_441 rfl ?_
  refine z_iale (q := 443) z_c6 (by omega) (by omega) rfl dL_law_442 rfl ?_
  refine z_goV (q := 446) (av := [(0, (D.2.2.2.2.2.2 (i + 1))), (0, (D.2.2.2.2.2.2 (i + 2))), (0, (D.2.2.2.2.2.2 (i + 3))), (0, (D.2.2.2.2.2.2 (i + 4)))]) (rest := []) cb9 (hl.i 0 (by decide) rfl) z_toi hl (law_c (d2 := d - 1) (by omega) o m (cc_step (by omega) (hs _) (hs _) (hs _) (hs _) o c) (fun G1 h1 c1 m1 => ?_)) mo_X11_step np_X11_step k719 k720 k721 rfl (nle rfl) dL_law_443 rfl
  intro hl1
  refine z_aload_n (q := 447) 2 dL_law_446 rfl rfl ?_
  refine z_aload_n (q := 448) 0 dL_law_447 rfl rfl ?_
  refine z_iload_n (q := 449) 3 dL_law_448 rfl rfl ?_
  refine z_iconst (q := 450) dL_law_449 rfl ?_
  refine z_iadd (q := 451) dL_law_450 rfl ?_
  refine z_iale (q := 452) z_c6 (by omega) (by omega) rfl dL_law_451 rfl ?_
  refine z_aload_n (q := 453) 0 dL_law_452 rfl rfl ?_
  refine z_iload_n (q := 454) 3 dL_law_453 rfl rfl ?_
  refine z_iconst (q := 455) dL_law_454 rfl ?_
  refine z_iadd (q := 456) dL_law_455 rfl ?_
  refine z_iale (q := 457) z_c6 (by omega) (by omega) rfl dL_law_456 rfl ?_
  refine z_aload_n (q := 458) 0 dL_law_457 rfl rfl ?_
  refine z_iload_n (q := 459) 3 dL_law_458 rfl rfl ?_
  refine z_iconst (q := 460) dL_law_459 rfl ?_
  refine z_iadd (q := 461) dL_law_460 rfl ?_
  refine z_iale (q := 462) z_c6 (by omega) (by omega) rfl dL_law_461 rfl ?_
  refine z_aload_n (q := 463) 0 dL_law_462 rfl rfl ?_
  refine z_iload_n (q := 464) 3 dL_law_463 rfl rfl ?_
  refine z_iconst (q := 465) dL_law_464 rfl ?_
  refine z_iadd (q := 466) dL_law_465 rfl ?_
  refine z_iale (q := 467) z_c6 (by omega) (by omega) rfl dL_law_466 rfl ?_
  refine z_goV (q := 470) (av := [(0, (D.2.2.2.2.2.2 (i + 1))), (0, (D.2.2.2.2.2.2 (i + 2))), (0, (D.2.2.2.2.2.2 (i + 3))), (0, (D.2.2.2.2.2.2 (i + 4)))]) (rest := [(0, (q_step (D.2.2.2.2.2.2 (i + 1)) (D.2.2.2.2.2.2 (i + 2)) (D.2.2.2.2.2.2 (i + 3)) (D.2.2.2.2.2.2 (i + 4)) S).1)]) cb11 (hl1.i 88 (by decide) rfl) z_toi hl1 (law_m (d2 := d - 1) (by omega) c1 (mm_step (by omega) (hs _) (hs _) (hs _) (hs _) o m1) (fun h2 c2 m2 => ?_)) mo_X13_step np_X13_step k1490 k1491 k1492 rfl (nle rfl) dL_law_467 rfl
  intro hl2
  refine z_icmpE (t := 832) dL_law_470 (by decide) ?_
  exact K G1 h2 _ hl2 (aok_step o _ _ _ _) c2 m2
theorem w_walk (hd : 40 ≤ d) (hs : ∀ j : Int, z_in (D.2.2.2.2.2.2 j)) {i : Int} (i0 : 0 ≤ i) (i6 : i + 6 ≤ D.2.2.2.2.2.1) (hl : lay G h) (o : aok S) (c : cAb G h S) (m : mAb h S) (K : ∀ (G' : zG) (h' : zH) (S' : zA), lay G' h' → aok S' → cAb G' h' S' → mAb h' S' → z_F D M_law d 832 [(0, 2, -6), (1, 2, 0), (2, 2, 88), (3, 0, i)] [] G' h' (fun o G' h' => lay G' h' ∧ Q o G' h')) : z_F D M_law d 475 [(0, 2, -6), (1, 2, 0), (2, 2, 88), (3, 0, i)] [] G h (fun o G' h' => lay G' h' ∧ Q o G' h') := by
  refine z_aload_n (q := 476) 1 dL_law_475 rfl rfl ?_
  refine z_aload_n (q := 477) 0 dL_law_476 rfl rfl ?_
  refine z_iload_n (q := 478) 3 dL_law_477 rfl rfl ?_
  refine z_iconst (q := 479) dL_law_478 rfl ?_
  refine z_iadd (q := 480) dL_law_479 rfl ?_
  refine z_iale (q := 481) z_c6 (by omega) (by omega) rfl dL_law_480 rfl ?_
  refine z_aload_n (q := 482) 0 dL_law_481 rfl rfl ?_
  refine z_iload_n (q := 483) 3 dL_law_482 rfl rfl ?_
  refine z_iconst (q := 484) dL_law_483 rfl ?_
  refine z_iadd (q := 485) dL_law_484 rfl ?_
  refine z_iale (q := 486) z_c6 (by omega) (by omega) rfl dL_law_485 rfl ?_
  refine z_aload_n (q := 487) 0 dL_law_486 rfl rfl ?_
  refine z_iload_n (q := 488) 3 dL_law_487 rfl rfl ?_
  refine z_iconst (q := 489) dL_law_488 rfl ?_
  refine z_iadd (q := 490) dL_law_489 rfl ?_
  refine z_iale (q := 491) z_c6 (by omega) (by omega) rfl dL_law_490 rfl ?_
  refine z_goV (q := 494) (av := [(0, (D.2.2.2.2.2.2 (i + 1))), (0, (D.2.2.2.2.2.2 (i + 2))), (0, (D.2.2.2.2.2.2 (i + 3)))]) (rest := []) cb9 (hl.i 0 (by decide) rfl) z_toi hl (law_c (d2 := d - 1) (by omega) o m (cc_walk (by omega) (hs _) (hs _) (hs _) o c) (fun G1 h1 c1 m1 => ?_)) mo_X11_walk np_X11_walk k844 k845 k846 rfl (nle rfl) dL_law_491 rfl
  intro hl1
  refine z_aload_n (q := 495) 2 dL_law_494 rfl rfl ?_
  refine z_aload_n (q := 496) 0 dL_law_495 rfl rfl ?_
  refine z_iload_n (q := 497) 3 dL_law_496 rfl rfl ?_
  refine z_iconst (q := 498) dL_law_497 rfl ?_
  refine z_iadd (q := 499) dL_law_498 rfl ?_
  refine z_iale (q := 500) z_c6 (by omega) (by omega) rfl dL_law_499 rfl ?_
  refine z_aload_n (q := 501) 0 dL_law_500 rfl rfl ?_
  refine z_iload_n (q := 502) 3 dL_law_501 rfl rfl ?_
  refine z_iconst (q := 503) dL_law_502 rfl ?_
  refine z_iadd (q := 504) dL_law_503 rfl ?_
  refine z_iale (q := 505) z_c6 (by omega) (by omega) rfl dL_law_504 rfl ?_
  refine z_aload_n (q := 506) 0 dL_law_505 rfl rfl ?_
  refine z_iload_n (q := 507) 3 dL_law_506 rfl rfl ?_
  refine z_iconst (q := 508) dL_law_507 rfl ?_
  refine z_iadd (q := 509) dL_law_508 rfl ?_
  refine z_iale (q := 510) z_c6 (by omega) (by omega) rfl dL_law_509 rfl ?_
  refine z_goV (q := 513) (av := [(0, (D.2.2.2.2.2.2 (i + 1))), (0, (D.2.2.2.2.2.2 (i + 2))), (0, (D.2.2.2.2.2.2 (i + 3)))]) (rest := [(0, (q_walk (D.2.2.2.2.2.2 (i + 1)) (D.2.2.2.2.2.2 (i + 2)) (D.2.2.2.2.2.2 (i + 3)) S).1)]) cb11 (hl1.i 88 (by decide) rfl) z_toi hl1 (law_m (d2 := d - 1) (by omega) c1 (mm_walk (by omega) (hs _) (hs _) (hs _) o m1) (fun h2 c2 m2 => ?_)) mo_X13_walk np_X13_walk k1595 k1596 k1597 rfl (nle rfl) dL_law_510 rfl
  intro hl2
  refine z_icmpE (t := 832) dL_law_513 (by decide) ?_
  exact K G1 h2 _ hl2 (aok_walk o _ _ _) c2 m2
theorem w_steps (hd : 40 ≤ d) (hs : ∀ j : Int, z_in (D.2.2.2.2.2.2 j)) {i : Int} (i0 : 0 ≤ i) (i6 : i + 6 ≤ D.2.2.2.2.2.1) (hl : lay G h) (o : aok S) (c : cAb G h S) (m : mAb h S) (K : ∀ (G' : zG) (h' : zH) (S' : zA), lay G' h' → aok S' → cAb G' h' S' → mAb h' S' → z_F D M_law d 832 [(0, 2, -6), (1, 2, 0), (2, 2, 88), (3, 0, i)] [] G' h' (fun o G' h' => lay G' h' ∧ Q o G' h')) : z_F D M_law d 518 [(0, 2, -6), (1, 2, 0), (2, 2, 88), (3, 0, i)] [] G h (fun o G' h' => lay G' h' ∧ Q o G' h') := by
  refine z_aload_n (q := 519) 1 dL_law_518 rfl rfl ?_
  refine z_aload_n (q := 520) 0 dL_law_519 rfl rfl ?_
  refine z_iload_n (q := 521) 3 dL_law_520 rfl rfl ?_
  refine z_iconst (q := 522) dL_law_521 rfl ?_
  refine z_iadd (q := 523) dL_law_522 rfl ?_
  refine z_iale (q := 524) z_c6 (by omega) (by omega) rfl dL_law_523 rfl ?_
  refine z_goV (q := 527) (av := [(0, (D.2.2.2.2.2.2 (i + 1)))]) (rest := []) cb9 (hl.i 0 (by decide) rfl) z_toi hl (law_c (d2 := d - 1) (by omega) o m (cc_steps (by omega) (hs _) c) (fun G1 h1 c1 m1 => ?_)) mo_X11_steps np_X11_steps k865 k866 k867 rfl (nle rfl) dL_law_524 rfl
  intro hl1
  refine z_aload_n (q := 528) 2 dL_law_527 rfl rfl ?_
  refine z_aload_n (q := 529) 0 dL_law_528 rfl rfl ?_
  refine z_iload_n (q := 530) 3 dL_law_529 rfl rfl ?_
  refine z_iconst (q := 531) dL_law_530 rfl ?_
  refine z_iadd (q := 532) dL_law_531 rfl ?_
  refine z_iale (q := 533) z_c6 (by omega) (by omega) rfl dL_law_532 rfl ?_
  refine z_goV (q := 536) (av := [(0, (D.2.2.2.2.2.2 (i + 1)))]) (rest := [(0, (q_steps (D.2.2.2.2.2.2 (i + 1)) S).1)]) cb11 (hl1.i 88 (by decide) rfl) z_toi hl1 (law_m (d2 := d - 1) (by omega) c1 (mm_steps (by omega) (hs _) m1) (fun h2 c2 m2 => ?_)) mo_X13_steps np_X13_steps k1603 k1604 k1605 rfl (nle rfl) dL_law_533 rfl
  intro hl2
  refine z_icmpE (t := 832) dL_law_536 (by decide) ?_
  exact K G1 h2 _ hl2 o c2 m2
theorem w_stepAt (hd : 40 ≤ d) (hs : ∀ j : Int, z_in (D.2.2.2.2.2.2 j)) {i : Int} (i0 : 0 ≤ i) (i6 : i + 6 ≤ D.2.2.2.2.2.1) (hl : lay G h) (o : aok S) (c : cAb G h S) (m : mAb h S) (K : ∀ (G' : zG) (h' : zH) (S' : zA), lay G' h' → aok S' → cAb G' h' S' → mAb h' S' → z_F D M_law d 832 [(0, 2, -6), (1, 2, 0), (2, 2, 88), (3, 0, i)] [] G' h' (fun o G' h' => lay G' h' ∧ Q o G' h')) : z_F D M_law d 541 [(0, 2, -6), (1, 2, 0), (2, 2, 88), (3, 0, i)] [] G h (fun o G' h' => lay G' h' ∧ Q o G' h') := by
  refine z_aload_n (q := 542) 1 dL_law_541 rfl rfl ?_
  refine z_aload_n (q := 543) 0 dL_law_542 rfl rfl ?_
  refine z_iload_n (q := 544) 3 dL_law_543 rfl rfl ?_
  refine z_iconst (q := 545) dL_law_544 rfl ?_
  refine z_iadd (q := 546) dL_law_545 rfl ?_
  refine z_iale (q := 547) z_c6 (by omega) (by omega) rfl dL_law_546 rfl ?_
  refine z_aload_n (q := 548) 0 dL_law_547 rfl rfl ?_
  refine z_iload_n (q := 549) 3 dL_law_548 rfl rfl ?_
  refine z_iconst (q := 550) dL_law_549 rfl ?_
  refine z_iadd (q := 551) dL_law_550 rfl ?_
  refine z_iale (q := 552) z_c6 (by omega) (by omega) rfl dL_law_551 rfl ?_
  refine z_aload_n (q := 553) 0 dL_law_552 rfl rfl ?_
  refine z_iload_n (q := 554) 3 dL_law_553 rfl rfl ?_
  refine z_iconst (q := 555) dL_law_554 rfl ?_
  refine z_iadd (q := 556) dL_law_555 rfl ?_
  refine z_iale (q := 557) z_c6 (by omega) (by omega) rfl dL_law_556 rfl ?_
  refine z_goV (q := 560) (av := [(0, (D.2.2.2.2.2.2 (i + 1))), (0, (D.2.2.2.2.2.2 (i + 2))), (0, (D.2.2.2.2.2.2 (i + 3)))]) (rest := []) cb9 (hl.i 0 (by decide) rfl) z_toi hl (law_c (d2 := d - 1) (by omega) o m (cc_stepAt (by omega) (hs _) (hs _) (hs _) o c) (fun G1 h1 c1 m1 => ?_)) mo_X11_stepAt np_X11_stepAt k869 k870 k871 rfl (nle rfl) dL_law_557 rfl
  intro hl1
  refine z_aload_n (q := 561) 2 dL_law_560 rfl rfl ?_
  refine z_aload_n (q := 562) 0 dL_law_561 rfl rfl ?_
  refine z_iload_n (q := 563) 3 dL_law_562 rfl rfl ?_
  refine z_iconst (q := 564) dL_law_563 rfl ?_
  refine z_iadd (q := 565) dL_law_564 rfl ?_
  refine z_iale (q := 566) z_c6 (by omega) (by omega) rfl dL_law_565 rfl ?_
  refine z_aload_n (q := 567) 0 dL_law_566 rfl rfl ?_
  refine z_iload_n (q := 568) 3 dL_law_567 rfl rfl ?_
  refine z_iconst (q := 569) dL_law_568 rfl ?_
  refine z_iadd (q := 570) dL_law_569 rfl ?_
  refine z_iale (q := 571) z_c6 (by omega) (by omega) rfl dL_law_570 rfl ?_
  refine z_aload_n (q := 572) 0 dL_law_571 rfl rfl ?_
  refine z_iload_n (q := 573) 3 dL_law_572 rfl rfl ?_
  refine z_iconst (q := 574) dL_law_573 rfl ?_
  refine z_iadd (q := 575) dL_law_574 rfl ?_
  refine z_iale (q := 576) z_c6 (by omega) (by omega) rfl dL_law_575 rfl ?_
  refine z_goV (q := 579) (av := [(0, (D.2.2.2.2.2.2 (i + 1))), (0, (D.2.2.2.2.2.2 (i + 2))), (0, (D.2.2.2.2.2.2 (i + 3)))]) (rest := [(0, (q_stepAt (D.2.2.2.2.2.2 (i + 1)) (D.2.2.2.2.2.2 (i + 2)) (D.2.2.2.2.2.2 (i + 3)) S).1)]) cb11 (hl1.i 88 (by decide) rfl) z_toi hl1 (law_m (d2 := d - 1) (by omega) c1 (mm_stepAt (by omega) (hs _) (hs _) (hs _) o m1) (fun h2 c2 m2 => ?_)) mo_X13_stepAt np_X13_stepAt k1607 k1608 k1609 rfl (nle rfl) dL_law_576 rfl
  intro hl2
  refine z_icmpE (t := 832) dL_law_579 (by decide) ?_
  exact K G1 h2 _ hl2 o c2 m2
theorem w_chain (hd : 40 ≤ d) (hs : ∀ j : Int, z_in (D.2.2.2.2.2.2 j)) {i : Int} (i0 : 0 ≤ i) (i6 : i + 6 ≤ D.2.2.2.2.2.1) (hl : lay G h) (o : aok S) (c : cAb G h S) (m : mAb h S) (K : ∀ (G' : zG) (h' : zH) (S' : zA), lay G' h' → aok S' → cAb G' h' S' → mAb h' S' → z_F D M_law d 832 [(0, 2, -6), (1, 2, 0), (2, 2, 88), (3, 0, i)] [] G' h' (fun o G' h' => lay G' h' ∧ Q o G' h')) : z_F D M_law d 584 [(0, 2, -6), (1, 2, 0), (2, 2, 88), (3, 0, i)] [] G h (fun o G' h' => lay G' h' ∧ Q o G' h') := by
  refine z_aload_n (q := 585) 1 dL_law_584 rfl rfl ?_
  refine z_aload_n (q := 586) 0 dL_law_585 rfl rfl ?_
  refine z_iload_n (q := 587) 3 dL_law_586 rfl rfl ?_
  refine z_iconst (q := 588) dL_law_587 rfl ?_
  refine z_iadd (q := 589) dL_law_588 rfl ?_
  refine z_iale (q := 590) z_c6 (by omega) (by omega) rfl dL_law_589 rfl ?_
  refine z_aload_n (q := 591) 0 dL_law_590 rfl rfl ?_
  refine z_iload_n (q := 592) 3 dL_law_591 rfl rfl ?_
  refine z_iconst (q := 593) dL_law_592 rfl ?_
  refine z_iadd (q := 594) dL_law_593 rfl ?_
  refine z_iale (q := 595) z_c6 (by omega) (by omega) rfl dL_law_594 rfl ?_
  refine z_aload_n (q := 596) 0 dL_law_595 rfl rfl ?_
  refine z_iload_n (q := 597) 3 dL_law_596 rfl rfl ?_
  refine z_iconst (q := 598) dL_law_597 rfl ?_
  refine z_iadd (q := 599) dL_law_598 rfl ?_
  refine z_iale (q := 600) z_c6 (by omega) (by omega) rfl dL_law_599 rfl ?_
  refine z_goV (q := 603) (av := [(0, (D.2.2.2.2.2.2 (i + 1))), (0, (D.2.2.2.2.2.2 (i + 2))), (0, (D.2.2.2.2.2.2 (i + 3)))]) (rest := []) cb9 (hl.i 0 (by decide) rfl) z_toi hl (law_c (d2 := d - 1) (by omega) o m (cc_chain (by omega) (hs _) (hs _) (hs _) o c) (fun G1 h1 c1 m1 => ?_)) mo_X11_chain np_X11_chain k877 k878 k879 rfl (nle rfl) dL_law_600 rfl
  intro hl1
  refine z_aload_n (q := 604) 2 dL_law_603 rfl rfl ?_
  refine z_aload_n (q := 605) 0 dL_law_604 rfl rfl ?_
  refine z_iload_n (q := 606) 3 dL_law_605 rfl rfl ?_
  refine z_iconst (q := 607) dL_law_606 rfl ?_
  refine z_iadd (q := 608) dL_law_607 rfl ?_
  refine z_iale (q := 609) z_c6 (by omega) (by omega) rfl dL_law_608 rfl ?_
  refine z_aload_n (q := 610) 0 dL_law_609 rfl rfl ?_
  refine z_iload_n (q := 611) 3 dL_law_610 rfl rfl ?_
  refine z_iconst (q := 612) dL_law_611 rfl ?_
  refine z_iadd (q := 613) dL_law_612 rfl ?_
  refine z_iale (q := 614) z_c6 (by omega) (by omega) rfl dL_law_613 rfl ?_
  refine z_aload_n (q := 615) 0 dL_law_614 rfl rfl ?_
  refine z_iload_n (q := 616) 3 dL_law_615 rfl rfl ?_
  refine z_iconst (q := 617) dL_law_616 rfl ?_
  refine z_iadd (q := 618) dL_law_617 rfl ?_
  refine z_iale (q := 619) z_c6 (by omega) (by omega) rfl dL_law_618 rfl ?_
  refine z_goV (q := 622) (av := [(0, (D.2.2.2.2.2.2 (i + 1))), (0, (D.2.2.2.2.2.2 (i + 2))), (0, (D.2.2.2.2.2.2 (i + 3)))]) (rest := [(0, (q_chain (D.2.2.2.2.2.2 (i + 1)) (D.2.2.2.2.2.2 (i + 2)) (D.2.2.2.2.2.2 (i + 3)) S).1)]) cb11 (hl1.i 88 (by decide) rfl) z_toi hl1 (law_m (d2 := d - 1) (by omega) c1 (mm_chain (by omega) (hs _) (hs _) (hs _) o m1) (fun h2 c2 m2 => ?_)) mo_X13_chain np_X13_chain k1611 k1612 k1613 rfl (nle rfl) dL_law_619 rfl
  intro hl2
  refine z_icmpE (t := 832) dL_law_622 (by decide) ?_
  exact K G1 h2 _ hl2 (aok_chain o _ _ _) c2 m2
theorem w_find (hd : 40 ≤ d) (hs : ∀ j : Int, z_in (D.2.2.2.2.2.2 j)) {i : Int} (i0 : 0 ≤ i) (i6 : i + 6 ≤ D.2.2.2.2.2.1) (hl : lay G h) (o : aok S) (c : cAb G h S) (m : mAb h S) (K : ∀ (G' : zG) (h' : zH) (S' : zA), lay G' h' → aok S' → cAb G' h' S' → mAb h' S' → z_F D M_law d 832 [(0, 2, -6), (1, 2, 0), (2, 2, 88), (3, 0, i)] [] G' h' (fun o G' h' => lay G' h' ∧ Q o G' h')) : z_F D M_law d 627 [(0, 2, -6), (1, 2, 0), (2, 2, 88), (3, 0, i)] [] G h (fun o G' h' => lay G' h' ∧ Q o G' h') := by
  refine z_aload_n (q := 628) 1 dL_law_627 rfl rfl ?_
  refine z_aload_n (q := 629) 0 dL_law_628 rfl rfl ?_
  refine z_iload_n (q := 630) 3 dL_law_629 rfl rfl ?_
  refine z_iconst (q := 631) dL_law_630 rfl ?_
  refine z_iadd (q := 632) dL_law_631 rfl ?_
  refine z_iale (q := 633) z_c6 (by omega) (by omega) rfl dL_law_632 rfl ?_
  refine z_aload_n (q := 634) 0 dL_law_633 rfl rfl ?_
  refine z_iload_n (q := 635) 3 dL_law_634 rfl rfl ?_
  refine z_iconst (q := 636) dL_law_635 rfl ?_
  refine z_iadd (q := 637) dL_law_636 rfl ?_
  refine z_iale (q := 638) z_c6 (by omega) (by omega) rfl dL_law_637 rfl ?_
  refine z_aload_n (q := 639) 0 dL_law_638 rfl rfl ?_
  refine z_iload_n (q := 640) 3 dL_law_639 rfl rfl ?_
  refine z_iconst (q := 641) dL_law_640 rfl ?_
  refine z_iadd (q := 642) dL_law_641 rfl ?_
  refine z_iale (q := 643) z_c6 (by omega) (by omega) rfl dL_law_642 rfl ?_
  refine z_aload_n (q := 644) 0 dL_law_643 rfl rfl ?_
  refine z_iload_n (q := 645) 3 dL_law_644 rfl rfl ?_
  refine z_iconst (q := 646) dL_law_645 rfl ?_
  refine z_iadd (q := 647) dL_law_646 rfl ?_
  refine z_iale (q := 648) z_c6 (by omega) (by omega) rfl dL_law_647 rfl ?_
  refine z_aload_n (q := 649) 0 dL_law_648 rfl rfl ?_
  refine z_iload_n (q := 650) 3 dL_law_649 rfl rfl ?_
  refine z_iconst (q := 651) dL_law_650 rfl ?_
  refine z_iadd (q := 652) dL_law_651 rfl ?_
  refine z_iale (q := 653) z_c6 (by omega) (by omega) rfl dL_law_652 rfl ?_
  refine z_goV (q := 656) (av := [(0, (D.2.2.2.2.2.2 (i + 1))), (0, (D.2.2.2.2.2.2 (i + 2))), (0, (D.2.2.2.2.2.2 (i + 3))), (0, (D.2.2.2.2.2.2 (i + 4))), (0, (D.2.2.2.2.2.2 (i + 5)))]) (rest := []) cb9 (hl.i 0 (by decide) rfl) z_toi hl (law_c (d2 := d - 1) (by omega) o m (cc_find (by omega) (hs _) (hs _) (hs _) (hs _) (hs _) o c) (fun G1 h1 c1 m1 => ?_)) mo_X11_find np_X11_find k887 k888 k889 rfl (nle rfl) dL_law_653 rfl
  intro hl1
  refine z_aload_n (q := 657) 2 dL_law_656 rfl rfl ?_
  refine z_aload_n (q := 658) 0 dL_law_657 rfl rfl ?_
  refine z_iload_n (q := 659) 3 dL_law_658 rfl rfl ?_
  refine z_iconst (q := 660) dL_law_659 rfl ?_
  refine z_iadd (q := 661) dL_law_660 rfl ?_
  refine z_iale (q := 662) z_c6 (by omega) (by omega) rfl dL_law_661 rfl ?_
  refine z_aload_n (q := 663) 0 dL_law_662 rfl rfl ?_
  refine z_iload_n (q := 664) 3 dL_law_663 rfl rfl ?_
  refine z_iconst (q := 665) dL_law_664 rfl ?_
  refine z_iadd (q := 666) dL_law_665 rfl ?_
  refine z_iale (q := 667) z_c6 (by omega) (by omega) rfl dL_law_666 rfl ?_
  refine z_aload_n (q := 668) 0 dL_law_667 rfl rfl ?_
  refine z_iload_n (q := 669) 3 dL_law_668 rfl rfl ?_
  refine z_iconst (q := 670) dL_law_669 rfl ?_
  refine z_iadd (q := 671) dL_law_670 rfl ?_
  refine z_iale (q := 672) z_c6 (by omega) (by omega) rfl dL_law_671 rfl ?_
  refine z_aload_n (q := 673) 0 dL_law_672 rfl rfl ?_
  refine z_iload_n (q := 674) 3 dL_law_673 rfl rfl ?_
  refine z_iconst (q := 675) dL_law_674 rfl ?_
  refine z_iadd (q := 676) dL_law_675 rfl ?_
  refine z_iale (q := 677) z_c6 (by omega) (by omega) rfl dL_law_676 rfl ?_
  refine z_aload_n (q := 678) 0 dL_law_677 rfl rfl ?_
  refine z_iload_n (q := 679) 3 dL_law_678 rfl rfl ?_
  refine z_iconst (q := 680) dL_law_679 rfl ?_
  refine z_iadd (q := 681) dL_law_680 rfl ?_
  refine z_iale (q := 682) z_c6 (by omega) (by omega) rfl dL_law_681 rfl ?_
  refine z_goV (q := 685) (av := [(0, (D.2.2.2.2.2.2 (i + 1))), (0, (D.2.2.2.2.2.2 (i + 2))), (0, (D.2.2.2.2.2.2 (i + 3))), (0, (D.2.2.2.2.2.2 (i + 4))), (0, (D.2.2.2.2.2.2 (i + 5)))]) (rest := [(0, (q_find (D.2.2.2.2.2.2 (i + 1)) (D.2.2.2.2.2.2 (i + 2)) (D.2.2.2.2.2.2 (i + 3)) (D.2.2.2.2.2.2 (i + 4)) (D.2.2.2.2.2.2 (i + 5)) S).1)]) cb11 (hl1.i 88 (by decide) rfl) z_toi hl1 (law_m (d2 := d - 1) (by omega) c1 (mm_find (by omega) (hs _) (hs _) (hs _) (hs _) (hs _) o m1) (fun h2 c2 m2 => ?_)) mo_X13_find np_X13_find k1615 k1616 k1617 rfl (nle rfl) dL_law_682 rfl
  intro hl2
  refine z_icmpE (t := 832) dL_law_685 (by decide) ?_
  exact K G1 h2 _ hl2 (aok_find o _ _ _ _ _) c2 m2
theorem w_found (hd : 40 ≤ d) (hs : ∀ j : Int, z_in (D.2.2.2.2.2.2 j)) {i : Int} (i0 : 0 ≤ i) (i6 : i + 6 ≤ D.2.2.2.2.2.1) (hl : lay G h) (o : aok S) (c : cAb G h S) (m : mAb h S) (K : ∀ (G' : zG) (h' : zH) (S' : zA), lay G' h' → aok S' → cAb G' h' S' → mAb h' S' → z_F D M_law d 832 [(0, 2, -6), (1, 2, 0), (2, 2, 88), (3, 0, i)] [] G' h' (fun o G' h' => lay G' h' ∧ Q o G' h')) : z_F D M_law d 690 [(0, 2, -6), (1, 2, 0), (2, 2, 88), (3, 0, i)] [] G h (fun o G' h' => lay G' h' ∧ Q o G' h') := by
  refine z_aload_n (q := 691) 1 dL_law_690 rfl rfl ?_
  refine z_aload_n (q := 692) 0 dL_law_691 rfl rfl ?_
  refine z_iload_n (q := 693) 3 dL_law_692 rfl rfl ?_
  refine z_iconst (q := 694) dL_law_693 rfl ?_
  refine z_iadd (q := 695) dL_law_694 rfl ?_
  refine z_iale (q := 696) z_c6 (by omega) (by omega) rfl dL_law_695 rfl ?_
  refine z_goV (q := 699) (av := [(0, (D.2.2.2.2.2.2 (i + 1)))]) (rest := []) cb9 (hl.i 0 (by decide) rfl) z_toi hl (law_c (d2 := d - 1) (by omega) o m (cc_found (hs _) c) (fun G1 h1 c1 m1 => ?_)) mo_X11_found np_X11_found k1046 k1047 k1048 rfl (nle rfl) dL_law_696 rfl
  intro hl1
  refine z_aload_n (q := 700) 2 dL_law_699 rfl rfl ?_
  refine z_aload_n (q := 701) 0 dL_law_700 rfl rfl ?_
  refine z_iload_n (q := 702) 3 dL_law_701 rfl rfl ?_
  refine z_iconst (q := 703) dL_law_702 rfl ?_
  refine z_iadd (q := 704) dL_law_703 rfl ?_
  refine z_iale (q := 705) z_c6 (by omega) (by omega) rfl dL_law_704 rfl ?_
  refine z_goV (q := 708) (av := [(0, (D.2.2.2.2.2.2 (i + 1)))]) (rest := [(0, (q_found (D.2.2.2.2.2.2 (i + 1)) S).1)]) cb11 (hl1.i 88 (by decide) rfl) z_toi hl1 (law_m (d2 := d - 1) (by omega) c1 (mm_found (hs _) m1) (fun h2 c2 m2 => ?_)) mo_X13_found np_X13_found k1675 k1676 k1677 rfl (nle rfl) dL_law_705 rfl
  intro hl2
  refine z_icmpE (t := 832) dL_law_708 (by decide) ?_
  exact K G1 h2 _ hl2 o c2 m2
theorem w_take (hd : 40 ≤ d) (hs : ∀ j : Int, z_in (D.2.2.2.2.2.2 j)) {i : Int} (i0 : 0 ≤ i) (i6 : i + 6 ≤ D.2.2.2.2.2.1) (hl : lay G h) (o : aok S) (c : cAb G h S) (m : mAb h S) (K : ∀ (G' : zG) (h' : zH) (S' : zA), lay G' h' → aok S' → cAb G' h' S' → mAb h' S' → z_F D M_law d 832 [(0, 2, -6), (1, 2, 0), (2, 2, 88), (3, 0, i)] [] G' h' (fun o G' h' => lay G' h' ∧ Q o G' h')) : z_F D M_law d 713 [(0, 2, -6), (1, 2, 0), (2, 2, 88), (3, 0, i)] [] G h (fun o G' h' => lay G' h' ∧ Q o G' h') := by
  refine z_aload_n (q := 714) 1 dL_law_713 rfl rfl ?_
  refine z_aload_n (q := 715) 0 dL_law_714 rfl rfl ?_
  refine z_iload_n (q := 716) 3 dL_law_715 rfl rfl ?_
  refine z_iconst (q := 717) dL_law_716 rfl ?_
  refine z_iadd (q := 718) dL_law_717 rfl ?_
  refine z_iale (q := 719) z_c6 (by omega) (by omega) rfl dL_law_718 rfl ?_
  refine z_aload_n (q := 720) 0 dL_law_719 rfl rfl ?_
  refine z_iload_n (q := 721) 3 dL_law_720 rfl rfl ?_
  refine z_iconst (q := 722) dL_law_721 rfl ?_
  refine z_iadd (q := 723) dL_law_722 rfl ?_
  refine z_iale (q := 724) z_c6 (by omega) (by omega) rfl dL_law_723 rfl ?_
  refine z_goV (q := 727) (av := [(0, (D.2.2.2.2.2.2 (i + 1))), (0, (D.2.2.2.2.2.2 (i + 2)))]) (rest := []) cb9 (hl.i 0 (by decide) rfl) z_toi hl (law_c (d2 := d - 1) (by omega) o m (cc_take (by omega) (hs _) (hs _) o c) (fun G1 h1 c1 m1 => ?_)) mo_X11_take np_X11_take k1050 k1051 k1052 rfl (nle rfl) dL_law_724 rfl
  intro hl1
  refine z_aload_n (q := 728) 2 dL_law_727 rfl rfl ?_
  refine z_aload_n (q := 729) 0 dL_law_728 rfl rfl ?_
  refine z_iload_n (q := 730) 3 dL_law_729 rfl rfl ?_
  refine z_iconst (q := 731) dL_law_730 rfl ?_
  refine z_iadd (q := 732) dL_law_731 rfl ?_
  refine z_iale (q := 733) z_c6 (by omega) (by omega) rfl dL_law_732 rfl ?_
  refine z_aload_n (q := 734) 0 dL_law_733 rfl rfl ?_
  refine z_iload_n (q := 735) 3 dL_law_734 rfl rfl ?_
  refine z_iconst (q := 736) dL_law_735 rfl ?_
  refine z_iadd (q := 737) dL_law_736 rfl ?_
  refine z_iale (q := 738) z_c6 (by omega) (by omega) rfl dL_law_737 rfl ?_
  refine z_goV (q := 741) (av := [(0, (D.2.2.2.2.2.2 (i + 1))), (0, (D.2.2.2.2.2.2 (i + 2)))]) (rest := [(0, (q_take (D.2.2.2.2.2.2 (i + 1)) (D.2.2.2.2.2.2 (i + 2)) S).1)]) cb11 (hl1.i 88 (by decide) rfl) z_toi hl1 (law_m (d2 := d - 1) (by omega) c1 (mm_take (by omega) (hs _) (hs _) o m1) (fun h2 c2 m2 => ?_)) mo_X13_take np_X13_take k1679 k1680 k1681 rfl (nle rfl) dL_law_738 rfl
  intro hl2
  refine z_icmpE (t := 832) dL_law_741 (by decide) ?_
  exact K G1 h2 _ hl2 (aok_take o _ _) c2 m2
theorem w_part (hd : 40 ≤ d) (hs : ∀ j : Int, z_in (D.2.2.2.2.2.2 j)) {i : Int} (i0 : 0 ≤ i) (i6 : i + 6 ≤ D.2.2.2.2.2.1) (hl : lay G h) (o : aok S) (c : cAb G h S) (m : mAb h S) (K : ∀ (G' : zG) (h' : zH) (S' : zA), lay G' h' → aok S' → cAb G' h' S' → mAb h' S' → z_F D M_law d 832 [(0, 2, -6), (1, 2, 0), (2, 2, 88), (3, 0, i)] [] G' h' (fun o G' h' => lay G' h' ∧ Q o G' h')) : z_F D M_law d 746 [(0, 2, -6), (1, 2, 0), (2, 2, 88), (3, 0, i)] [] G h (fun o G' h' => lay G' h' ∧ Q o G' h') := by
  refine z_aload_n (q := 747) 1 dL_law_746 rfl rfl ?_
  refine z_aload_n (q := 748) 0 dL_law_747 rfl rfl ?_
  refine z_iload_n (q := 749) 3 dL_law_748 rfl rfl ?_
  refine z_iconst (q := 750) dL_law_749 rfl ?_
  refine z_iadd (q := 751) dL_law_750 rfl ?_
  refine z_iale (q := 752) z_c6 (by omega) (by omega) rfl dL_law_751 rfl ?_
  refine z_aload_n (q := 753) 0 dL_law_752 rfl rfl ?_
  refine z_iload_n (q := 754) 3 dL_law_753 rfl rfl ?_
  refine z_iconst (q := 755) dL_law_754 rfl ?_
  refine z_iadd (q := 756) dL_law_755 rfl ?_
  refine z_iale (q := 757) z_c6 (by omega) (by omega) rfl dL_law_756 rfl ?_
  refine z_aload_n (q := 758) 0 dL_law_757 rfl rfl ?_
  refine z_iload_n (q := 759) 3 dL_law_758 rfl rfl ?_
  refine z_iconst (q := 760) dL_law_759 rfl ?_
  refine z_iadd (q := 761) dL_law_760 rfl ?_
  refine z_iale (q := 762) z_c6 (by omega) (by omega) rfl dL_law_761 rfl ?_
  refine z_aload_n (q := 763) 0 dL_law_762 rfl rfl ?_
  refine z_iload_n (q := 764) 3 dL_law_763 rfl rfl ?_
  refine z_iconst (q := 765) dL_law_764 rfl ?_
  refine z_iadd (q := 766) dL_law_765 rfl ?_
  refine z_iale (q := 767) z_c6 (by omega) (by omega) rfl dL_law_766 rfl ?_
  refine z_aload_n (q := 768) 0 dL_law_767 rfl rfl ?_
  refine z_iload_n (q := 769) 3 dL_law_768 rfl rfl ?_
  refine z_iconst (q := 770) dL_law_769 rfl ?_
  refine z_iadd (q := 771) dL_law_770 rfl ?_
  refine z_iale (q := 772) z_c6 (by omega) (by omega) rfl dL_law_771 rfl ?_
  refine z_goV (q := 775) (av := [(0, (D.2.2.2.2.2.2 (i + 1))), (0, (D.2.2.2.2.2.2 (i + 2))), (0, (D.2.2.2.2.2.2 (i + 3))), (0, (D.2.2.2.2.2.2 (i + 4))), (0, (D.2.2.2.2.2.2 (i + 5)))]) (rest := []) cb9 (hl.i 0 (by decide) rfl) z_toi hl (law_c (d2 := d - 1) (by omega) o m (cc_part (by omega) (hs _) (hs _) (hs _) (hs _) (hs _) o c) (fun G1 h1 c1 m1 => ?_)) mo_X11_part np_X11_part k1060 k1061 k1062 rfl (nle rfl) dL_law_772 rfl
  intro hl1
  refine z_aload_n (q := 776) 2 dL_law_775 rfl rfl ?_
  refine z_aload_n (q := 777) 0 dL_law_776 rfl rfl ?_
  refine z_iload_n (q := 778) 3 dL_law_777 rfl rfl ?_
  refine z_iconst (q := 779) dL_law_778 rfl ?_
  refine z_iadd (q := 780) dL_law_779 rfl ?_
  refine z_iale (q := 781) z_c6 (by omega) (by omega) rfl dL_law_780 rfl ?_
  refine z_aload_n (q := 782) 0 dL_law_781 rfl rfl ?_
  refine z_iload_n (q := 783) 3 dL_law_782 rfl rfl ?_
  refine z_iconst (q := 784) dL_law_783 rfl ?_
  refine z_iadd (q := 785) dL_law_784 rfl ?_
  refine z_iale (q := 786) z_c6 (by omega) (by omega) rfl dL_law_785 rfl ?_
  refine z_aload_n (q := 787) 0 dL_law_786 rfl rfl ?_
  refine z_iload_n (q := 788) 3 dL_law_787 rfl rfl ?_
  refine z_iconst (q := 789) dL_law_788 rfl ?_
  refine z_iadd (q := 790) dL_law_789 rfl ?_
  refine z_iale (q := 791) z_c6 (by omega) (by omega) rfl dL_law_790 rfl ?_
  refine z_aload_n (q := 792) 0 dL_law_791 rfl rfl ?_
  refine z_iload_n (q := 793) 3 dL_law_792 rfl rfl ?_
  refine z_iconst (q := 794) dL_law_793 rfl ?_
  refine z_iadd (q := 795) dL_law_794 rfl ?_
  refine z_iale (q := 796) z_c6 (by omega) (by omega) rfl dL_law_795 rfl ?_
  refine z_aload_n (q := 797) 0 dL_law_796 rfl rfl ?_
  refine z_iload_n (q := 798) 3 dL_law_797 rfl rfl ?_
  refine z_iconst (q := 799) dL_law_798 rfl ?_
  refine z_iadd (q := 800) dL_law_799 rfl ?_
  refine z_iale (q := 801) z_c6 (by omega) (by omega) rfl dL_law_800 rfl ?_
  refine z_goV (q := 804) (av := [(0, (D.2.2.2.2.2.2 (i + 1))), (0, (D.2.2.2.2.2.2 (i + 2))), (0, (D.2.2.2.2.2.2 (i + 3))), (0, (D.2.2.2.2.2.2 (i + 4))), (0, (D.2.2.2.2.2.2 (i + 5)))]) (rest := [(0, (q_part (D.2.2.2.2.2.2 (i + 1)) (D.2.2.2.2.2.2 (i + 2)) (D.2.2.2.2.2.2 (i + 3)) (D.2.2.2.2.2.2 (i + 4)) (D.2.2.2.2.2.2 (i + 5)) S).1)]) cb11 (hl1.i 88 (by decide) rfl) z_toi hl1 (law_m (d2 := d - 1) (by omega) c1 (mm_part (by omega) (hs _) (hs _) (hs _) (hs _) (hs _) o m1) (fun h2 c2 m2 => ?_)) mo_X13_part np_X13_part k1683 k1684 k1685 rfl (nle rfl) dL_law_801 rfl
  intro hl2
  refine z_icmpE (t := 832) dL_law_804 (by decide) ?_
  exact K G1 h2 _ hl2 (aok_part o _ _ _ _ _) c2 m2
theorem w_count (hd : 40 ≤ d) (hs : ∀ j : Int, z_in (D.2.2.2.2.2.2 j)) {i : Int} (i0 : 0 ≤ i) (i6 : i + 6 ≤ D.2.2.2.2.2.1) (hl : lay G h) (o : aok S) (c : cAb G h S) (m : mAb h S) (K : ∀ (G' : zG) (h' : zH) (S' : zA), lay G' h' → aok S' → cAb G' h' S' → mAb h' S' → z_F D M_law d 832 [(0, 2, -6), (1, 2, 0), (2, 2, 88), (3, 0, i)] [] G' h' (fun o G' h' => lay G' h' ∧ Q o G' h')) : z_F D M_law d 809 [(0, 2, -6), (1, 2, 0), (2, 2, 88), (3, 0, i)] [] G h (fun o G' h' => lay G' h' ∧ Q o G' h') := by
  refine z_aload_n (q := 810) 1 dL_law_809 rfl rfl ?_
  refine z_aload_n (q := 811) 0 dL_law_810 rfl rfl ?_
  refine z_iload_n (q := 812) 3 dL_law_811 rfl rfl ?_
  refine z_iconst (q := 813) dL_law_812 rfl ?_
  refine z_iadd (q := 814) dL_law_813 rfl ?_
  refine z_iale (q := 815) z_c6 (by omega) (by omega) rfl dL_law_814 rfl ?_
  refine z_goV (q := 818) (av := [(0, (D.2.2.2.2.2.2 (i + 1)))]) (rest := []) cb9 (hl.i 0 (by decide) rfl) z_toi hl (law_c (d2 := d - 1) (by omega) o m (cc_count (by omega) (hs _) c) (fun G1 h1 c1 m1 => ?_)) mo_X11_count np_X11_count k1083 k1084 k1085 rfl (nle rfl) dL_law_815 rfl
  intro hl1
  refine z_aload_n (q := 819) 2 dL_law_818 rfl rfl ?_
  refine z_aload_n (q := 820) 0 dL_law_819 rfl rfl ?_
  refine z_iload_n (q := 821) 3 dL_law_820 rfl rfl ?_
  refine z_iconst (q := 822) dL_law_821 rfl ?_
  refine z_iadd (q := 823) dL_law_822 rfl ?_
  refine z_iale (q := 824) z_c6 (by omega) (by omega) rfl dL_law_823 rfl ?_
  refine z_goV (q := 827) (av := [(0, (D.2.2.2.2.2.2 (i + 1)))]) (rest := [(0, (q_count (D.2.2.2.2.2.2 (i + 1)) S).1)]) cb11 (hl1.i 88 (by decide) rfl) z_toi hl1 (law_m (d2 := d - 1) (by omega) c1 (mm_count (hs _) m1) (fun h2 c2 m2 => ?_)) mo_X13_count np_X13_count k1693 k1694 k1695 rfl (nle rfl) dL_law_824 rfl
  intro hl2
  refine z_icmpE (t := 832) dL_law_827 (by decide) ?_
  exact K G1 h2 _ hl2 o c2 m2
end Law
