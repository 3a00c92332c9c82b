theorem b_X3_change_0 {D : zD} {d : Nat} {G : zG} {h : zH} {Q : zO → zG → zH → Prop} {x1 x2 x3 x4 x5 : Int} (p1 : z_is G x1 3)
    (u1 : z_Ki D M_X3_numbersCanBe d [(0, (h x1 2)), (0, x3), (0, x4), (0, x5)] G h (fun r G' h' => z_Y D M_X3_change d 12 [(0, 2, 12), (1, 2, x1), (2, 2, x2), (3, 0, x3), (4, 0, x4), (5, 0, x5)] [(0, r)] G' h' Q)) :
    z_Y D M_X3_change d 0 [(0, 2, 12), (1, 2, x1), (2, 2, x2), (3, 0, x3), (4, 0, x4), (5, 0, x5)] [] G h Q := by
  intro hl0
  refine z_aload_n (q := 1) 1 dX3_change_0 rfl rfl ?_
  refine z_gf (q := 4) (ki := 2) (v := (0, (h x1 2))) fX3_43 rfl rfl p1 dX3_change_1 rfl ?_
  refine z_iload_n (q := 5) 3 dX3_change_4 rfl rfl ?_
  refine z_iload (q := 7) 4 dX3_change_5 rfl rfl ?_
  refine z_iload (q := 9) 5 dX3_change_7 rfl rfl ?_
  exact z_goS (q := 12) (av := [(0, (h x1 2)), (0, x3), (0, x4), (0, x5)]) (rest := []) z_toi hl0 (u1) mo_X3_numbersCanBe np_X3_numbersCanBe k732 k733 rfl (nle rfl) dX3_change_9 rfl
theorem b_X3_change_12 {D : zD} {d : Nat} {G : zG} {h : zH} {Q : zO → zG → zH → Prop} {s0 x1 x2 x3 x4 x5 : Int} (p1 : z_in s0) (p2 : ¬ s0 = 0 → ¬ x3 = 1 → ¬ x3 = 2 → ¬ x3 = 3 → ¬ x3 = 4 → ¬ x3 = 5 → ¬ x3 = 6 → ¬ x3 = 7 → ¬ x3 = 8 → ¬ x3 = 9 → ¬ x3 = 10 → ¬ x3 = 11 → ¬ x3 = 12 → ¬ x3 = 13 → ¬ x3 = 14 → z_in x3)
    (u1 : ¬ s0 = 0 → x3 = 1 → z_Ki D M_X3_turn d [(2, x1), (2, x2)] G h (fun r G' h' => z_Y D M_X3_change d 93 [] [(0, r)] G' h' Q))
    (u2 : ¬ s0 = 0 → ¬ x3 = 1 → x3 = 2 → z_Ki D M_X3_drop d [(2, x1), (2, x2), (0, x4)] G h (fun r G' h' => z_Y D M_X3_change d 101 [] [(0, r)] G' h' Q))
    (u3 : ¬ s0 = 0 → ¬ x3 = 1 → ¬ x3 = 2 → x3 = 3 → z_Ki D M_X3_split d [(2, x1), (2, x2), (0, x4), (0, x5)] G h (fun r G' h' => z_Y D M_X3_change d 111 [] [(0, r)] G' h' Q))
    (u4 : ¬ s0 = 0 → ¬ x3 = 1 → ¬ x3 = 2 → ¬ x3 = 3 → x3 = 4 → z_Ki D M_X3_fill d [(2, x1), (2, x2), (0, x4)] G h (fun r G' h' => z_Y D M_X3_change d 119 [] [(0, r)] G' h' Q))
    (u5 : ¬ s0 = 0 → ¬ x3 = 1 → ¬ x3 = 2 → ¬ x3 = 3 → ¬ x3 = 4 → x3 = 5 → z_Ki D M_X3_join d [(2, x1), (2, x2), (0, x4), (0, x5)] G h (fun r G' h' => z_Y D M_X3_change d 129 [] [(0, r)] G' h' Q))
    (u6 : ¬ s0 = 0 → ¬ x3 = 1 → ¬ x3 = 2 → ¬ x3 = 3 → ¬ x3 = 4 → ¬ x3 = 5 → x3 = 6 → z_Ki D M_X3_fold d [(2, x1), (2, x2), (0, x4)] G h (fun r G' h' => z_Y D M_X3_change d 137 [] [(0, r)] G' h' Q))
    (u7 : ¬ s0 = 0 → ¬ x3 = 1 → ¬ x3 = 2 → ¬ x3 = 3 → ¬ x3 = 4 → ¬ x3 = 5 → ¬ x3 = 6 → x3 = 7 → z_Ki D M_X3_unfold d [(2, 12), (2, x1), (2, x2)] G h (fun r G' h' => z_Y D M_X3_change d 144 [] [(0, r)] G' h' Q))
    (u8 : ¬ s0 = 0 → ¬ x3 = 1 → ¬ x3 = 2 → ¬ x3 = 3 → ¬ x3 = 4 → ¬ x3 = 5 → ¬ x3 = 6 → ¬ x3 = 7 → x3 = 8 → z_Ki D M_X3_sort d [(2, 12), (2, x1), (2, x2), (0, x4)] G h (fun r G' h' => z_Y D M_X3_change d 153 [] [(0, r)] G' h' Q))
    (u9 : ¬ s0 = 0 → ¬ x3 = 1 → ¬ x3 = 2 → ¬ x3 = 3 → ¬ x3 = 4 → ¬ x3 = 5 → ¬ x3 = 6 → ¬ x3 = 7 → ¬ x3 = 8 → x3 = 9 → z_Ki D M_X3_single d [(2, 12), (2, x1), (2, x2)] G h (fun r G' h' => z_Y D M_X3_change d 160 [] [(0, r)] G' h' Q))
    (u10 : ¬ s0 = 0 → ¬ x3 = 1 → ¬ x3 = 2 → ¬ x3 = 3 → ¬ x3 = 4 → ¬ x3 = 5 → ¬ x3 = 6 → ¬ x3 = 7 → ¬ x3 = 8 → ¬ x3 = 9 → x3 = 10 → z_Ki D M_X3_tally d [(2, 12), (2, x1), (2, x2), (0, x4)] G h (fun r G' h' => z_Y D M_X3_change d 169 [] [(0, r)] G' h' Q))
    (u11 : ¬ s0 = 0 → ¬ x3 = 1 → ¬ x3 = 2 → ¬ x3 = 3 → ¬ x3 = 4 → ¬ x3 = 5 → ¬ x3 = 6 → ¬ x3 = 7 → ¬ x3 = 8 → ¬ x3 = 9 → ¬ x3 = 10 → x3 = 11 → z_Ki D M_X3_sum d [(2, 12), (2, x1), (2, x2), (0, x4), (0, x5)] G h (fun r G' h' => z_Y D M_X3_change d 180 [] [(0, r)] G' h' Q))
    (u12 : ¬ s0 = 0 → ¬ x3 = 1 → ¬ x3 = 2 → ¬ x3 = 3 → ¬ x3 = 4 → ¬ x3 = 5 → ¬ x3 = 6 → ¬ x3 = 7 → ¬ x3 = 8 → ¬ x3 = 9 → ¬ x3 = 10 → ¬ x3 = 11 → x3 = 12 → z_Ki D M_X3_keep d [(2, 12), (2, x1), (2, x2), (0, x4)] G h (fun r G' h' => z_Y D M_X3_change d 189 [] [(0, r)] G' h' Q))
    (u13 : ¬ s0 = 0 → ¬ x3 = 1 → ¬ x3 = 2 → ¬ x3 = 3 → ¬ x3 = 4 → ¬ x3 = 5 → ¬ x3 = 6 → ¬ x3 = 7 → ¬ x3 = 8 → ¬ x3 = 9 → ¬ x3 = 10 → ¬ x3 = 11 → ¬ x3 = 12 → x3 = 13 → z_Ki D M_X3_head d [(2, x1), (2, x2)] G h (fun r G' h' => z_Y D M_X3_change d 195 [] [(0, r)] G' h' Q))
    (u14 : ¬ s0 = 0 → ¬ x3 = 1 → ¬ x3 = 2 → ¬ x3 = 3 → ¬ x3 = 4 → ¬ x3 = 5 → ¬ x3 = 6 → ¬ x3 = 7 → ¬ x3 = 8 → ¬ x3 = 9 → ¬ x3 = 10 → ¬ x3 = 11 → ¬ x3 = 12 → ¬ x3 = 13 → x3 = 14 → z_Ki D M_X3_swap d [(2, x1), (2, x2), (0, x4)] G h (fun r G' h' => z_Y D M_X3_change d 203 [] [(0, r)] G' h' Q))
    (u15 : ¬ s0 = 0 → ¬ x3 = 1 → ¬ x3 = 2 → ¬ x3 = 3 → ¬ x3 = 4 → ¬ x3 = 5 → ¬ x3 = 6 → ¬ x3 = 7 → ¬ x3 = 8 → ¬ x3 = 9 → ¬ x3 = 10 → ¬ x3 = 11 → ¬ x3 = 12 → ¬ x3 = 13 → ¬ x3 = 14 → Q (.inl (some (0, 0))) G h)
    (u16 : ¬ (¬ s0 = 0) → Q (.inl (some (0, 0))) G h) :
    z_Y D M_X3_change d 12 [(0, 2, 12), (1, 2, x1), (2, 2, x2), (3, 0, x3), (4, 0, x4), (5, 0, x5)] [(0, s0)] G h Q := by
  intro hl0
  refine z_if_ne (q := 15) (t := 17) p1 dX3_change_12 (by decide) rfl (fun c1 => ?_) (fun c1 => ?_)
  · refine z_iload_n (q := 18) 3 dX3_change_17 rfl rfl ?_
    by_cases c2 : x3 = 1
    · refine z_tswIn (t := 88) 1 c2 ⟨by decide, by decide⟩ dX3_change_18 (by decide) (by decide) rfl (by decide) ?_
      refine z_aload_n (q := 89) 1 dX3_change_88 rfl rfl ?_
      refine z_aload_n (q := 90) 2 dX3_change_89 rfl rfl ?_
      refine z_sub (L' := []) [] rfl ?_
      exact z_goS (q := 93) (av := [(2, x1), (2, x2)]) (rest := []) z_toi hl0 (u1 c1 c2) mo_X3_turn np_X3_turn k739 k740 rfl (nle rfl) dX3_change_90 rfl
    by_cases c3 : x3 = 2
    · refine z_tswIn (t := 94) 2 c3 ⟨by decide, by decide⟩ dX3_change_18 (by decide) (by decide) rfl (by decide) ?_
      refine z_aload_n (q := 95) 1 dX3_change_94 rfl rfl ?_
      refine z_aload_n (q := 96) 2 dX3_change_95 rfl rfl ?_
      refine z_iload (q := 98) 4 dX3_change_96 rfl rfl ?_
      refine z_sub (L' := []) [] rfl ?_
      exact z_goS (q := 101) (av := [(2, x1), (2, x2), (0, x4)]) (rest := []) z_toi hl0 (u2 c1 c2 c3) mo_X3_drop np_X3_drop k748 k749 rfl (nle rfl) dX3_change_98 rfl
    by_cases c4 : x3 = 3
    · refine z_tswIn (t := 102) 3 c4 ⟨by decide, by decide⟩ dX3_change_18 (by decide) (by decide) rfl (by decide) ?_
      refine z_aload_n (q := 103) 1 dX3_change_102 rfl rfl ?_
      refine z_aload_n (q := 104) 2 dX3_change_103 rfl rfl ?_
      refine z_iload (q := 106) 4 dX3_change_104 rfl rfl ?_
      refine z_iload (q := 108) 5 dX3_change_106 rfl rfl ?_
      refine z_sub (L' := []) [] rfl ?_
      exact z_goS (q := 111) (av := [(2, x1), (2, x2), (0, x4), (0, x5)]) (rest := []) z_toi hl0 (u3 c1 c2 c3 c4) mo_X3_split np_X3_split k754 k755 rfl (nle rfl) dX3_change_108 rfl
    by_cases c5 : x3 = 4
    · refine z_tswIn (t := 112) 4 c5 ⟨by decide, by decide⟩ dX3_change_18 (by decide) (by decide) rfl (by decide) ?_
      refine z_aload_n (q := 113) 1 dX3_change_112 rfl rfl ?_
      refine z_aload_n (q := 114) 2 dX3_change_113 rfl rfl ?_
      refine z_iload (q := 116) 4 dX3_change_114 rfl rfl ?_
      refine z_sub (L' := []) [] rfl ?_
      exact z_goS (q := 119) (av := [(2, x1), (2, x2), (0, x4)]) (rest := []) z_toi hl0 (u4 c1 c2 c3 c4 c5) mo_X3_fill np_X3_fill k764 k765 rfl (nle rfl) dX3_change_116 rfl
    by_cases c6 : x3 = 5
    · refine z_tswIn (t := 120) 5 c6 ⟨by decide, by decide⟩ dX3_change_18 (by decide) (by decide) rfl (by decide) ?_
      refine z_aload_n (q := 121) 1 dX3_change_120 rfl rfl ?_
      refine z_aload_n (q := 122) 2 dX3_change_121 rfl rfl ?_
      refine z_iload (q := 124) 4 dX3_change_122 rfl rfl ?_
      refine z_iload (q := 126) 5 dX3_change_124 rfl rfl ?_
      refine z_sub (L' := []) [] rfl ?_
      exact z_goS (q := 129) (av := [(2, x1), (2, x2), (0, x4), (0, x5)]) (rest := []) z_toi hl0 (u5 c1 c2 c3 c4 c5 c6) mo_X3_join np_X3_join k768 k769 rfl (nle rfl) dX3_change_126 rfl
    by_cases c7 : x3 = 6
    · refine z_tswIn (t := 130) 6 c7 ⟨by decide, by decide⟩ dX3_change_18 (by decide) (by decide) rfl (by decide) ?_
      refine z_aload_n (q := 131) 1 dX3_change_130 rfl rfl ?_
      refine z_aload_n (q := 132) 2 dX3_change_131 rfl rfl ?_
      refine z_iload (q := 134) 4 dX3_change_132 rfl rfl ?_
      refine z_sub (L' := []) [] rfl ?_
      exact z_goS (q := 137) (av := [(2, x1), (2, x2), (0, x4)]) (rest := []) z_toi hl0 (u6 c1 c2 c3 c4 c5 c6 c7) mo_X3_fold np_X3_fold k773 k774 rfl (nle rfl) dX3_change_134 rfl
    by_cases c8 : x3 = 7
    · refine z_tswIn (t := 138) 7 c8 ⟨by decide, by decide⟩ dX3_change_18 (by decide) (by decide) rfl (by decide) ?_
      refine z_aload_n (q := 139) 0 dX3_change_138 rfl rfl ?_
      refine z_aload_n (q := 140) 1 dX3_change_139 rfl rfl ?_
      refine z_aload_n (q := 141) 2 dX3_change_140 rfl rfl ?_
      refine z_sub (L' := []) [] rfl ?_
      exact z_goV (q := 144) (av := [(2, x1), (2, x2)]) (rest := []) cb2 (hl0.i 12 (by decide) rfl) z_toi hl0 (u7 c1 c2 c3 c4 c5 c6 c7 c8) mo_X3_unfold np_X3_unfold k782 k784 k18 rfl (nle rfl) dX3_change_141 rfl
    by_cases c9 : x3 = 8
    · refine z_tswIn (t := 145) 8 c9 ⟨by decide, by decide⟩ dX3_change_18 (by decide) (by decide) rfl (by decide) ?_
      refine z_aload_n (q := 146) 0 dX3_change_145 rfl rfl ?_
      refine z_aload_n (q := 147) 1 dX3_change_146 rfl rfl ?_
      refine z_aload_n (q := 148) 2 dX3_change_147 rfl rfl ?_
      refine z_iload (q := 150) 4 dX3_change_148 rfl rfl ?_
      refine z_sub (L' := []) [] rfl ?_
      exact z_goV (q := 153) (av := [(2, x1), (2, x2), (0, x4)]) (rest := []) cb2 (hl0.i 12 (by decide) rfl) z_toi hl0 (u8 c1 c2 c3 c4 c5 c6 c7 c8 c9) mo_X3_sort np_X3_sort k800 k802 k20 rfl (nle rfl) dX3_change_150 rfl
    by_cases c10 : x3 = 9
    · refine z_tswIn (t := 154) 9 c10 ⟨by decide, by decide⟩ dX3_change_18 (by decide) (by decide) rfl (by decide) ?_
      refine z_aload_n (q := 155) 0 dX3_change_154 rfl rfl ?_
      refine z_aload_n (q := 156) 1 dX3_change_155 rfl rfl ?_
      refine z_aload_n (q := 157) 2 dX3_change_156 rfl rfl ?_
      refine z_sub (L' := []) [] rfl ?_
      exact z_goV (q := 160) (av := [(2, x1), (2, x2)]) (rest := []) cb2 (hl0.i 12 (by decide) rfl) z_toi hl0 (u9 c1 c2 c3 c4 c5 c6 c7 c8 c9 c10) mo_X3_single np_X3_single k807 k809 k21 rfl (nle rfl) dX3_change_157 rfl
    by_cases c11 : x3 = 10
    · refine z_tswIn (t := 161) 10 c11 ⟨by decide, by decide⟩ dX3_change_18 (by decide) (by decide) rfl (by decide) ?_
      refine z_aload_n (q := 162) 0 dX3_change_161 rfl rfl ?_
      refine z_aload_n (q := 163) 1 dX3_change_162 rfl rfl ?_
      refine z_aload_n (q := 164) 2 dX3_change_163 rfl rfl ?_
      refine z_iload (q := 166) 4 dX3_change_164 rfl rfl ?_
      refine z_sub (L' := []) [] rfl ?_
      exact z_goV (q := 169) (av := [(2, x1), (2, x2), (0, x4)]) (rest := []) cb2 (hl0.i 12 (by decide) rfl) z_toi hl0 (u10 c1 c2 c3 c4 c5 c6 c7 c8 c9 c10 c11) mo_X3_tally np_X3_tally k811 k813 k22 rfl (nle rfl) dX3_change_166 rfl
    by_cases c12 : x3 = 11
    · refine z_tswIn (t := 170) 11 c12 ⟨by decide, by decide⟩ dX3_change_18 (by decide) (by decide) rfl (by decide) ?_
      refine z_aload_n (q := 171) 0 dX3_change_170 rfl rfl ?_
      refine z_aload_n (q := 172) 1 dX3_change_171 rfl rfl ?_
      refine z_aload_n (q := 173) 2 dX3_change_172 rfl rfl ?_
      refine z_iload (q := 175) 4 dX3_change_173 rfl rfl ?_
      refine z_iload (q := 177) 5 dX3_change_175 rfl rfl ?_
      refine z_sub (L' := []) [] rfl ?_
      exact z_goV (q := 180) (av := [(2, x1), (2, x2), (0, x4), (0, x5)]) (rest := []) cb2 (hl0.i 12 (by decide) rfl) z_toi hl0 (u11 c1 c2 c3 c4 c5 c6 c7 c8 c9 c10 c11 c12) mo_X3_sum np_X3_sum k826 k828 k24 rfl (nle rfl) dX3_change_177 rfl
    by_cases c13 : x3 = 12
    · refine z_tswIn (t := 181) 12 c13 ⟨by decide, by decide⟩ dX3_change_18 (by decide) (by decide) rfl (by decide) ?_
      refine z_aload_n (q := 182) 0 dX3_change_181 rfl rfl ?_
      refine z_aload_n (q := 183) 1 dX3_change_182 rfl rfl ?_
      refine z_aload_n (q := 184) 2 dX3_change_183 rfl rfl ?_
      refine z_iload (q := 186) 4 dX3_change_184 rfl rfl ?_
      refine z_sub (L' := []) [] rfl ?_
      exact z_goV (q := 189) (av := [(2, x1), (2, x2), (0, x4)]) (rest := []) cb2 (hl0.i 12 (by decide) rfl) z_toi hl0 (u12 c1 c2 c3 c4 c5 c6 c7 c8 c9 c10 c11 c12 c13) mo_X3_keep np_X3_keep k834 k836 k25 rfl (nle rfl) dX3_change_186 rfl
    by_cases c14 : x3 = 13
    · refine z_tswIn (t := 190) 13 c14 ⟨by decide, by decide⟩ dX3_change_18 (by decide) (by decide) rfl (by decide) ?_
      refine z_aload_n (q := 191) 1 dX3_change_190 rfl rfl ?_
      refine z_aload_n (q := 192) 2 dX3_change_191 rfl rfl ?_
      refine z_sub (L' := []) [] rfl ?_
      exact z_goS (q := 195) (av := [(2, x1), (2, x2)]) (rest := []) z_toi hl0 (u13 c1 c2 c3 c4 c5 c6 c7 c8 c9 c10 c11 c12 c13 c14) mo_X3_head np_X3_head k838 k839 rfl (nle rfl) dX3_change_192 rfl
    by_cases c15 : x3 = 14
    · refine z_tswIn (t := 196) 14 c15 ⟨by decide, by decide⟩ dX3_change_18 (by decide) (by decide) rfl (by decide) ?_
      refine z_aload_n (q := 197) 1 dX3_change_196 rfl rfl ?_
      refine z_aload_n (q := 198) 2 dX3_change_197 rfl rfl ?_
      refine z_iload (q := 200) 4 dX3_change_198 rfl rfl ?_
      refine z_sub (L' := []) [] rfl ?_
      exact z_goS (q := 203) (av := [(2, x1), (2, x2), (0, x4)]) (rest := []) z_toi hl0 (u14 c1 c2 c3 c4 c5 c6 c7 c8 c9 c10 c11 c12 c13 c14 c15) mo_X3_swap np_X3_swap k841 k842 rfl (nle rfl) dX3_change_200 rfl
    refine z_tswOut (t := 204) (p2 c1 c2 c3 c4 c5 c6 c7 c8 c9 c10 c11 c12 c13 c14 c15) dX3_change_18 (by omega) (by decide) ?_
    refine z_iconst (q := 205) dX3_change_204 rfl ?_
    exact z_bret rfl (by decide) dX3_change_205 ⟨hl0, u15 c1 c2 c3 c4 c5 c6 c7 c8 c9 c10 c11 c12 c13 c14 c15⟩
  · refine z_iconst (q := 16) dX3_change_15 rfl ?_
    exact z_bret rfl (by decide) dX3_change_16 ⟨hl0, u16 c1⟩
theorem b_X3_change_93 {D : zD} {d : Nat} {G : zG} {h : zH} {Q : zO → zG → zH → Prop} {s0 : Int} (p1 : s0 = 0 ∨ s0 = 1)
    (u1 : Q (.inl (some (0, s0))) G h) :
    z_Y D M_X3_change d 93 [] [(0, s0)] G h Q := by
  intro hl0
  exact z_bret rfl p1 dX3_change_93 ⟨hl0, u1⟩
theorem b_X3_change_101 {D : zD} {d : Nat} {G : zG} {h : zH} {Q : zO → zG → zH → Prop} {s0 : Int} (p1 : s0 = 0 ∨ s0 = 1)
    (u1 : Q (.inl (some (0, s0))) G h) :
    z_Y D M_X3_change d 101 [] [(0, s0)] G h Q := by
  intro hl0
  exact z_bret rfl p1 dX3_change_101 ⟨hl0, u1⟩
theorem b_X3_change_111 {D : zD} {d : Nat} {G : zG} {h : zH} {Q : zO → zG → zH → Prop} {s0 : Int} (p1 : s0 = 0 ∨ s0 = 1)
    (u1 : Q (.inl (some (0, s0))) G h) :
    z_Y D M_X3_change d 111 [] [(0, s0)] G h Q := by
  intro hl0
  exact z_bret rfl p1 dX3_change_111 ⟨hl0, u1⟩
theorem b_X3_change_119 {D : zD} {d : Nat} {G : zG} {h : zH} {Q : zO → zG → zH → Prop} {s0 : Int} (p1 : s0 = 0 ∨ s0 = 1)
    (u1 : Q (.inl (some (0, s0))) G h) :
    z_Y D M_X3_change d 119 [] [(0, s0)] G h Q := by
  intro hl0
  exact z_bret rfl p1 dX3_change_119 ⟨hl0, u1⟩
theorem b_X3_change_129 {D : zD} {d : Nat} {G : zG} {h : zH} {Q : zO → zG → zH → Prop} {s0 : Int} (p1 : s0 = 0 ∨ s0 = 1)
    (u1 : Q (.inl (some (0, s0))) G h) :
    z_Y D M_X3_change d 129 [] [(0, s0)] G h Q := by
  intro hl0
  exact z_bret rfl p1 dX3_change_129 ⟨hl0, u1⟩
theorem b_X3_change_137 {D : zD} {d : Nat} {G : zG} {h : zH} {Q : zO → zG → zH → Prop} {s0 : Int} (p1 : s0 = 0 ∨ s0 = 1)
    (u1 : Q (.inl (some (0, s0))) G h) :
    z_Y D M_X3_change d 137 [] [(0, s0)] G h Q := by
  intro hl0
  exact z_bret rfl p1 dX3_change_137 ⟨hl0, u1⟩
theorem b_X3_change_144 {D : zD} {d : Nat} {G : zG} {h : zH} {Q : zO → zG → zH → Prop} {s0 : Int} (p1 : s0 = 0 ∨ s0 = 1)
    (u1 : Q (.inl (some (0, s0))) G h) :
    z_Y D M_X3_change d 144 [] [(0, s0)] G h Q := by
  intro hl0
  exact z_bret rfl p1 dX3_change_144 ⟨hl0, u1⟩
theorem b_X3_change_153 {D : zD} {d : Nat} {G : zG} {h : zH} {Q : zO → zG → zH → Prop} {s0 : Int} (p1 : s0 = 0 ∨ s0 = 1)
    (u1 : Q (.inl (some (0, s0))) G h) :
    z_Y D M_X3_change d 153 [] [(0, s0)] G h Q := by
  intro hl0
  exact z_bret rfl p1 dX3_change_153 ⟨hl0, u1⟩
theorem b_X3_change_160 {D : zD} {d : Nat} {G : zG} {h : zH} {Q : zO → zG → zH → Prop} {s0 : Int} (p1 : s0 = 0 ∨ s0 = 1)
    (u1 : Q (.inl (some (0, s0))) G h) :
    z_Y D M_X3_change d 160 [] [(0, s0)] G h Q := by
  intro hl0
  exact z_bret rfl p1 dX3_change_160 ⟨hl0, u1⟩
theorem b_X3_change_169 {D : zD} {d : Nat} {G : zG} {h : zH} {Q : zO → zG → zH → Prop} {s0 : Int} (p1 : s0 = 0 ∨ s0 = 1)
    (u1 : Q (.inl (some (0, s0))) G h) :
    z_Y D M_X3_change d 169 [] [(0, s0)] G h Q := by
  intro hl0
  exact z_bret rfl p1 dX3_change_169 ⟨hl0, u1⟩
theorem b_X3_change_180 {D : zD} {d : Nat} {G : zG} {h : zH} {Q : zO → zG → zH → Prop} {s0 : Int} (p1 : s0 = 0 ∨ s0 = 1)
    (u1 : Q (.inl (some (0, s0))) G h) :
    z_Y D M_X3_change d 180 [] [(0, s0)] G h Q := by
  intro hl0
  exact z_bret rfl p1 dX3_change_180 ⟨hl0, u1⟩
theorem b_X3_change_189 {D : zD} {d : Nat} {G : zG} {h : zH} {Q : zO → zG → zH → Prop} {s0 : Int} (p1 : s0 = 0 ∨ s0 = 1)
    (u1 : Q (.inl (some (0, s0))) G h) :
    z_Y D M_X3_change d 189 [] [(0, s0)] G h Q := by
  intro hl0
  exact z_bret rfl p1 dX3_change_189 ⟨hl0, u1⟩
theorem b_X3_change_195 {D : zD} {d : Nat} {G : zG} {h : zH} {Q : zO → zG → zH → Prop} {s0 : Int} (p1 : s0 = 0 ∨ s0 = 1)
    (u1 : Q (.inl (some (0, s0))) G h) :
    z_Y D M_X3_change d 195 [] [(0, s0)] G h Q := by
  intro hl0
  exact z_bret rfl p1 dX3_change_195 ⟨hl0, u1⟩
theorem b_X3_change_203 {D : zD} {d : Nat} {G : zG} {h : zH} {Q : zO → zG → zH → Prop} {s0 : Int} (p1 : s0 = 0 ∨ s0 = 1)
    (u1 : Q (.inl (some (0, s0))) G h) :
    z_Y D M_X3_change d 203 [] [(0, s0)] G h Q := by
  intro hl0
  exact z_bret rfl p1 dX3_change_203 ⟨hl0, u1⟩
theorem b_X3_make_0 {D : zD} {d : Nat} {G : zG} {h : zH} {Q : zO → zG → zH → Prop} {x1 x2 x3 x4 x5 : Int} (hd : 3 ≤ d) (p1 : z_is G x1 3) (p2 : okS h x1) (p3 : okC h x1) (p4 : z_in (zct (fun i => h (x1 + 1) i = -1) (h x1 1 * h x1 2).toNat))
    (u1 : ¬ (zct (fun i => h (x1 + 1) i = -1) (h x1 1 * h x1 2).toNat) = 0 → Q (.inl (some (0, 0))) G h)
    (u2 : ¬ (¬ (zct (fun i => h (x1 + 1) i = -1) (h x1 1 * h x1 2).toNat) = 0) → z_Ki D M_X3_change d [(2, 12), (2, x1), (2, x2), (0, x3), (0, x4), (0, x5)] G h (fun r G' h' => z_Y D M_X3_make d 18 [] [(0, r)] G' h' Q)) :
    z_Y D M_X3_make d 0 [(0, 2, 12), (1, 2, x1), (2, 2, x2), (3, 0, x3), (4, 0, x4), (5, 0, x5)] [] G h Q := by
  intro hl0
  refine z_aload_n (q := 1) 1 dX3_make_0 rfl rfl ?_
  have e1 := a_X4_anys (D := D) (G := G) (h := h) (d := d - 1) (by omega) x1 p1 p2 p3
  refine z_goV (q := 4) (av := []) (rest := []) cb3 p1 (z_toi) hl0 (z_Ei.K e1 (by omega) ?_) mo_X4_anys np_X4_anys k727 k690 k691 rfl (nle rfl) dX3_make_1 rfl
  refine z_if_ne (q := 7) (t := 25) p4 dX3_make_4 (by decide) rfl (fun c1 => ?_) (fun c1 => ?_)
  · refine z_iconst (q := 26) dX3_make_25 rfl ?_
    exact z_bret rfl (by decide) dX3_make_26 ⟨hl0, u1 c1⟩
  · refine z_aload_n (q := 8) 0 dX3_make_7 rfl rfl ?_
    refine z_aload_n (q := 9) 1 dX3_make_8 rfl rfl ?_
    refine z_aload_n (q := 10) 2 dX3_make_9 rfl rfl ?_
    refine z_iload_n (q := 11) 3 dX3_make_10 rfl rfl ?_
    refine z_iload (q := 13) 4 dX3_make_11 rfl rfl ?_
    refine z_iload (q := 15) 5 dX3_make_13 rfl rfl ?_
    refine z_sub (L' := []) [] rfl ?_
    exact z_goV (q := 18) (av := [(2, x1), (2, x2), (0, x3), (0, x4), (0, x5)]) (rest := []) cb2 (hl0.i 12 (by decide) rfl) z_toi hl0 (u2 c1) mo_X3_change np_X3_change k728 k729 k730 rfl (nle rfl) dX3_make_15 rfl
theorem b_X3_make_18 {D : zD} {d : Nat} {G : zG} {h : zH} {Q : zO → zG → zH → Prop} {s0 : Int} (p1 : z_in s0)
    (u1 : s0 = 0 → Q (.inl (some (0, 0))) G h)
    (u2 : ¬ (s0 = 0) → Q (.inl (some (0, 1))) G h) :
    z_Y D M_X3_make d 18 [] [(0, s0)] G h Q := by
  intro hl0
  refine z_if_eq (q := 21) (t := 25) p1 dX3_make_18 (by decide) rfl (fun c1 => ?_) (fun c1 => ?_)
  · refine z_iconst (q := 26) dX3_make_25 rfl ?_
    exact z_bret rfl (by decide) dX3_make_26 ⟨hl0, u1 c1⟩
  · refine z_iconst (q := 22) dX3_make_21 rfl ?_
    refine z_goto (t := 26) dX3_make_22 (by decide) ?_
    exact z_bret rfl (by decide) dX3_make_26 ⟨hl0, u2 c1⟩
