theorem b_X3_formOf_0 {D : zD} {d : Nat} {G : zG} {h : zH} {Q : zO → zG → zH → Prop} {x0 : Int} (p1 : z_in x0) (p2 : ¬ (x0 < 1) → ¬ (14 < x0) → 0 ≤ x0) (p3 : ¬ (x0 < 1) → ¬ (14 < x0) → x0 < 15)
    (u1 : x0 < 1 → Q (.inl (some (0, 0))) G h)
    (u2 : ¬ (x0 < 1) → 14 < x0 → Q (.inl (some (0, 0))) G h)
    (u3 : ¬ (x0 < 1) → ¬ (14 < x0) → Q (.inl (some (0, ((z_list [0, 0, 1, 2, 1, 2, 1, 0, 1, 0, 1, 3, 1, 0, 1]) x0)))) G h) :
    z_Y D M_X3_formOf d 0 [(0, 0, x0)] [] G h Q := by
  intro hl0
  refine z_iload_n (q := 1) 0 dX3_formOf_0 rfl rfl ?_
  refine z_iconst (q := 2) dX3_formOf_1 rfl ?_
  refine z_icmp_lt (q := 5) (t := 19) p1 ⟨by decide, by decide⟩ dX3_formOf_2 (by decide) rfl (fun c1 => ?_) (fun c1 => ?_)
  · refine z_iconst (q := 20) dX3_formOf_19 rfl ?_
    exact z_iret rfl dX3_formOf_20 ⟨hl0, u1 c1⟩
  · refine z_iload_n (q := 6) 0 dX3_formOf_5 rfl rfl ?_
    refine z_bipush (q := 8) dX3_formOf_6 rfl (by decide) ?_
    refine z_icmp_gt (q := 11) (t := 19) p1 ⟨by decide, by decide⟩ dX3_formOf_8 (by decide) rfl (fun c2 => ?_) (fun c2 => ?_)
    · refine z_iconst (q := 20) dX3_formOf_19 rfl ?_
      exact z_iret rfl dX3_formOf_20 ⟨hl0, u2 c1 c2⟩
    · refine z_gets (q := 14) (c := 3) (by decide) (by decide) k610 dX3_formOf_11 rfl ?_
      refine z_iload_n (q := 15) 0 dX3_formOf_14 rfl rfl ?_
      refine z_iale (q := 16) (v := ((z_list [0, 0, 1, 2, 1, 2, 1, 0, 1, 0, 1, 3, 1, 0, 1]) x0)) z_c3 (p2 c1 c2) (p3 c1 c2) rfl dX3_formOf_15 rfl ?_
      refine z_goto (t := 20) dX3_formOf_16 (by decide) ?_
      exact z_iret rfl dX3_formOf_20 ⟨hl0, u3 c1 c2⟩
theorem b_X3_isWithin_0 {D : zD} {d : Nat} {G : zG} {h : zH} {Q : zO → zG → zH → Prop} {x0 x1 x2 : Int} (p1 : z_in x0) (p2 : z_in x1) (p3 : ¬ (x0 < x1) → z_in x2)
    (u1 : x0 < x1 → Q (.inl (some (0, 0))) G h)
    (u2 : ¬ (x0 < x1) → x2 < x0 → Q (.inl (some (0, 0))) G h)
    (u3 : ¬ (x0 < x1) → ¬ (x2 < x0) → Q (.inl (some (0, 1))) G h) :
    z_Y D M_X3_isWithin d 0 [(0, 0, x0), (1, 0, x1), (2, 0, x2)] [] G h Q := by
  intro hl0
  refine z_iload_n (q := 1) 0 dX3_isWithin_0 rfl rfl ?_
  refine z_iload_n (q := 2) 1 dX3_isWithin_1 rfl rfl ?_
  refine z_icmp_lt (q := 5) (t := 14) p1 p2 dX3_isWithin_2 (by decide) rfl (fun c1 => ?_) (fun c1 => ?_)
  · refine z_iconst (q := 15) dX3_isWithin_14 rfl ?_
    exact z_bret rfl (by decide) dX3_isWithin_15 ⟨hl0, u1 c1⟩
  · refine z_iload_n (q := 6) 0 dX3_isWithin_5 rfl rfl ?_
    refine z_iload_n (q := 7) 2 dX3_isWithin_6 rfl rfl ?_
    refine z_icmp_gt (q := 10) (t := 14) p1 (p3 c1) dX3_isWithin_7 (by decide) rfl (fun c2 => ?_) (fun c2 => ?_)
    · refine z_iconst (q := 15) dX3_isWithin_14 rfl ?_
      exact z_bret rfl (by decide) dX3_isWithin_15 ⟨hl0, u2 c1 c2⟩
    · refine z_iconst (q := 11) dX3_isWithin_10 rfl ?_
      refine z_goto (t := 15) dX3_isWithin_11 (by decide) ?_
      exact z_bret rfl (by decide) dX3_isWithin_15 ⟨hl0, u3 c1 c2⟩
theorem b_X3_numbersCanBe_0 {D : zD} {d : Nat} {G : zG} {h : zH} {Q : zO → zG → zH → Prop} {x0 x1 x2 x3 : Int} (p1 : ¬ x1 = 3 → ¬ x1 = 4 → ¬ x1 = 5 → ¬ x1 = 6 → ¬ x1 = 7 → ¬ x1 = 8 → ¬ x1 = 9 → ¬ x1 = 10 → ¬ x1 = 11 → ¬ x1 = 12 → ¬ x1 = 13 → ¬ x1 = 14 → z_in x1)
    (u1 : x1 = 3 → z_Ki D M_X3_isWithin d [(0, x2), (0, 0), (0, (x0 - 1))] G h (fun r G' h' => z_Y D M_X3_numbersCanBe d 72 [(3, 0, x3)] [(0, r)] G' h' Q))
    (u2 : ¬ x1 = 3 → x1 = 4 → z_Ki D M_X3_formOf d [(0, x1)] G h (fun r G' h' => z_Y D M_X3_numbersCanBe d 197 [(0, 0, x0), (3, 0, x3)] [(0, r), (0, 0), (0, x2)] G' h' Q))
    (u3 : ¬ x1 = 3 → ¬ x1 = 4 → x1 = 5 → z_Ki D M_X3_isWithin d [(0, x2), (0, 0), (0, (x0 - 2))] G h (fun r G' h' => z_Y D M_X3_numbersCanBe d 98 [(3, 0, x3)] [(0, r)] G' h' Q))
    (u4 : ¬ x1 = 3 → ¬ x1 = 4 → ¬ x1 = 5 → x1 = 6 → z_Ki D M_X3_isWithin d [(0, x2), (0, 1), (0, (x0 - 1))] G h (fun r G' h' => z_Y D M_X3_numbersCanBe d 157 [(3, 0, x3)] [(0, r)] G' h' Q))
    (u5 : ¬ x1 = 3 → ¬ x1 = 4 → ¬ x1 = 5 → ¬ x1 = 6 → x1 = 7 → z_Ki D M_X3_formOf d [(0, x1)] G h (fun r G' h' => z_Y D M_X3_numbersCanBe d 197 [(0, 0, x0), (3, 0, x3)] [(0, r), (0, 0), (0, x2)] G' h' Q))
    (u6 : ¬ x1 = 3 → ¬ x1 = 4 → ¬ x1 = 5 → ¬ x1 = 6 → ¬ x1 = 7 → x1 = 8 → z_Ki D M_X3_formOf d [(0, x1)] G h (fun r G' h' => z_Y D M_X3_numbersCanBe d 197 [(0, 0, x0), (3, 0, x3)] [(0, r), (0, 0), (0, x2)] G' h' Q))
    (u7 : ¬ x1 = 3 → ¬ x1 = 4 → ¬ x1 = 5 → ¬ x1 = 6 → ¬ x1 = 7 → ¬ x1 = 8 → x1 = 9 → z_Ki D M_X3_formOf d [(0, x1)] G h (fun r G' h' => z_Y D M_X3_numbersCanBe d 197 [(0, 0, x0), (3, 0, x3)] [(0, r), (0, 0), (0, x2)] G' h' Q))
    (u8 : ¬ x1 = 3 → ¬ x1 = 4 → ¬ x1 = 5 → ¬ x1 = 6 → ¬ x1 = 7 → ¬ x1 = 8 → ¬ x1 = 9 → x1 = 10 → z_Ki D M_X3_formOf d [(0, x1)] G h (fun r G' h' => z_Y D M_X3_numbersCanBe d 197 [(0, 0, x0), (3, 0, x3)] [(0, r), (0, 0), (0, x2)] G' h' Q))
    (u9 : ¬ x1 = 3 → ¬ x1 = 4 → ¬ x1 = 5 → ¬ x1 = 6 → ¬ x1 = 7 → ¬ x1 = 8 → ¬ x1 = 9 → ¬ x1 = 10 → x1 = 11 → z_Ki D M_X3_isWithin d [(0, x2), (0, 0), (0, (x0 - 1))] G h (fun r G' h' => z_Y D M_X3_numbersCanBe d 124 [(0, 0, x0), (2, 0, x2), (3, 0, x3)] [(0, r)] G' h' Q))
    (u10 : ¬ x1 = 3 → ¬ x1 = 4 → ¬ x1 = 5 → ¬ x1 = 6 → ¬ x1 = 7 → ¬ x1 = 8 → ¬ x1 = 9 → ¬ x1 = 10 → ¬ x1 = 11 → x1 = 12 → z_Ki D M_X3_formOf d [(0, x1)] G h (fun r G' h' => z_Y D M_X3_numbersCanBe d 197 [(0, 0, x0), (3, 0, x3)] [(0, r), (0, 0), (0, x2)] G' h' Q))
    (u11 : ¬ x1 = 3 → ¬ x1 = 4 → ¬ x1 = 5 → ¬ x1 = 6 → ¬ x1 = 7 → ¬ x1 = 8 → ¬ x1 = 9 → ¬ x1 = 10 → ¬ x1 = 11 → ¬ x1 = 12 → x1 = 13 → z_Ki D M_X3_formOf d [(0, x1)] G h (fun r G' h' => z_Y D M_X3_numbersCanBe d 197 [(0, 0, x0), (3, 0, x3)] [(0, r), (0, 0), (0, x2)] G' h' Q))
    (u12 : ¬ x1 = 3 → ¬ x1 = 4 → ¬ x1 = 5 → ¬ x1 = 6 → ¬ x1 = 7 → ¬ x1 = 8 → ¬ x1 = 9 → ¬ x1 = 10 → ¬ x1 = 11 → ¬ x1 = 12 → ¬ x1 = 13 → x1 = 14 → z_Ki D M_X3_isWithin d [(0, x2), (0, 0), (0, (x0 - 2))] G h (fun r G' h' => z_Y D M_X3_numbersCanBe d 178 [(3, 0, x3)] [(0, r)] G' h' Q))
    (u13 : ¬ x1 = 3 → ¬ x1 = 4 → ¬ x1 = 5 → ¬ x1 = 6 → ¬ x1 = 7 → ¬ x1 = 8 → ¬ x1 = 9 → ¬ x1 = 10 → ¬ x1 = 11 → ¬ x1 = 12 → ¬ x1 = 13 → ¬ x1 = 14 → z_Ki D M_X3_formOf d [(0, x1)] G h (fun r G' h' => z_Y D M_X3_numbersCanBe d 197 [(0, 0, x0), (3, 0, x3)] [(0, r), (0, 0), (0, x2)] G' h' Q)) :
    z_Y D M_X3_numbersCanBe d 0 [(0, 0, x0), (1, 0, x1), (2, 0, x2), (3, 0, x3)] [] G h Q := by
  intro hl0
  refine z_iload_n (q := 1) 1 dX3_numbersCanBe_0 rfl rfl ?_
  by_cases c1 : x1 = 3
  · refine z_tswIn (t := 64) 3 c1 ⟨by decide, by decide⟩ dX3_numbersCanBe_1 (by decide) (by decide) rfl (by decide) ?_
    refine z_iload_n (q := 65) 2 dX3_numbersCanBe_64 rfl rfl ?_
    refine z_iconst (q := 66) dX3_numbersCanBe_65 rfl ?_
    refine z_iload_n (q := 67) 0 dX3_numbersCanBe_66 rfl rfl ?_
    refine z_iconst (q := 68) dX3_numbersCanBe_67 rfl ?_
    refine z_isub (q := 69) dX3_numbersCanBe_68 rfl ?_
    refine z_sub (L' := [(3, 0, x3)]) [3] rfl ?_
    exact z_goS (q := 72) (av := [(0, x2), (0, 0), (0, (x0 - 1))]) (rest := []) z_toi hl0 (u1 c1) mo_X3_isWithin np_X3_isWithin k735 k736 rfl (nle rfl) dX3_numbersCanBe_69 rfl
  by_cases c2 : x1 = 4
  · refine z_tswIn (t := 191) 4 c2 ⟨by decide, by decide⟩ dX3_numbersCanBe_1 (by decide) (by decide) rfl (by decide) ?_
    refine z_iload_n (q := 192) 2 dX3_numbersCanBe_191 rfl rfl ?_
    refine z_iconst (q := 193) dX3_numbersCanBe_192 rfl ?_
    refine z_iload_n (q := 194) 1 dX3_numbersCanBe_193 rfl rfl ?_
    refine z_sub (L' := [(0, 0, x0), (3, 0, x3)]) [0, 3] rfl ?_
    exact z_goS (q := 197) (av := [(0, x1)]) (rest := [(0, 0), (0, x2)]) z_toi hl0 (u2 c1 c2) mo_X3_formOf np_X3_formOf k738 k608 rfl (nle rfl) dX3_numbersCanBe_194 rfl
  by_cases c3 : x1 = 5
  · refine z_tswIn (t := 90) 5 c3 ⟨by decide, by decide⟩ dX3_numbersCanBe_1 (by decide) (by decide) rfl (by decide) ?_
    refine z_iload_n (q := 91) 2 dX3_numbersCanBe_90 rfl rfl ?_
    refine z_iconst (q := 92) dX3_numbersCanBe_91 rfl ?_
    refine z_iload_n (q := 93) 0 dX3_numbersCanBe_92 rfl rfl ?_
    refine z_iconst (q := 94) dX3_numbersCanBe_93 rfl ?_
    refine z_isub (q := 95) dX3_numbersCanBe_94 rfl ?_
    refine z_sub (L' := [(3, 0, x3)]) [3] rfl ?_
    exact z_goS (q := 98) (av := [(0, x2), (0, 0), (0, (x0 - 2))]) (rest := []) z_toi hl0 (u3 c1 c2 c3) mo_X3_isWithin np_X3_isWithin k735 k736 rfl (nle rfl) dX3_numbersCanBe_95 rfl
  by_cases c4 : x1 = 6
  · refine z_tswIn (t := 149) 6 c4 ⟨by decide, by decide⟩ dX3_numbersCanBe_1 (by decide) (by decide) rfl (by decide) ?_
    refine z_iload_n (q := 150) 2 dX3_numbersCanBe_149 rfl rfl ?_
    refine z_iconst (q := 151) dX3_numbersCanBe_150 rfl ?_
    refine z_iload_n (q := 152) 0 dX3_numbersCanBe_151 rfl rfl ?_
    refine z_iconst (q := 153) dX3_numbersCanBe_152 rfl ?_
    refine z_isub (q := 154) dX3_numbersCanBe_153 rfl ?_
    refine z_sub (L' := [(3, 0, x3)]) [3] rfl ?_
    exact z_goS (q := 157) (av := [(0, x2), (0, 1), (0, (x0 - 1))]) (rest := []) z_toi hl0 (u4 c1 c2 c3 c4) mo_X3_isWithin np_X3_isWithin k735 k736 rfl (nle rfl) dX3_numbersCanBe_154 rfl
  by_cases c5 : x1 = 7
  · refine z_tswIn (t := 191) 7 c5 ⟨by decide, by decide⟩ dX3_numbersCanBe_1 (by decide) (by decide) rfl (by decide) ?_
    refine z_iload_n (q := 192) 2 dX3_numbersCanBe_191 rfl rfl ?_
    refine z_iconst (q := 193) dX3_numbersCanBe_192 rfl ?_
    refine z_iload_n (q := 194) 1 dX3_numbersCanBe_193 rfl rfl ?_
    refine z_sub (L' := [(0, 0, x0), (3, 0, x3)]) [0, 3] rfl ?_
    exact z_goS (q := 197) (av := [(0, x1)]) (rest := [(0, 0), (0, x2)]) z_toi hl0 (u5 c1 c2 c3 c4 c5) mo_X3_formOf np_X3_formOf k738 k608 rfl (nle rfl) dX3_numbersCanBe_194 rfl
  by_cases c6 : x1 = 8
  · refine z_tswIn (t := 191) 8 c6 ⟨by decide, by decide⟩ dX3_numbersCanBe_1 (by decide) (by decide) rfl (by decide) ?_
    refine z_iload_n (q := 192) 2 dX3_numbersCanBe_191 rfl rfl ?_
    refine z_iconst (q := 193) dX3_numbersCanBe_192 rfl ?_
    refine z_iload_n (q := 194) 1 dX3_numbersCanBe_193 rfl rfl ?_
    refine z_sub (L' := [(0, 0, x0), (3, 0, x3)]) [0, 3] rfl ?_
    exact z_goS (q := 197) (av := [(0, x1)]) (rest := [(0, 0), (0, x2)]) z_toi hl0 (u6 c1 c2 c3 c4 c5 c6) mo_X3_formOf np_X3_formOf k738 k608 rfl (nle rfl) dX3_numbersCanBe_194 rfl
  by_cases c7 : x1 = 9
  · refine z_tswIn (t := 191) 9 c7 ⟨by decide, by decide⟩ dX3_numbersCanBe_1 (by decide) (by decide) rfl (by decide) ?_
    refine z_iload_n (q := 192) 2 dX3_numbersCanBe_191 rfl rfl ?_
    refine z_iconst (q := 193) dX3_numbersCanBe_192 rfl ?_
    refine z_iload_n (q := 194) 1 dX3_numbersCanBe_193 rfl rfl ?_
    refine z_sub (L' := [(0, 0, x0), (3, 0, x3)]) [0, 3] rfl ?_
    exact z_goS (q := 197) (av := [(0, x1)]) (rest := [(0, 0), (0, x2)]) z_toi hl0 (u7 c1 c2 c3 c4 c5 c6 c7) mo_X3_formOf np_X3_formOf k738 k608 rfl (nle rfl) dX3_numbersCanBe_194 rfl
  by_cases c8 : x1 = 10
  · refine z_tswIn (t := 191) 10 c8 ⟨by decide, by decide⟩ dX3_numbersCanBe_1 (by decide) (by decide) rfl (by decide) ?_
    refine z_iload_n (q := 192) 2 dX3_numbersCanBe_191 rfl rfl ?_
    refine z_iconst (q := 193) dX3_numbersCanBe_192 rfl ?_
    refine z_iload_n (q := 194) 1 dX3_numbersCanBe_193 rfl rfl ?_
    refine z_sub (L' := [(0, 0, x0), (3, 0, x3)]) [0, 3] rfl ?_
    exact z_goS (q := 197) (av := [(0, x1)]) (rest := [(0, 0), (0, x2)]) z_toi hl0 (u8 c1 c2 c3 c4 c5 c6 c7 c8) mo_X3_formOf np_X3_formOf k738 k608 rfl (nle rfl) dX3_numbersCanBe_194 rfl
  by_cases c9 : x1 = 11
  · refine z_tswIn (t := 116) 11 c9 ⟨by decide, by decide⟩ dX3_numbersCanBe_1 (by decide) (by decide) rfl (by decide) ?_
    refine z_iload_n (q := 117) 2 dX3_numbersCanBe_116 rfl rfl ?_
    refine z_iconst (q := 118) dX3_numbersCanBe_117 rfl ?_
    refine z_iload_n (q := 119) 0 dX3_numbersCanBe_118 rfl rfl ?_
    refine z_iconst (q := 120) dX3_numbersCanBe_119 rfl ?_
    refine z_isub (q := 121) dX3_numbersCanBe_120 rfl ?_
    refine z_sub (L' := [(0, 0, x0), (2, 0, x2), (3, 0, x3)]) [0, 2, 3] rfl ?_
    exact z_goS (q := 124) (av := [(0, x2), (0, 0), (0, (x0 - 1))]) (rest := []) z_toi hl0 (u9 c1 c2 c3 c4 c5 c6 c7 c8 c9) mo_X3_isWithin np_X3_isWithin k735 k736 rfl (nle rfl) dX3_numbersCanBe_121 rfl
  by_cases c10 : x1 = 12
  · refine z_tswIn (t := 191) 12 c10 ⟨by decide, by decide⟩ dX3_numbersCanBe_1 (by decide) (by decide) rfl (by decide) ?_
    refine z_iload_n (q := 192) 2 dX3_numbersCanBe_191 rfl rfl ?_
    refine z_iconst (q := 193) dX3_numbersCanBe_192 rfl ?_
    refine z_iload_n (q := 194) 1 dX3_numbersCanBe_193 rfl rfl ?_
    refine z_sub (L' := [(0, 0, x0), (3, 0, x3)]) [0, 3] rfl ?_
    exact z_goS (q := 197) (av := [(0, x1)]) (rest := [(0, 0), (0, x2)]) z_toi hl0 (u10 c1 c2 c3 c4 c5 c6 c7 c8 c9 c10) mo_X3_formOf np_X3_formOf k738 k608 rfl (nle rfl) dX3_numbersCanBe_194 rfl
  by_cases c11 : x1 = 13
  · refine z_tswIn (t := 191) 13 c11 ⟨by decide, by decide⟩ dX3_numbersCanBe_1 (by decide) (by decide) rfl (by decide) ?_
    refine z_iload_n (q := 192) 2 dX3_numbersCanBe_191 rfl rfl ?_
    refine z_iconst (q := 193) dX3_numbersCanBe_192 rfl ?_
    refine z_iload_n (q := 194) 1 dX3_numbersCanBe_193 rfl rfl ?_
    refine z_sub (L' := [(0, 0, x0), (3, 0, x3)]) [0, 3] rfl ?_
    exact z_goS (q := 197) (av := [(0, x1)]) (rest := [(0, 0), (0, x2)]) z_toi hl0 (u11 c1 c2 c3 c4 c5 c6 c7 c8 c9 c10 c11) mo_X3_formOf np_X3_formOf k738 k608 rfl (nle rfl) dX3_numbersCanBe_194 rfl
  by_cases c12 : x1 = 14
  · refine z_tswIn (t := 170) 14 c12 ⟨by decide, by decide⟩ dX3_numbersCanBe_1 (by decide) (by decide) rfl (by decide) ?_
    refine z_iload_n (q := 171) 2 dX3_numbersCanBe_170 rfl rfl ?_
    refine z_iconst (q := 172) dX3_numbersCanBe_171 rfl ?_
    refine z_iload_n (q := 173) 0 dX3_numbersCanBe_172 rfl rfl ?_
    refine z_iconst (q := 174) dX3_numbersCanBe_173 rfl ?_
    refine z_isub (q := 175) dX3_numbersCanBe_174 rfl ?_
    refine z_sub (L' := [(3, 0, x3)]) [3] rfl ?_
    exact z_goS (q := 178) (av := [(0, x2), (0, 0), (0, (x0 - 2))]) (rest := []) z_toi hl0 (u12 c1 c2 c3 c4 c5 c6 c7 c8 c9 c10 c11 c12) mo_X3_isWithin np_X3_isWithin k735 k736 rfl (nle rfl) dX3_numbersCanBe_175 rfl
  refine z_tswOut (t := 191) (p1 c1 c2 c3 c4 c5 c6 c7 c8 c9 c10 c11 c12) dX3_numbersCanBe_1 (by omega) (by decide) ?_
  refine z_iload_n (q := 192) 2 dX3_numbersCanBe_191 rfl rfl ?_
  refine z_iconst (q := 193) dX3_numbersCanBe_192 rfl ?_
  refine z_iload_n (q := 194) 1 dX3_numbersCanBe_193 rfl rfl ?_
  refine z_sub (L' := [(0, 0, x0), (3, 0, x3)]) [0, 3] rfl ?_
  exact z_goS (q := 197) (av := [(0, x1)]) (rest := [(0, 0), (0, x2)]) z_toi hl0 (u13 c1 c2 c3 c4 c5 c6 c7 c8 c9 c10 c11 c12) mo_X3_formOf np_X3_formOf k738 k608 rfl (nle rfl) dX3_numbersCanBe_194 rfl
theorem b_X3_numbersCanBe_72 {D : zD} {d : Nat} {G : zG} {h : zH} {Q : zO → zG → zH → Prop} {s0 x3 : Int} (p1 : z_in s0)
    (u1 : s0 = 0 → Q (.inl (some (0, 0))) G h)
    (u2 : ¬ (s0 = 0) → z_Ki D M_X3_isWithin d [(0, x3), (0, 0), (0, 3)] G h (fun r G' h' => z_Y D M_X3_numbersCanBe d 81 [] [(0, r)] G' h' Q)) :
    z_Y D M_X3_numbersCanBe d 72 [(3, 0, x3)] [(0, s0)] G h Q := by
  intro hl0
  refine z_if_eq (q := 75) (t := 88) p1 dX3_numbersCanBe_72 (by decide) rfl (fun c1 => ?_) (fun c1 => ?_)
  · refine z_iconst (q := 89) dX3_numbersCanBe_88 rfl ?_
    exact z_bret rfl (by decide) dX3_numbersCanBe_89 ⟨hl0, u1 c1⟩
  · refine z_iload_n (q := 76) 0 dX3_numbersCanBe_75 rfl rfl ?_
    refine z_iconst (q := 77) dX3_numbersCanBe_76 rfl ?_
    refine z_iconst (q := 78) dX3_numbersCanBe_77 rfl ?_
    refine z_sub (L' := []) [] rfl ?_
    exact z_goS (q := 81) (av := [(0, x3), (0, 0), (0, 3)]) (rest := []) z_toi hl0 (u2 c1) mo_X3_isWithin np_X3_isWithin k735 k736 rfl (nle rfl) dX3_numbersCanBe_78 rfl
theorem b_X3_numbersCanBe_197 {D : zD} {d : Nat} {G : zG} {h : zH} {Q : zO → zG → zH → Prop} {s0 s1 s2 x0 x3 : Int} (p1 : z_in s2)
    (u1 : ¬ s2 = 0 → z_Y D M_X3_numbersCanBe d 207 [(3, 0, x3)] [(0, (x0 - 1)), (0, s1), (0, s0)] G h Q)
    (u2 : ¬ (¬ s2 = 0) → z_Y D M_X3_numbersCanBe d 207 [(3, 0, x3)] [(0, 0), (0, s1), (0, s0)] G h Q) :
    z_Y D M_X3_numbersCanBe d 197 [(0, 0, x0), (3, 0, x3)] [(0, s2), (0, s1), (0, s0)] G h Q := by
  intro hl0
  refine z_if_ne (q := 200) (t := 204) p1 dX3_numbersCanBe_197 (by decide) rfl (fun c1 => ?_) (fun c1 => ?_)
  · refine z_iload_n (q := 205) 0 dX3_numbersCanBe_204 rfl rfl ?_
    refine z_iconst (q := 206) dX3_numbersCanBe_205 rfl ?_
    refine z_isub (q := 207) dX3_numbersCanBe_206 rfl ?_
    refine z_sub (L' := [(3, 0, x3)]) [1] rfl ?_
    exact u1 c1 hl0
  · refine z_iconst (q := 201) dX3_numbersCanBe_200 rfl ?_
    refine z_goto (t := 207) dX3_numbersCanBe_201 (by decide) ?_
    refine z_sub (L' := [(3, 0, x3)]) [1] rfl ?_
    exact u2 c1 hl0
theorem b_X3_numbersCanBe_98 {D : zD} {d : Nat} {G : zG} {h : zH} {Q : zO → zG → zH → Prop} {s0 x3 : Int} (p1 : z_in s0)
    (u1 : s0 = 0 → Q (.inl (some (0, 0))) G h)
    (u2 : ¬ (s0 = 0) → z_Ki D M_X3_isWithin d [(0, x3), (0, 0), (0, 3)] G h (fun r G' h' => z_Y D M_X3_numbersCanBe d 107 [] [(0, r)] G' h' Q)) :
    z_Y D M_X3_numbersCanBe d 98 [(3, 0, x3)] [(0, s0)] G h Q := by
  intro hl0
  refine z_if_eq (q := 101) (t := 114) p1 dX3_numbersCanBe_98 (by decide) rfl (fun c1 => ?_) (fun c1 => ?_)
  · refine z_iconst (q := 115) dX3_numbersCanBe_114 rfl ?_
    exact z_bret rfl (by decide) dX3_numbersCanBe_115 ⟨hl0, u1 c1⟩
  · refine z_iload_n (q := 102) 0 dX3_numbersCanBe_101 rfl rfl ?_
    refine z_iconst (q := 103) dX3_numbersCanBe_102 rfl ?_
    refine z_iconst (q := 104) dX3_numbersCanBe_103 rfl ?_
    refine z_sub (L' := []) [] rfl ?_
    exact z_goS (q := 107) (av := [(0, x3), (0, 0), (0, 3)]) (rest := []) z_toi hl0 (u2 c1) mo_X3_isWithin np_X3_isWithin k735 k736 rfl (nle rfl) dX3_numbersCanBe_104 rfl
theorem b_X3_numbersCanBe_157 {D : zD} {d : Nat} {G : zG} {h : zH} {Q : zO → zG → zH → Prop} {s0 x3 : Int} (p1 : z_in s0) (p2 : ¬ (s0 = 0) → z_in x3)
    (u1 : s0 = 0 → Q (.inl (some (0, 0))) G h)
    (u2 : ¬ (s0 = 0) → ¬ x3 = 0 → Q (.inl (some (0, 0))) G h)
    (u3 : ¬ (s0 = 0) → ¬ (¬ x3 = 0) → Q (.inl (some (0, 1))) G h) :
    z_Y D M_X3_numbersCanBe d 157 [(3, 0, x3)] [(0, s0)] G h Q := by
  intro hl0
  refine z_if_eq (q := 160) (t := 168) p1 dX3_numbersCanBe_157 (by decide) rfl (fun c1 => ?_) (fun c1 => ?_)
  · refine z_iconst (q := 169) dX3_numbersCanBe_168 rfl ?_
    exact z_bret rfl (by decide) dX3_numbersCanBe_169 ⟨hl0, u1 c1⟩
  · refine z_iload_n (q := 161) 0 dX3_numbersCanBe_160 rfl rfl ?_
    refine z_if_ne (q := 164) (t := 168) (p2 c1) dX3_numbersCanBe_161 (by decide) rfl (fun c2 => ?_) (fun c2 => ?_)
    · refine z_iconst (q := 169) dX3_numbersCanBe_168 rfl ?_
      exact z_bret rfl (by decide) dX3_numbersCanBe_169 ⟨hl0, u2 c1 c2⟩
    · refine z_iconst (q := 165) dX3_numbersCanBe_164 rfl ?_
      refine z_goto (t := 169) dX3_numbersCanBe_165 (by decide) ?_
      exact z_bret rfl (by decide) dX3_numbersCanBe_169 ⟨hl0, u3 c1 c2⟩
theorem b_X3_numbersCanBe_124 {D : zD} {d : Nat} {G : zG} {h : zH} {Q : zO → zG → zH → Prop} {s0 x0 x2 x3 : Int} (p1 : z_in s0)
    (u1 : s0 = 0 → Q (.inl (some (0, 0))) G h)
    (u2 : ¬ (s0 = 0) → z_Ki D M_X3_isWithin d [(0, x3), (0, 0), (0, (x0 - 1))] G h (fun r G' h' => z_Y D M_X3_numbersCanBe d 135 [(2, 0, x2), (3, 0, x3)] [(0, r)] G' h' Q)) :
    z_Y D M_X3_numbersCanBe d 124 [(0, 0, x0), (2, 0, x2), (3, 0, x3)] [(0, s0)] G h Q := by
  intro hl0
  refine z_if_eq (q := 127) (t := 147) p1 dX3_numbersCanBe_124 (by decide) rfl (fun c1 => ?_) (fun c1 => ?_)
  · refine z_iconst (q := 148) dX3_numbersCanBe_147 rfl ?_
    exact z_bret rfl (by decide) dX3_numbersCanBe_148 ⟨hl0, u1 c1⟩
  · refine z_iload_n (q := 128) 2 dX3_numbersCanBe_127 rfl rfl ?_
    refine z_iconst (q := 129) dX3_numbersCanBe_128 rfl ?_
    refine z_iload_n (q := 130) 0 dX3_numbersCanBe_129 rfl rfl ?_
    refine z_iconst (q := 131) dX3_numbersCanBe_130 rfl ?_
    refine z_isub (q := 132) dX3_numbersCanBe_131 rfl ?_
    refine z_sub (L' := [(2, 0, x2), (3, 0, x3)]) [1, 2] rfl ?_
    exact z_goS (q := 135) (av := [(0, x3), (0, 0), (0, (x0 - 1))]) (rest := []) z_toi hl0 (u2 c1) mo_X3_isWithin np_X3_isWithin k735 k736 rfl (nle rfl) dX3_numbersCanBe_132 rfl
theorem b_X3_numbersCanBe_178 {D : zD} {d : Nat} {G : zG} {h : zH} {Q : zO → zG → zH → Prop} {s0 x3 : Int} (p1 : z_in s0) (p2 : ¬ (s0 = 0) → z_in x3)
    (u1 : s0 = 0 → Q (.inl (some (0, 0))) G h)
    (u2 : ¬ (s0 = 0) → ¬ x3 = 0 → Q (.inl (some (0, 0))) G h)
    (u3 : ¬ (s0 = 0) → ¬ (¬ x3 = 0) → Q (.inl (some (0, 1))) G h) :
    z_Y D M_X3_numbersCanBe d 178 [(3, 0, x3)] [(0, s0)] G h Q := by
  intro hl0
  refine z_if_eq (q := 181) (t := 189) p1 dX3_numbersCanBe_178 (by decide) rfl (fun c1 => ?_) (fun c1 => ?_)
  · refine z_iconst (q := 190) dX3_numbersCanBe_189 rfl ?_
    exact z_bret rfl (by decide) dX3_numbersCanBe_190 ⟨hl0, u1 c1⟩
  · refine z_iload_n (q := 182) 0 dX3_numbersCanBe_181 rfl rfl ?_
    refine z_if_ne (q := 185) (t := 189) (p2 c1) dX3_numbersCanBe_182 (by decide) rfl (fun c2 => ?_) (fun c2 => ?_)
    · refine z_iconst (q := 190) dX3_numbersCanBe_189 rfl ?_
      exact z_bret rfl (by decide) dX3_numbersCanBe_190 ⟨hl0, u2 c1 c2⟩
    · refine z_iconst (q := 186) dX3_numbersCanBe_185 rfl ?_
      refine z_goto (t := 190) dX3_numbersCanBe_186 (by decide) ?_
      exact z_bret rfl (by decide) dX3_numbersCanBe_190 ⟨hl0, u3 c1 c2⟩
theorem b_X3_numbersCanBe_81 {D : zD} {d : Nat} {G : zG} {h : zH} {Q : zO → zG → zH → Prop} {s0 : Int} (p1 : z_in s0)
    (u1 : s0 = 0 → Q (.inl (some (0, 0))) G h)
    (u2 : ¬ (s0 = 0) → Q (.inl (some (0, 1))) G h) :
    z_Y D M_X3_numbersCanBe d 81 [] [(0, s0)] G h Q := by
  intro hl0
  refine z_if_eq (q := 84) (t := 88) p1 dX3_numbersCanBe_81 (by decide) rfl (fun c1 => ?_) (fun c1 => ?_)
  · refine z_iconst (q := 89) dX3_numbersCanBe_88 rfl ?_
    exact z_bret rfl (by decide) dX3_numbersCanBe_89 ⟨hl0, u1 c1⟩
  · refine z_iconst (q := 85) dX3_numbersCanBe_84 rfl ?_
    refine z_goto (t := 89) dX3_numbersCanBe_85 (by decide) ?_
    exact z_bret rfl (by decide) dX3_numbersCanBe_89 ⟨hl0, u2 c1⟩
theorem b_X3_numbersCanBe_207 {D : zD} {d : Nat} {G : zG} {h : zH} {Q : zO → zG → zH → Prop} {s0 s1 s2 x3 : Int}
    (u1 : z_Ki D M_X3_isWithin d [(0, s0), (0, s1), (0, s2)] G h (fun r G' h' => z_Y D M_X3_numbersCanBe d 210 [(3, 0, x3)] [(0, r)] G' h' Q)) :
    z_Y D M_X3_numbersCanBe d 207 [(3, 0, x3)] [(0, s2), (0, s1), (0, s0)] G h Q := by
  intro hl0
  exact z_goS (q := 210) (av := [(0, s0), (0, s1), (0, s2)]) (rest := []) z_toi hl0 (u1) mo_X3_isWithin np_X3_isWithin k735 k736 rfl (nle rfl) dX3_numbersCanBe_207 rfl
theorem b_X3_numbersCanBe_107 {D : zD} {d : Nat} {G : zG} {h : zH} {Q : zO → zG → zH → Prop} {s0 : Int} (p1 : z_in s0)
    (u1 : s0 = 0 → Q (.inl (some (0, 0))) G h)
    (u2 : ¬ (s0 = 0) → Q (.inl (some (0, 1))) G h) :
    z_Y D M_X3_numbersCanBe d 107 [] [(0, s0)] G h Q := by
  intro hl0
  refine z_if_eq (q := 110) (t := 114) p1 dX3_numbersCanBe_107 (by decide) rfl (fun c1 => ?_) (fun c1 => ?_)
  · refine z_iconst (q := 115) dX3_numbersCanBe_114 rfl ?_
    exact z_bret rfl (by decide) dX3_numbersCanBe_115 ⟨hl0, u1 c1⟩
  · refine z_iconst (q := 111) dX3_numbersCanBe_110 rfl ?_
    refine z_goto (t := 115) dX3_numbersCanBe_111 (by decide) ?_
    exact z_bret rfl (by decide) dX3_numbersCanBe_115 ⟨hl0, u2 c1⟩
theorem b_X3_numbersCanBe_135 {D : zD} {d : Nat} {G : zG} {h : zH} {Q : zO → zG → zH → Prop} {s0 x2 x3 : Int} (p1 : z_in s0) (p2 : ¬ (s0 = 0) → z_in x2) (p3 : ¬ (s0 = 0) → z_in x3)
    (u1 : s0 = 0 → Q (.inl (some (0, 0))) G h)
    (u2 : ¬ (s0 = 0) → x2 = x3 → Q (.inl (some (0, 0))) G h)
    (u3 : ¬ (s0 = 0) → ¬ (x2 = x3) → Q (.inl (some (0, 1))) G h) :
    z_Y D M_X3_numbersCanBe d 135 [(2, 0, x2), (3, 0, x3)] [(0, s0)] G h Q := by
  intro hl0
  refine z_if_eq (q := 138) (t := 147) p1 dX3_numbersCanBe_135 (by decide) rfl (fun c1 => ?_) (fun c1 => ?_)
  · refine z_iconst (q := 148) dX3_numbersCanBe_147 rfl ?_
    exact z_bret rfl (by decide) dX3_numbersCanBe_148 ⟨hl0, u1 c1⟩
  · refine z_iload_n (q := 139) 0 dX3_numbersCanBe_138 rfl rfl ?_
    refine z_iload_n (q := 140) 1 dX3_numbersCanBe_139 rfl rfl ?_
    refine z_icmp_eq (q := 143) (t := 147) (p2 c1) (p3 c1) dX3_numbersCanBe_140 (by decide) rfl (fun c2 => ?_) (fun c2 => ?_)
    · refine z_iconst (q := 148) dX3_numbersCanBe_147 rfl ?_
      exact z_bret rfl (by decide) dX3_numbersCanBe_148 ⟨hl0, u2 c1 c2⟩
    · refine z_iconst (q := 144) dX3_numbersCanBe_143 rfl ?_
      refine z_goto (t := 148) dX3_numbersCanBe_144 (by decide) ?_
      exact z_bret rfl (by decide) dX3_numbersCanBe_148 ⟨hl0, u3 c1 c2⟩
theorem b_X3_numbersCanBe_210 {D : zD} {d : Nat} {G : zG} {h : zH} {Q : zO → zG → zH → Prop} {s0 x3 : Int} (p1 : z_in s0) (p2 : ¬ (s0 = 0) → z_in x3)
    (u1 : s0 = 0 → Q (.inl (some (0, 0))) G h)
    (u2 : ¬ (s0 = 0) → ¬ x3 = 0 → Q (.inl (some (0, 0))) G h)
    (u3 : ¬ (s0 = 0) → ¬ (¬ x3 = 0) → Q (.inl (some (0, 1))) G h) :
    z_Y D M_X3_numbersCanBe d 210 [(3, 0, x3)] [(0, s0)] G h Q := by
  intro hl0
  refine z_if_eq (q := 213) (t := 221) p1 dX3_numbersCanBe_210 (by decide) rfl (fun c1 => ?_) (fun c1 => ?_)
  · refine z_iconst (q := 222) dX3_numbersCanBe_221 rfl ?_
    exact z_bret rfl (by decide) dX3_numbersCanBe_222 ⟨hl0, u1 c1⟩
  · refine z_iload_n (q := 214) 0 dX3_numbersCanBe_213 rfl rfl ?_
    refine z_if_ne (q := 217) (t := 221) (p2 c1) dX3_numbersCanBe_214 (by decide) rfl (fun c2 => ?_) (fun c2 => ?_)
    · refine z_iconst (q := 222) dX3_numbersCanBe_221 rfl ?_
      exact z_bret rfl (by decide) dX3_numbersCanBe_222 ⟨hl0, u2 c1 c2⟩
    · refine z_iconst (q := 218) dX3_numbersCanBe_217 rfl ?_
      refine z_goto (t := 222) dX3_numbersCanBe_218 (by decide) ?_
      exact z_bret rfl (by decide) dX3_numbersCanBe_222 ⟨hl0, u3 c1 c2⟩
theorem b_X3_turn_0 {D : zD} {d : Nat} {G : zG} {h : zH} {Q : zO → zG → zH → Prop} {x0 x1 : Int} (hd : 2 ≤ d) (p1 : z_is G x0 3) (p2 : z_is G x1 3) (p3 : z_in (h x0 2)) (p4 : z_in (h x0 1))
    (u1 : (1 ≤ (h x0 2) ∧ (h x0 2) ≤ 12) ∧ 1 ≤ (h x0 1) ∧ (h x0 1) ≤ 6 → z_Y D M_X3_turn d 19 [(0, 2, x0), (1, 2, x1), (2, 0, 0)] [] G (z_wr (z_wr h x1 1 (h x0 2)) x1 2 (h x0 1)) Q)
    (u2 : ¬ ((1 ≤ (h x0 2) ∧ (h x0 2) ≤ 12) ∧ 1 ≤ (h x0 1) ∧ (h x0 1) ≤ 6) → Q (.inl (some (0, 0))) G h) :
    z_Y D M_X3_turn d 0 [(0, 2, x0), (1, 2, x1)] [] G h Q := by
  intro hl0
  refine z_aload_n (q := 1) 1 dX3_turn_0 rfl rfl ?_
  refine z_aload_n (q := 2) 0 dX3_turn_1 rfl rfl ?_
  refine z_gf (q := 5) (ki := 2) (v := (0, (h x0 2))) fX3_43 rfl rfl p1 dX3_turn_2 rfl ?_
  refine z_aload_n (q := 6) 0 dX3_turn_5 rfl rfl ?_
  refine z_gf (q := 9) (ki := 1) (v := (0, (h x0 1))) fX3_106 rfl rfl p1 dX3_turn_6 rfl ?_
  by_cases c1 : (1 ≤ (h x0 2) ∧ (h x0 2) ≤ 12) ∧ 1 ≤ (h x0 1) ∧ (h x0 1) ≤ 6
  · have e1 := a_X4_shape1 (D := D) (G := G) (h := h) (d := d - 1) (by omega) x1 (h x0 2) (h x0 1) p2 p3 p4 c1
    refine z_goV (q := 12) (av := [(0, (h x0 2)), (0, (h x0 1))]) (rest := []) cb3 p2 (z_toi) hl0 (z_Ei.K e1 (by omega) ?_) mo_X4_shape np_X4_shape k742 k505 k506 rfl (nle rfl) dX3_turn_9 rfl
    have hl1 : lay G (z_wr (z_wr h x1 1 (h x0 2)) x1 2 (h x0 1)) := e1.lay hl0
    refine z_if_ne (q := 15) (t := 17) ⟨by decide, by decide⟩ dX3_turn_12 (by decide) rfl (fun _ => ?_) (fun c => absurd c (by decide))
    refine z_iconst (q := 18) dX3_turn_17 rfl ?_
    refine z_istore_n (q := 19) (L' := [(0, 2, x0), (1, 2, x1), (2, 0, 0)]) dX3_turn_18 rfl (by decide) rfl ?_
    exact u1 c1 hl1
  · have e2 := a_X4_shape0 (D := D) (G := G) (h := h) (d := d - 1) (by omega) x1 (h x0 2) (h x0 1) p2 p3 p4 c1
    refine z_goV (q := 12) (av := [(0, (h x0 2)), (0, (h x0 1))]) (rest := []) cb3 p2 (z_toi) hl0 (z_Ei.K e2 (by omega) ?_) mo_X4_shape np_X4_shape k742 k505 k506 rfl (nle rfl) dX3_turn_9 rfl
    refine z_if_ne (q := 15) (t := 17) ⟨by decide, by decide⟩ dX3_turn_12 (by decide) rfl (fun c => absurd c (by decide)) (fun _ => ?_)
    refine z_iconst (q := 16) dX3_turn_15 rfl ?_
    exact z_bret rfl (by decide) dX3_turn_16 ⟨hl0, u2 c1⟩
theorem b_X3_turn_19 {D : zD} {d : Nat} {G : zG} {h : zH} {Q : zO → zG → zH → Prop} {x0 x1 x2 : Int} (p1 : z_is G x0 3) (p2 : z_in x2) (p3 : z_in (h x0 1))
    (u1 : (h x0 1) ≤ x2 → Q (.inl (some (0, 1))) G h)
    (u2 : ¬ ((h x0 1) ≤ x2) → z_Y D M_X3_turn d 29 [(0, 2, x0), (1, 2, x1), (2, 0, x2), (3, 0, 0)] [] G h Q) :
    z_Y D M_X3_turn d 19 [(0, 2, x0), (1, 2, x1), (2, 0, x2)] [] G h Q := by
  intro hl0
  refine z_iload_n (q := 20) 2 dX3_turn_19 rfl rfl ?_
  refine z_aload_n (q := 21) 0 dX3_turn_20 rfl rfl ?_
  refine z_gf (q := 24) (ki := 1) (v := (0, (h x0 1))) fX3_106 rfl rfl p1 dX3_turn_21 rfl ?_
  refine z_icmp_ge (q := 27) (t := 61) p2 p3 dX3_turn_24 (by decide) rfl (fun c1 => ?_) (fun c1 => ?_)
  · refine z_iconst (q := 62) dX3_turn_61 rfl ?_
    exact z_bret rfl (by decide) dX3_turn_62 ⟨hl0, u1 c1⟩
  · refine z_iconst (q := 28) dX3_turn_27 rfl ?_
    refine z_istore_n (q := 29) (L' := [(0, 2, x0), (1, 2, x1), (2, 0, x2), (3, 0, 0)]) dX3_turn_28 rfl (by decide) rfl ?_
    exact u2 c1 hl0
theorem b_X3_turn_29 {D : zD} {d : Nat} {G : zG} {h : zH} {Q : zO → zG → zH → Prop} {x0 x1 x2 x3 : Int} (hd : 2 ≤ d) (p1 : z_is G x0 3) (p2 : z_in x3) (p3 : z_in (h x0 2)) (p4 : ¬ ((h x0 2) ≤ x3) → 0 ≤ (x2 * (h x0 2) + x3)) (p5 : ¬ ((h x0 2) ≤ x3) → (x2 * (h x0 2) + x3) < 72) (p6 : ¬ ((h x0 2) ≤ x3) → z_is G x1 3) (p7 : ¬ ((h x0 2) ≤ x3) → 0 ≤ (x3 * (h x1 2) + x2)) (p8 : ¬ ((h x0 2) ≤ x3) → (x3 * (h x1 2) + x2) < 72)
    (u1 : (h x0 2) ≤ x3 → z_Y D M_X3_turn d 19 [(0, 2, x0), (1, 2, x1), (2, 0, (x2 + 1))] [] G h Q)
    (u2 : ¬ ((h x0 2) ≤ x3) → z_Y D M_X3_turn d 29 [(0, 2, x0), (1, 2, x1), (2, 0, x2), (3, 0, (x3 + 1))] [] G (z_wr h (x1 + 1) (x3 * (h x1 2) + x2) (h (x0 + 1) (x2 * (h x0 2) + x3))) Q) :
    z_Y D M_X3_turn d 29 [(0, 2, x0), (1, 2, x1), (2, 0, x2), (3, 0, x3)] [] G h Q := by
  intro hl0
  refine z_iload_n (q := 30) 3 dX3_turn_29 rfl rfl ?_
  refine z_aload_n (q := 31) 0 dX3_turn_30 rfl rfl ?_
  refine z_gf (q := 34) (ki := 2) (v := (0, (h x0 2))) fX3_43 rfl rfl p1 dX3_turn_31 rfl ?_
  refine z_icmp_ge (q := 37) (t := 55) p2 p3 dX3_turn_34 (by decide) rfl (fun c1 => ?_) (fun c1 => ?_)
  · refine z_iinc (q := 58) (L' := [(0, 2, x0), (1, 2, x1), (2, 0, (x2 + 1)), (3, 0, x3)]) 2 dX3_turn_55 rfl rfl (by decide) rfl ?_
    refine z_goto (t := 19) dX3_turn_58 (by decide) ?_
    refine z_sub (L' := [(0, 2, x0), (1, 2, x1), (2, 0, (x2 + 1))]) [0, 1, 2] rfl ?_
    exact u1 c1 hl0
  · refine z_aload_n (q := 38) 1 dX3_turn_37 rfl rfl ?_
    refine z_iload_n (q := 39) 3 dX3_turn_38 rfl rfl ?_
    refine z_iload_n (q := 40) 2 dX3_turn_39 rfl rfl ?_
    refine z_aload_n (q := 41) 0 dX3_turn_40 rfl rfl ?_
    refine z_iload_n (q := 42) 2 dX3_turn_41 rfl rfl ?_
    refine z_iload_n (q := 43) 3 dX3_turn_42 rfl rfl ?_
    have e1 := a_X4_at (D := D) (G := G) (h := h) (d := d - 1) (by omega) x0 x2 x3 (h x0 2) (h (x0 + 1) (x2 * (h x0 2) + x3)) p1 rfl (p4 c1) (p5 c1) rfl
    refine z_goV (q := 46) (av := [(0, x2), (0, x3)]) (rest := [(0, x2), (0, x3), (2, x1)]) cb3 p1 (z_tol) hl0 (z_El.K e1 (by omega) ?_) mo_X4_at np_X4_at k743 k704 k705 rfl (nle rfl) dX3_turn_43 rfl
    have e2 := a_X4_put (D := D) (G := G) (h := h) (d := d - 1) (by omega) x1 x3 x2 (h (x0 + 1) (x2 * (h x0 2) + x3)) (h x1 2) (p6 c1) rfl (p7 c1) (p8 c1)
    refine z_goV (q := 49) (av := [(0, x3), (0, x2), (1, (h (x0 + 1) (x2 * (h x0 2) + x3)))]) (rest := []) cb3 (p6 c1) (z_tov) hl0 (z_Ev.K e2 (by omega) ?_) mo_X4_put np_X4_put k744 k745 k746 rfl (nle rfl) dX3_turn_46 rfl
    have hl1 : lay G (z_wr h (x1 + 1) (x3 * (h x1 2) + x2) (h (x0 + 1) (x2 * (h x0 2) + x3))) := e2.lay hl0
    refine z_iinc (q := 52) (L' := [(0, 2, x0), (1, 2, x1), (2, 0, x2), (3, 0, (x3 + 1))]) 3 dX3_turn_49 rfl rfl (by decide) rfl ?_
    refine z_goto (t := 29) dX3_turn_52 (by decide) ?_
    exact u2 c1 hl1
theorem b_X3_moveColumns_0 {D : zD} {d : Nat} {G : zG} {h : zH} {Q : zO → zG → zH → Prop} {x0 x1 x2 x3 x4 : Int}
    (u1 : z_Y D M_X3_moveColumns d 3 [(0, 2, x0), (1, 2, x1), (2, 0, x2), (3, 0, x3), (4, 0, x4), (5, 0, 0)] [] G h Q) :
    z_Y D M_X3_moveColumns d 0 [(0, 2, x0), (1, 2, x1), (2, 0, x2), (3, 0, x3), (4, 0, x4)] [] G h Q := by
  intro hl0
  refine z_iconst (q := 1) dX3_moveColumns_0 rfl ?_
  refine z_istore (q := 3) (L' := [(0, 2, x0), (1, 2, x1), (2, 0, x2), (3, 0, x3), (4, 0, x4), (5, 0, 0)]) dX3_moveColumns_1 rfl (by decide) rfl ?_
  exact u1 hl0
theorem b_X3_moveColumns_3 {D : zD} {d : Nat} {G : zG} {h : zH} {Q : zO → zG → zH → Prop} {x0 x1 x2 x3 x4 x5 : Int} (p1 : z_is G x0 3) (p2 : z_in x5) (p3 : z_in (h x0 1))
    (u1 : (h x0 1) ≤ x5 → Q (.inl none) G h)
    (u2 : ¬ ((h x0 1) ≤ x5) → z_Y D M_X3_moveColumns d 15 [(0, 2, x0), (1, 2, x1), (2, 0, x2), (3, 0, x3), (4, 0, x4), (5, 0, x5), (6, 0, x2)] [] G h Q) :
    z_Y D M_X3_moveColumns d 3 [(0, 2, x0), (1, 2, x1), (2, 0, x2), (3, 0, x3), (4, 0, x4), (5, 0, x5)] [] G h Q := by
  intro hl0
  refine z_iload (q := 5) 5 dX3_moveColumns_3 rfl rfl ?_
  refine z_aload_n (q := 6) 0 dX3_moveColumns_5 rfl rfl ?_
  refine z_gf (q := 9) (ki := 1) (v := (0, (h x0 1))) fX3_106 rfl rfl p1 dX3_moveColumns_6 rfl ?_
  refine z_icmp_ge (q := 12) (t := 52) p2 p3 dX3_moveColumns_9 (by decide) rfl (fun c1 => ?_) (fun c1 => ?_)
  · exact z_vret rfl dX3_moveColumns_52 ⟨hl0, u1 c1⟩
  · refine z_iload_n (q := 13) 2 dX3_moveColumns_12 rfl rfl ?_
    refine z_istore (q := 15) (L' := [(0, 2, x0), (1, 2, x1), (2, 0, x2), (3, 0, x3), (4, 0, x4), (5, 0, x5), (6, 0, x2)]) dX3_moveColumns_13 rfl (by decide) rfl ?_
    exact u2 c1 hl0
theorem b_X3_moveColumns_15 {D : zD} {d : Nat} {G : zG} {h : zH} {Q : zO → zG → zH → Prop} {x0 x1 x2 x3 x4 x5 x6 : Int} (hd : 2 ≤ d) (p1 : z_in x6) (p2 : z_in x3) (p3 : ¬ (x3 ≤ x6) → z_is G x0 3) (p4 : ¬ (x3 ≤ x6) → 0 ≤ (x5 * (h x0 2) + x6)) (p5 : ¬ (x3 ≤ x6) → (x5 * (h x0 2) + x6) < 72) (p6 : ¬ (x3 ≤ x6) → z_is G x1 3) (p7 : ¬ (x3 ≤ x6) → 0 ≤ (x5 * (h x1 2) + (x6 + x4))) (p8 : ¬ (x3 ≤ x6) → (x5 * (h x1 2) + (x6 + x4)) < 72)
    (u1 : x3 ≤ x6 → z_Y D M_X3_moveColumns d 3 [(0, 2, x0), (1, 2, x1), (2, 0, x2), (3, 0, x3), (4, 0, x4), (5, 0, (x5 + 1))] [] G h Q)
    (u2 : ¬ (x3 ≤ x6) → z_Y D M_X3_moveColumns d 15 [(0, 2, x0), (1, 2, x1), (2, 0, x2), (3, 0, x3), (4, 0, x4), (5, 0, x5), (6, 0, (x6 + 1))] [] G (z_wr h (x1 + 1) (x5 * (h x1 2) + (x6 + x4)) (h (x0 + 1) (x5 * (h x0 2) + x6))) Q) :
    z_Y D M_X3_moveColumns d 15 [(0, 2, x0), (1, 2, x1), (2, 0, x2), (3, 0, x3), (4, 0, x4), (5, 0, x5), (6, 0, x6)] [] G h Q := by
  intro hl0
  refine z_iload (q := 17) 6 dX3_moveColumns_15 rfl rfl ?_
  refine z_iload_n (q := 18) 3 dX3_moveColumns_17 rfl rfl ?_
  refine z_icmp_ge (q := 21) (t := 46) p1 p2 dX3_moveColumns_18 (by decide) rfl (fun c1 => ?_) (fun c1 => ?_)
  · refine z_iinc (q := 49) (L' := [(0, 2, x0), (1, 2, x1), (2, 0, x2), (3, 0, x3), (4, 0, x4), (5, 0, (x5 + 1)), (6, 0, x6)]) 5 dX3_moveColumns_46 rfl rfl (by decide) rfl ?_
    refine z_goto (t := 3) dX3_moveColumns_49 (by decide) ?_
    refine z_sub (L' := [(0, 2, x0), (1, 2, x1), (2, 0, x2), (3, 0, x3), (4, 0, x4), (5, 0, (x5 + 1))]) [0, 1, 2, 3, 4, 5] rfl ?_
    exact u1 c1 hl0
  · refine z_aload_n (q := 22) 1 dX3_moveColumns_21 rfl rfl ?_
    refine z_iload (q := 24) 5 dX3_moveColumns_22 rfl rfl ?_
    refine z_iload (q := 26) 6 dX3_moveColumns_24 rfl rfl ?_
    refine z_iload (q := 28) 4 dX3_moveColumns_26 rfl rfl ?_
    refine z_iadd (q := 29) dX3_moveColumns_28 rfl ?_
    refine z_aload_n (q := 30) 0 dX3_moveColumns_29 rfl rfl ?_
    refine z_iload (q := 32) 5 dX3_moveColumns_30 rfl rfl ?_
    refine z_iload (q := 34) 6 dX3_moveColumns_32 rfl rfl ?_
    have e1 := a_X4_at (D := D) (G := G) (h := h) (d := d - 1) (by omega) x0 x5 x6 (h x0 2) (h (x0 + 1) (x5 * (h x0 2) + x6)) (p3 c1) rfl (p4 c1) (p5 c1) rfl
    refine z_goV (q := 37) (av := [(0, x5), (0, x6)]) (rest := [(0, (x6 + x4)), (0, x5), (2, x1)]) cb3 (p3 c1) (z_tol) hl0 (z_El.K e1 (by omega) ?_) mo_X4_at np_X4_at k743 k704 k705 rfl (nle rfl) dX3_moveColumns_34 rfl
    have e2 := a_X4_put (D := D) (G := G) (h := h) (d := d - 1) (by omega) x1 x5 (x6 + x4) (h (x0 + 1) (x5 * (h x0 2) + x6)) (h x1 2) (p6 c1) rfl (p7 c1) (p8 c1)
    refine z_goV (q := 40) (av := [(0, x5), (0, (x6 + x4)), (1, (h (x0 + 1) (x5 * (h x0 2) + x6)))]) (rest := []) cb3 (p6 c1) (z_tov) hl0 (z_Ev.K e2 (by omega) ?_) mo_X4_put np_X4_put k744 k745 k746 rfl (nle rfl) dX3_moveColumns_37 rfl
    have hl1 : lay G (z_wr h (x1 + 1) (x5 * (h x1 2) + (x6 + x4)) (h (x0 + 1) (x5 * (h x0 2) + x6))) := e2.lay hl0
    refine z_iinc (q := 43) (L' := [(0, 2, x0), (1, 2, x1), (2, 0, x2), (3, 0, x3), (4, 0, x4), (5, 0, x5), (6, 0, (x6 + 1))]) 6 dX3_moveColumns_40 rfl rfl (by decide) rfl ?_
    refine z_goto (t := 15) dX3_moveColumns_43 (by decide) ?_
    exact u2 c1 hl1
theorem b_X3_drop_0 {D : zD} {d : Nat} {G : zG} {h : zH} {Q : zO → zG → zH → Prop} {x0 x1 x2 : Int} (hd : 2 ≤ d) (p1 : z_is G x0 3) (p2 : z_is G x1 3) (p3 : z_in (h x0 1)) (p4 : z_in ((h x0 2) - 1))
    (u1 : (1 ≤ (h x0 1) ∧ (h x0 1) ≤ 12) ∧ 1 ≤ ((h x0 2) - 1) ∧ ((h x0 2) - 1) ≤ 6 → z_Kv D M_X3_moveColumns d [(2, x0), (2, x1), (0, 0), (0, x2), (0, 0)] G (z_wr (z_wr h x1 1 (h x0 1)) x1 2 ((h x0 2) - 1)) (fun G' h' => z_Y D M_X3_drop d 27 [(0, 2, x0), (1, 2, x1), (2, 0, x2)] [] G' h' Q))
    (u2 : ¬ ((1 ≤ (h x0 1) ∧ (h x0 1) ≤ 12) ∧ 1 ≤ ((h x0 2) - 1) ∧ ((h x0 2) - 1) ≤ 6) → Q (.inl (some (0, 0))) G h) :
    z_Y D M_X3_drop d 0 [(0, 2, x0), (1, 2, x1), (2, 0, x2)] [] G h Q := by
  intro hl0
  refine z_aload_n (q := 1) 1 dX3_drop_0 rfl rfl ?_
  refine z_aload_n (q := 2) 0 dX3_drop_1 rfl rfl ?_
  refine z_gf (q := 5) (ki := 1) (v := (0, (h x0 1))) fX3_106 rfl rfl p1 dX3_drop_2 rfl ?_
  refine z_aload_n (q := 6) 0 dX3_drop_5 rfl rfl ?_
  refine z_gf (q := 9) (ki := 2) (v := (0, (h x0 2))) fX3_43 rfl rfl p1 dX3_drop_6 rfl ?_
  refine z_iconst (q := 10) dX3_drop_9 rfl ?_
  refine z_isub (q := 11) dX3_drop_10 rfl ?_
  by_cases c1 : (1 ≤ (h x0 1) ∧ (h x0 1) ≤ 12) ∧ 1 ≤ ((h x0 2) - 1) ∧ ((h x0 2) - 1) ≤ 6
  · have e1 := a_X4_shape1 (D := D) (G := G) (h := h) (d := d - 1) (by omega) x1 (h x0 1) ((h x0 2) - 1) p2 p3 p4 c1
    refine z_goV (q := 14) (av := [(0, (h x0 1)), (0, ((h x0 2) - 1))]) (rest := []) cb3 p2 (z_toi) hl0 (z_Ei.K e1 (by omega) ?_) mo_X4_shape np_X4_shape k742 k505 k506 rfl (nle rfl) dX3_drop_11 rfl
    have hl1 : lay G (z_wr (z_wr h x1 1 (h x0 1)) x1 2 ((h x0 2) - 1)) := e1.lay hl0
    refine z_if_ne (q := 17) (t := 19) ⟨by decide, by decide⟩ dX3_drop_14 (by decide) rfl (fun _ => ?_) (fun c => absurd c (by decide))
    refine z_aload_n (q := 20) 0 dX3_drop_19 rfl rfl ?_
    refine z_aload_n (q := 21) 1 dX3_drop_20 rfl rfl ?_
    refine z_iconst (q := 22) dX3_drop_21 rfl ?_
    refine z_iload_n (q := 23) 2 dX3_drop_22 rfl rfl ?_
    refine z_iconst (q := 24) dX3_drop_23 rfl ?_
    exact z_goS (q := 27) (av := [(2, x0), (2, x1), (0, 0), (0, x2), (0, 0)]) (rest := []) z_tov hl1 (u1 c1) mo_X3_moveColumns np_X3_moveColumns k751 k752 rfl (nle rfl) dX3_drop_24 rfl
  · have e2 := a_X4_shape0 (D := D) (G := G) (h := h) (d := d - 1) (by omega) x1 (h x0 1) ((h x0 2) - 1) p2 p3 p4 c1
    refine z_goV (q := 14) (av := [(0, (h x0 1)), (0, ((h x0 2) - 1))]) (rest := []) cb3 p2 (z_toi) hl0 (z_Ei.K e2 (by omega) ?_) mo_X4_shape np_X4_shape k742 k505 k506 rfl (nle rfl) dX3_drop_11 rfl
    refine z_if_ne (q := 17) (t := 19) ⟨by decide, by decide⟩ dX3_drop_14 (by decide) rfl (fun c => absurd c (by decide)) (fun _ => ?_)
    refine z_iconst (q := 18) dX3_drop_17 rfl ?_
    exact z_bret rfl (by decide) dX3_drop_18 ⟨hl0, u2 c1⟩
theorem b_X3_drop_27 {D : zD} {d : Nat} {G : zG} {h : zH} {Q : zO → zG → zH → Prop} {x0 x1 x2 : Int} (p1 : z_is G x0 3)
    (u1 : z_Kv D M_X3_moveColumns d [(2, x0), (2, x1), (0, (x2 + 1)), (0, (h x0 2)), (0, (-1))] G h (fun G' h' => z_Y D M_X3_drop d 40 [] [] G' h' Q)) :
    z_Y D M_X3_drop d 27 [(0, 2, x0), (1, 2, x1), (2, 0, x2)] [] G h Q := by
  intro hl0
  refine z_aload_n (q := 28) 0 dX3_drop_27 rfl rfl ?_
  refine z_aload_n (q := 29) 1 dX3_drop_28 rfl rfl ?_
  refine z_iload_n (q := 30) 2 dX3_drop_29 rfl rfl ?_
  refine z_iconst (q := 31) dX3_drop_30 rfl ?_
  refine z_iadd (q := 32) dX3_drop_31 rfl ?_
  refine z_aload_n (q := 33) 0 dX3_drop_32 rfl rfl ?_
  refine z_gf (q := 36) (ki := 2) (v := (0, (h x0 2))) fX3_43 rfl rfl p1 dX3_drop_33 rfl ?_
  refine z_iconst (q := 37) dX3_drop_36 rfl ?_
  refine z_sub (L' := []) [] rfl ?_
  exact z_goS (q := 40) (av := [(2, x0), (2, x1), (0, (x2 + 1)), (0, (h x0 2)), (0, (-1))]) (rest := []) z_tov hl0 (u1) mo_X3_moveColumns np_X3_moveColumns k751 k752 rfl (nle rfl) dX3_drop_37 rfl
theorem b_X3_drop_40 {D : zD} {d : Nat} {G : zG} {h : zH} {Q : zO → zG → zH → Prop}
    (u1 : Q (.inl (some (0, 1))) G h) :
    z_Y D M_X3_drop d 40 [] [] G h Q := by
  intro hl0
  refine z_iconst (q := 41) dX3_drop_40 rfl ?_
  exact z_bret rfl (by decide) dX3_drop_41 ⟨hl0, u1⟩
theorem b_X3_head_0 {D : zD} {d : Nat} {G : zG} {h : zH} {Q : zO → zG → zH → Prop} {x0 x1 : Int} (hd : 2 ≤ d) (p1 : z_is G x0 3) (p2 : z_is G x1 3) (p3 : z_in ((h x0 1) - 1)) (p4 : z_in (h x0 2))
    (u1 : (1 ≤ ((h x0 1) - 1) ∧ ((h x0 1) - 1) ≤ 12) ∧ 1 ≤ (h x0 2) ∧ (h x0 2) ≤ 6 → z_Y D M_X3_head d 21 [(0, 2, x0), (1, 2, x1), (2, 0, 1)] [] G (z_wr (z_wr h x1 1 ((h x0 1) - 1)) x1 2 (h x0 2)) Q)
    (u2 : ¬ ((1 ≤ ((h x0 1) - 1) ∧ ((h x0 1) - 1) ≤ 12) ∧ 1 ≤ (h x0 2) ∧ (h x0 2) ≤ 6) → Q (.inl (some (0, 0))) G h) :
    z_Y D M_X3_head d 0 [(0, 2, x0), (1, 2, x1)] [] G h Q := by
  intro hl0
  refine z_aload_n (q := 1) 1 dX3_head_0 rfl rfl ?_
  refine z_aload_n (q := 2) 0 dX3_head_1 rfl rfl ?_
  refine z_gf (q := 5) (ki := 1) (v := (0, (h x0 1))) fX3_106 rfl rfl p1 dX3_head_2 rfl ?_
  refine z_iconst (q := 6) dX3_head_5 rfl ?_
  refine z_isub (q := 7) dX3_head_6 rfl ?_
  refine z_aload_n (q := 8) 0 dX3_head_7 rfl rfl ?_
  refine z_gf (q := 11) (ki := 2) (v := (0, (h x0 2))) fX3_43 rfl rfl p1 dX3_head_8 rfl ?_
  by_cases c1 : (1 ≤ ((h x0 1) - 1) ∧ ((h x0 1) - 1) ≤ 12) ∧ 1 ≤ (h x0 2) ∧ (h x0 2) ≤ 6
  · have e1 := a_X4_shape1 (D := D) (G := G) (h := h) (d := d - 1) (by omega) x1 ((h x0 1) - 1) (h x0 2) p2 p3 p4 c1
    refine z_goV (q := 14) (av := [(0, ((h x0 1) - 1)), (0, (h x0 2))]) (rest := []) cb3 p2 (z_toi) hl0 (z_Ei.K e1 (by omega) ?_) mo_X4_shape np_X4_shape k742 k505 k506 rfl (nle rfl) dX3_head_11 rfl
    have hl1 : lay G (z_wr (z_wr h x1 1 ((h x0 1) - 1)) x1 2 (h x0 2)) := e1.lay hl0
    refine z_if_ne (q := 17) (t := 19) ⟨by decide, by decide⟩ dX3_head_14 (by decide) rfl (fun _ => ?_) (fun c => absurd c (by decide))
    refine z_iconst (q := 20) dX3_head_19 rfl ?_
    refine z_istore_n (q := 21) (L' := [(0, 2, x0), (1, 2, x1), (2, 0, 1)]) dX3_head_20 rfl (by decide) rfl ?_
    exact u1 c1 hl1
  · have e2 := a_X4_shape0 (D := D) (G := G) (h := h) (d := d - 1) (by omega) x1 ((h x0 1) - 1) (h x0 2) p2 p3 p4 c1
    refine z_goV (q := 14) (av := [(0, ((h x0 1) - 1)), (0, (h x0 2))]) (rest := []) cb3 p2 (z_toi) hl0 (z_Ei.K e2 (by omega) ?_) mo_X4_shape np_X4_shape k742 k505 k506 rfl (nle rfl) dX3_head_11 rfl
    refine z_if_ne (q := 17) (t := 19) ⟨by decide, by decide⟩ dX3_head_14 (by decide) rfl (fun c => absurd c (by decide)) (fun _ => ?_)
    refine z_iconst (q := 18) dX3_head_17 rfl ?_
    exact z_bret rfl (by decide) dX3_head_18 ⟨hl0, u2 c1⟩
theorem b_X3_head_21 {D : zD} {d : Nat} {G : zG} {h : zH} {Q : zO → zG → zH → Prop} {x0 x1 x2 : Int} (hd : 3 ≤ d) (p1 : z_is G x0 3) (p2 : z_in x2) (p3 : z_in (h x0 1)) (p4 : ¬ ((h x0 1) ≤ x2) → z_is G x1 3) (p5 : ¬ ((h x0 1) ≤ x2) → ¬ x0 = x1) (p6 : ¬ ((h x0 1) ≤ x2) → 0 ≤ (h x0 2)) (p7 : ¬ ((h x0 1) ≤ x2) → 0 ≤ ((x2 - 1) * (h x1 2))) (p8 : ¬ ((h x0 1) ≤ x2) → ((x2 - 1) * (h x1 2)) + (h x0 2) ≤ 72) (p9 : ¬ ((h x0 1) ≤ x2) → 0 ≤ (x2 * (h x0 2))) (p10 : ¬ ((h x0 1) ≤ x2) → (x2 * (h x0 2)) + (h x0 2) ≤ 72)
    (u1 : (h x0 1) ≤ x2 → Q (.inl (some (0, 1))) G h)
    (u2 : ¬ ((h x0 1) ≤ x2) → z_Y D M_X3_head d 21 [(0, 2, x0), (1, 2, x1), (2, 0, (x2 + 1))] [] G (z_cp h (x0 + 1) (x2 * (h x0 2)) (x1 + 1) ((x2 - 1) * (h x1 2)) (h x0 2)) Q) :
    z_Y D M_X3_head d 21 [(0, 2, x0), (1, 2, x1), (2, 0, x2)] [] G h Q := by
  intro hl0
  refine z_iload_n (q := 22) 2 dX3_head_21 rfl rfl ?_
  refine z_aload_n (q := 23) 0 dX3_head_22 rfl rfl ?_
  refine z_gf (q := 26) (ki := 1) (v := (0, (h x0 1))) fX3_106 rfl rfl p1 dX3_head_23 rfl ?_
  refine z_icmp_ge (q := 29) (t := 48) p2 p3 dX3_head_26 (by decide) rfl (fun c1 => ?_) (fun c1 => ?_)
  · refine z_iconst (q := 49) dX3_head_48 rfl ?_
    exact z_bret rfl (by decide) dX3_head_49 ⟨hl0, u1 c1⟩
  · refine z_aload_n (q := 30) 1 dX3_head_29 rfl rfl ?_
    refine z_iload_n (q := 31) 2 dX3_head_30 rfl rfl ?_
    refine z_iconst (q := 32) dX3_head_31 rfl ?_
    refine z_isub (q := 33) dX3_head_32 rfl ?_
    refine z_aload_n (q := 34) 0 dX3_head_33 rfl rfl ?_
    refine z_iload_n (q := 35) 2 dX3_head_34 rfl rfl ?_
    refine z_aload_n (q := 36) 0 dX3_head_35 rfl rfl ?_
    refine z_gf (q := 39) (ki := 2) (v := (0, (h x0 2))) fX3_43 rfl rfl p1 dX3_head_36 rfl ?_
    have e1 := a_X4_putRow (D := D) (G := G) (h := h) (d := d - 1) (by omega) x1 (x2 - 1) x0 x2 (h x0 2) (h x1 2) (h x0 2) (p4 c1) p1 (nesy (p5 c1)) rfl rfl (p6 c1) (p7 c1) (p8 c1) (p9 c1) (p10 c1)
    refine z_goV (q := 42) (av := [(0, (x2 - 1)), (2, x0), (0, x2), (0, (h x0 2))]) (rest := []) cb3 (p4 c1) (z_tov) hl0 (z_Ev.K e1 (by omega) ?_) mo_X4_putRow np_X4_putRow k776 k777 k778 rfl (nle rfl) dX3_head_39 rfl
    have hl1 : lay G (z_cp h (x0 + 1) (x2 * (h x0 2)) (x1 + 1) ((x2 - 1) * (h x1 2)) (h x0 2)) := e1.lay hl0
    refine z_iinc (q := 45) (L' := [(0, 2, x0), (1, 2, x1), (2, 0, (x2 + 1))]) 2 dX3_head_42 rfl rfl (by decide) rfl ?_
    refine z_goto (t := 21) dX3_head_45 (by decide) ?_
    exact u2 c1 hl1
theorem b_X3_swap_0 {D : zD} {d : Nat} {G : zG} {h : zH} {Q : zO → zG → zH → Prop} {x0 x1 x2 : Int} (hd : 2 ≤ d) (p1 : z_is G x1 3) (p2 : z_is G x0 3) (p3 : 0 ≤ ((h x0 1) * (h x0 2))) (p4 : ((h x0 1) * (h x0 2)) ≤ 72)
    (u1 : z_Y D M_X3_swap d 7 [(0, 2, x0), (1, 2, x1), (2, 0, x2), (3, 0, 0)] [] G (z_cp (z_wr (z_wr h x1 1 (h x0 1)) x1 2 (h x0 2)) (x0 + 1) 0 (x1 + 1) 0 ((h x0 1) * (h x0 2))) Q) :
    z_Y D M_X3_swap d 0 [(0, 2, x0), (1, 2, x1), (2, 0, x2)] [] G h Q := by
  intro hl0
  refine z_aload_n (q := 1) 1 dX3_swap_0 rfl rfl ?_
  refine z_aload_n (q := 2) 0 dX3_swap_1 rfl rfl ?_
  have e1 := a_X4_become (D := D) (G := G) (h := h) (d := d - 1) (by omega) x1 x0 (h x0 1) (h x0 2) p1 p2 rfl rfl p3 p4
  refine z_goV (q := 5) (av := [(2, x0)]) (rest := []) cb3 p1 (z_tov) hl0 (z_Ev.K e1 (by omega) ?_) mo_X4_become np_X4_become k767 k509 k510 rfl (nle rfl) dX3_swap_2 rfl
  have hl1 : lay G (z_cp (z_wr (z_wr h x1 1 (h x0 1)) x1 2 (h x0 2)) (x0 + 1) 0 (x1 + 1) 0 ((h x0 1) * (h x0 2))) := e1.lay hl0
  refine z_iconst (q := 6) dX3_swap_5 rfl ?_
  refine z_istore_n (q := 7) (L' := [(0, 2, x0), (1, 2, x1), (2, 0, x2), (3, 0, 0)]) dX3_swap_6 rfl (by decide) rfl ?_
  exact u1 hl1
theorem b_X3_swap_7 {D : zD} {d : Nat} {G : zG} {h : zH} {Q : zO → zG → zH → Prop} {x0 x1 x2 x3 : Int} (hd : 2 ≤ d) (p1 : z_is G x0 3) (p2 : z_in x3) (p3 : z_in (h x0 1)) (p4 : ¬ ((h x0 1) ≤ x3) → 0 ≤ (x3 * (h x0 2) + (x2 + 1))) (p5 : ¬ ((h x0 1) ≤ x3) → (x3 * (h x0 2) + (x2 + 1)) < 72) (p6 : ¬ ((h x0 1) ≤ x3) → z_is G x1 3) (p7 : ¬ ((h x0 1) ≤ x3) → 0 ≤ (x3 * (h x1 2) + x2)) (p8 : ¬ ((h x0 1) ≤ x3) → (x3 * (h x1 2) + x2) < 72) (p9 : ¬ ((h x0 1) ≤ x3) → ¬ x0 = x1) (p10 : ¬ ((h x0 1) ≤ x3) → 0 ≤ (x3 * (h x0 2) + x2)) (p11 : ¬ ((h x0 1) ≤ x3) → (x3 * (h x0 2) + x2) < 72) (p12 : ¬ ((h x0 1) ≤ x3) → 0 ≤ (x3 * (h x1 2) + (x2 + 1))) (p13 : ¬ ((h x0 1) ≤ x3) → (x3 * (h x1 2) + (x2 + 1)) < 72)
    (u1 : (h x0 1) ≤ x3 → Q (.inl (some (0, 1))) G h)
    (u2 : ¬ ((h x0 1) ≤ x3) → z_Y D M_X3_swap d 7 [(0, 2, x0), (1, 2, x1), (2, 0, x2), (3, 0, (x3 + 1))] [] G (z_wr (z_wr h (x1 + 1) (x3 * (h x1 2) + x2) (h (x0 + 1) (x3 * (h x0 2) + (x2 + 1)))) (x1 + 1) (x3 * (h x1 2) + (x2 + 1)) (h (x0 + 1) (x3 * (h x0 2) + x2))) Q) :
    z_Y D M_X3_swap d 7 [(0, 2, x0), (1, 2, x1), (2, 0, x2), (3, 0, x3)] [] G h Q := by
  intro hl0
  refine z_iload_n (q := 8) 3 dX3_swap_7 rfl rfl ?_
  refine z_aload_n (q := 9) 0 dX3_swap_8 rfl rfl ?_
  refine z_gf (q := 12) (ki := 1) (v := (0, (h x0 1))) fX3_106 rfl rfl p1 dX3_swap_9 rfl ?_
  refine z_icmp_ge (q := 15) (t := 49) p2 p3 dX3_swap_12 (by decide) rfl (fun c1 => ?_) (fun c1 => ?_)
  · refine z_iconst (q := 50) dX3_swap_49 rfl ?_
    exact z_bret rfl (by decide) dX3_swap_50 ⟨hl0, u1 c1⟩
  · refine z_aload_n (q := 16) 1 dX3_swap_15 rfl rfl ?_
    refine z_iload_n (q := 17) 3 dX3_swap_16 rfl rfl ?_
    refine z_iload_n (q := 18) 2 dX3_swap_17 rfl rfl ?_
    refine z_aload_n (q := 19) 0 dX3_swap_18 rfl rfl ?_
    refine z_iload_n (q := 20) 3 dX3_swap_19 rfl rfl ?_
    refine z_iload_n (q := 21) 2 dX3_swap_20 rfl rfl ?_
    refine z_iconst (q := 22) dX3_swap_21 rfl ?_
    refine z_iadd (q := 23) dX3_swap_22 rfl ?_
    have e1 := a_X4_at (D := D) (G := G) (h := h) (d := d - 1) (by omega) x0 x3 (x2 + 1) (h x0 2) (h (x0 + 1) (x3 * (h x0 2) + (x2 + 1))) p1 rfl (p4 c1) (p5 c1) rfl
    refine z_goV (q := 26) (av := [(0, x3), (0, (x2 + 1))]) (rest := [(0, x2), (0, x3), (2, x1)]) cb3 p1 (z_tol) hl0 (z_El.K e1 (by omega) ?_) mo_X4_at np_X4_at k743 k704 k705 rfl (nle rfl) dX3_swap_23 rfl
    have e2 := a_X4_put (D := D) (G := G) (h := h) (d := d - 1) (by omega) x1 x3 x2 (h (x0 + 1) (x3 * (h x0 2) + (x2 + 1))) (h x1 2) (p6 c1) rfl (p7 c1) (p8 c1)
    refine z_goV (q := 29) (av := [(0, x3), (0, x2), (1, (h (x0 + 1) (x3 * (h x0 2) + (x2 + 1))))]) (rest := []) cb3 (p6 c1) (z_tov) hl0 (z_Ev.K e2 (by omega) ?_) mo_X4_put np_X4_put k744 k745 k746 rfl (nle rfl) dX3_swap_26 rfl
    have hl1 : lay G (z_wr h (x1 + 1) (x3 * (h x1 2) + x2) (h (x0 + 1) (x3 * (h x0 2) + (x2 + 1)))) := e2.lay hl0
    refine z_aload_n (q := 30) 1 dX3_swap_29 rfl rfl ?_
    refine z_iload_n (q := 31) 3 dX3_swap_30 rfl rfl ?_
    refine z_iload_n (q := 32) 2 dX3_swap_31 rfl rfl ?_
    refine z_iconst (q := 33) dX3_swap_32 rfl ?_
    refine z_iadd (q := 34) dX3_swap_33 rfl ?_
    refine z_aload_n (q := 35) 0 dX3_swap_34 rfl rfl ?_
    refine z_iload_n (q := 36) 3 dX3_swap_35 rfl rfl ?_
    refine z_iload_n (q := 37) 2 dX3_swap_36 rfl rfl ?_
    have e3 := a_X4_at (D := D) (G := G) (h := (z_wr h (x1 + 1) (x3 * (h x1 2) + x2) (h (x0 + 1) (x3 * (h x0 2) + (x2 + 1))))) (d := d - 1) (by omega) x0 x3 x2 (h x0 2) (h (x0 + 1) (x3 * (h x0 2) + x2)) p1 (w_na (z_isne p1 (hl0.ti (p6 c1)) (by decide))) (p10 c1) (p11 c1) (w_na (ne1 (p9 c1)))
    refine z_goV (q := 40) (av := [(0, x3), (0, x2)]) (rest := [(0, (x2 + 1)), (0, x3), (2, x1)]) cb3 p1 (z_tol) hl1 (z_El.K e3 (by omega) ?_) mo_X4_at np_X4_at k743 k704 k705 rfl (nle rfl) dX3_swap_37 rfl
    have e4 := a_X4_put (D := D) (G := G) (h := (z_wr h (x1 + 1) (x3 * (h x1 2) + x2) (h (x0 + 1) (x3 * (h x0 2) + (x2 + 1))))) (d := d - 1) (by omega) x1 x3 (x2 + 1) (h (x0 + 1) (x3 * (h x0 2) + x2)) (h x1 2) (p6 c1) (w_na (z_isne (p6 c1) (hl0.ti (p6 c1)) (by decide))) (p12 c1) (p13 c1)
    refine z_goV (q := 43) (av := [(0, x3), (0, (x2 + 1)), (1, (h (x0 + 1) (x3 * (h x0 2) + x2)))]) (rest := []) cb3 (p6 c1) (z_tov) hl1 (z_Ev.K e4 (by omega) ?_) mo_X4_put np_X4_put k744 k745 k746 rfl (nle rfl) dX3_swap_40 rfl
    have hl2 : lay G (z_wr (z_wr h (x1 + 1) (x3 * (h x1 2) + x2) (h (x0 + 1) (x3 * (h x0 2) + (x2 + 1)))) (x1 + 1) (x3 * (h x1 2) + (x2 + 1)) (h (x0 + 1) (x3 * (h x0 2) + x2))) := e4.lay hl1
    refine z_iinc (q := 46) (L' := [(0, 2, x0), (1, 2, x1), (2, 0, x2), (3, 0, (x3 + 1))]) 3 dX3_swap_43 rfl rfl (by decide) rfl ?_
    refine z_goto (t := 7) dX3_swap_46 (by decide) ?_
    exact u2 c1 hl2
theorem b_X3_fill_0 {D : zD} {d : Nat} {G : zG} {h : zH} {Q : zO → zG → zH → Prop} {x0 x1 x2 : Int} (hd : 2 ≤ d) (p1 : z_is G x1 3) (p2 : z_is G x0 3) (p3 : 0 ≤ ((h x0 1) * (h x0 2))) (p4 : ((h x0 1) * (h x0 2)) ≤ 72)
    (u1 : z_Y D M_X3_fill d 10 [(0, 2, x0), (1, 2, x1), (2, 0, x2), (3, 0, 0), (4, 0, 1)] [] G (z_cp (z_wr (z_wr h x1 1 (h x0 1)) x1 2 (h x0 2)) (x0 + 1) 0 (x1 + 1) 0 ((h x0 1) * (h x0 2))) Q) :
    z_Y D M_X3_fill d 0 [(0, 2, x0), (1, 2, x1), (2, 0, x2)] [] G h Q := by
  intro hl0
  refine z_aload_n (q := 1) 1 dX3_fill_0 rfl rfl ?_
  refine z_aload_n (q := 2) 0 dX3_fill_1 rfl rfl ?_
  have e1 := a_X4_become (D := D) (G := G) (h := h) (d := d - 1) (by omega) x1 x0 (h x0 1) (h x0 2) p1 p2 rfl rfl p3 p4
  refine z_goV (q := 5) (av := [(2, x0)]) (rest := []) cb3 p1 (z_tov) hl0 (z_Ev.K e1 (by omega) ?_) mo_X4_become np_X4_become k767 k509 k510 rfl (nle rfl) dX3_fill_2 rfl
  have hl1 : lay G (z_cp (z_wr (z_wr h x1 1 (h x0 1)) x1 2 (h x0 2)) (x0 + 1) 0 (x1 + 1) 0 ((h x0 1) * (h x0 2))) := e1.lay hl0
  refine z_iconst (q := 6) dX3_fill_5 rfl ?_
  refine z_istore_n (q := 7) (L' := [(0, 2, x0), (1, 2, x1), (2, 0, x2), (3, 0, 0)]) dX3_fill_6 rfl (by decide) rfl ?_
  refine z_iconst (q := 8) dX3_fill_7 rfl ?_
  refine z_istore (q := 10) (L' := [(0, 2, x0), (1, 2, x1), (2, 0, x2), (3, 0, 0), (4, 0, 1)]) dX3_fill_8 rfl (by decide) rfl ?_
  exact u1 hl1
theorem b_X3_fill_10 {D : zD} {d : Nat} {G : zG} {h : zH} {Q : zO → zG → zH → Prop} {x0 x1 x2 x3 x4 : Int} (hd : 2 ≤ d) (p1 : z_is G x0 3) (p2 : z_in x4) (p3 : z_in (h x0 1)) (p4 : (h x0 1) ≤ x4 → x3 = 0 ∨ x3 = 1) (p5 : ¬ ((h x0 1) ≤ x4) → z_is G x1 3) (p6 : ¬ ((h x0 1) ≤ x4) → 0 ≤ ((x4 - 1) * (h x1 2) + x2)) (p7 : ¬ ((h x0 1) ≤ x4) → ((x4 - 1) * (h x1 2) + x2) < 72) (p8 : ¬ ((h x0 1) ≤ x4) → 0 ≤ (x4 * (h x1 2) + x2)) (p9 : ¬ ((h x0 1) ≤ x4) → (x4 * (h x1 2) + x2) < 72) (p10 : ¬ ((h x0 1) ≤ x4) → z_in64 (h (x1 + 1) (x4 * (h x1 2) + x2))) (p11 : ¬ ((h x0 1) ≤ x4) → ¬ (¬ (h (x1 + 1) (x4 * (h x1 2) + x2)) = 0) → z_in64 (h (x1 + 1) ((x4 - 1) * (h x1 2) + x2)))
    (u1 : (h x0 1) ≤ x4 → Q (.inl (some (0, x3))) G h)
    (u2 : ¬ ((h x0 1) ≤ x4) → ¬ (h (x1 + 1) (x4 * (h x1 2) + x2)) = 0 → z_Y D M_X3_fill d 10 [(0, 2, x0), (1, 2, x1), (2, 0, x2), (3, 0, x3), (4, 0, (x4 + 1))] [] G h Q)
    (u3 : ¬ ((h x0 1) ≤ x4) → ¬ (¬ (h (x1 + 1) (x4 * (h x1 2) + x2)) = 0) → (h (x1 + 1) ((x4 - 1) * (h x1 2) + x2)) = 0 → z_Y D M_X3_fill d 10 [(0, 2, x0), (1, 2, x1), (2, 0, x2), (3, 0, x3), (4, 0, (x4 + 1))] [] G h Q)
    (u4 : ¬ ((h x0 1) ≤ x4) → ¬ (¬ (h (x1 + 1) (x4 * (h x1 2) + x2)) = 0) → ¬ ((h (x1 + 1) ((x4 - 1) * (h x1 2) + x2)) = 0) → z_Y D M_X3_fill d 10 [(0, 2, x0), (1, 2, x1), (2, 0, x2), (3, 0, 1), (4, 0, (x4 + 1))] [] G (z_wr h (x1 + 1) (x4 * (h x1 2) + x2) (h (x1 + 1) ((x4 - 1) * (h x1 2) + x2))) Q) :
    z_Y D M_X3_fill d 10 [(0, 2, x0), (1, 2, x1), (2, 0, x2), (3, 0, x3), (4, 0, x4)] [] G h Q := by
  intro hl0
  refine z_iload (q := 12) 4 dX3_fill_10 rfl rfl ?_
  refine z_aload_n (q := 13) 0 dX3_fill_12 rfl rfl ?_
  refine z_gf (q := 16) (ki := 1) (v := (0, (h x0 1))) fX3_106 rfl rfl p1 dX3_fill_13 rfl ?_
  refine z_icmp_ge (q := 19) (t := 66) p2 p3 dX3_fill_16 (by decide) rfl (fun c1 => ?_) (fun c1 => ?_)
  · refine z_iload_n (q := 67) 3 dX3_fill_66 rfl rfl ?_
    exact z_bret rfl (p4 c1) dX3_fill_67 ⟨hl0, u1 c1⟩
  · refine z_aload_n (q := 20) 1 dX3_fill_19 rfl rfl ?_
    refine z_iload (q := 22) 4 dX3_fill_20 rfl rfl ?_
    refine z_iconst (q := 23) dX3_fill_22 rfl ?_
    refine z_isub (q := 24) dX3_fill_23 rfl ?_
    refine z_iload_n (q := 25) 2 dX3_fill_24 rfl rfl ?_
    have e1 := a_X4_at (D := D) (G := G) (h := h) (d := d - 1) (by omega) x1 (x4 - 1) x2 (h x1 2) (h (x1 + 1) ((x4 - 1) * (h x1 2) + x2)) (p5 c1) rfl (p6 c1) (p7 c1) rfl
    refine z_goV (q := 28) (av := [(0, (x4 - 1)), (0, x2)]) (rest := []) cb3 (p5 c1) (z_tol) hl0 (z_El.K e1 (by omega) ?_) mo_X4_at np_X4_at k743 k704 k705 rfl (nle rfl) dX3_fill_25 rfl
    refine z_lstore (q := 30) (L' := [(0, 2, x0), (1, 2, x1), (2, 0, x2), (3, 0, x3), (4, 0, x4), (5, 1, (h (x1 + 1) ((x4 - 1) * (h x1 2) + x2)))]) dX3_fill_28 rfl (by decide) rfl ?_
    refine z_aload_n (q := 31) 1 dX3_fill_30 rfl rfl ?_
    refine z_iload (q := 33) 4 dX3_fill_31 rfl rfl ?_
    refine z_iload_n (q := 34) 2 dX3_fill_33 rfl rfl ?_
    have e2 := a_X4_at (D := D) (G := G) (h := h) (d := d - 1) (by omega) x1 x4 x2 (h x1 2) (h (x1 + 1) (x4 * (h x1 2) + x2)) (p5 c1) rfl (p8 c1) (p9 c1) rfl
    refine z_goV (q := 37) (av := [(0, x4), (0, x2)]) (rest := []) cb3 (p5 c1) (z_tol) hl0 (z_El.K e2 (by omega) ?_) mo_X4_at np_X4_at k743 k704 k705 rfl (nle rfl) dX3_fill_34 rfl
    refine z_lconst0 (q := 38) dX3_fill_37 rfl ?_
    refine z_lcmp_ne (q := 42) (t := 60) (p10 c1) ⟨by decide, by decide⟩ dX3_fill_38 (rfl : _ = 39) dX3_fill_39 (by decide) rfl (fun c2 => ?_) (fun c2 => ?_)
    · refine z_iinc (q := 63) (L' := [(0, 2, x0), (1, 2, x1), (2, 0, x2), (3, 0, x3), (4, 0, (x4 + 1)), (5, 1, (h (x1 + 1) ((x4 - 1) * (h x1 2) + x2)))]) 4 dX3_fill_60 rfl rfl (by decide) rfl ?_
      refine z_goto (t := 10) dX3_fill_63 (by decide) ?_
      refine z_sub (L' := [(0, 2, x0), (1, 2, x1), (2, 0, x2), (3, 0, x3), (4, 0, (x4 + 1))]) [0, 1, 2, 3, 4] rfl ?_
      exact u2 c1 c2 hl0
    · refine z_lload (q := 44) 5 dX3_fill_42 rfl rfl ?_
      refine z_lconst0 (q := 45) dX3_fill_44 rfl ?_
      refine z_lcmp_eq (q := 49) (t := 60) (p11 c1 c2) ⟨by decide, by decide⟩ dX3_fill_45 (rfl : _ = 46) dX3_fill_46 (by decide) rfl (fun c3 => ?_) (fun c3 => ?_)
      · refine z_iinc (q := 63) (L' := [(0, 2, x0), (1, 2, x1), (2, 0, x2), (3, 0, x3), (4, 0, (x4 + 1)), (5, 1, (h (x1 + 1) ((x4 - 1) * (h x1 2) + x2)))]) 4 dX3_fill_60 rfl rfl (by decide) rfl ?_
        refine z_goto (t := 10) dX3_fill_63 (by decide) ?_
        refine z_sub (L' := [(0, 2, x0), (1, 2, x1), (2, 0, x2), (3, 0, x3), (4, 0, (x4 + 1))]) [0, 1, 2, 3, 4] rfl ?_
        exact u3 c1 c2 c3 hl0
      · refine z_aload_n (q := 50) 1 dX3_fill_49 rfl rfl ?_
        refine z_iload (q := 52) 4 dX3_fill_50 rfl rfl ?_
        refine z_iload_n (q := 53) 2 dX3_fill_52 rfl rfl ?_
        refine z_lload (q := 55) 5 dX3_fill_53 rfl rfl ?_
        have e3 := a_X4_put (D := D) (G := G) (h := h) (d := d - 1) (by omega) x1 x4 x2 (h (x1 + 1) ((x4 - 1) * (h x1 2) + x2)) (h x1 2) (p5 c1) rfl (p8 c1) (p9 c1)
        refine z_goV (q := 58) (av := [(0, x4), (0, x2), (1, (h (x1 + 1) ((x4 - 1) * (h x1 2) + x2)))]) (rest := []) cb3 (p5 c1) (z_tov) hl0 (z_Ev.K e3 (by omega) ?_) mo_X4_put np_X4_put k744 k745 k746 rfl (nle rfl) dX3_fill_55 rfl
        have hl1 : lay G (z_wr h (x1 + 1) (x4 * (h x1 2) + x2) (h (x1 + 1) ((x4 - 1) * (h x1 2) + x2))) := e3.lay hl0
        refine z_iconst (q := 59) dX3_fill_58 rfl ?_
        refine z_istore_n (q := 60) (L' := [(0, 2, x0), (1, 2, x1), (2, 0, x2), (3, 0, 1), (4, 0, x4), (5, 1, (h (x1 + 1) ((x4 - 1) * (h x1 2) + x2)))]) dX3_fill_59 rfl (by decide) rfl ?_
        refine z_iinc (q := 63) (L' := [(0, 2, x0), (1, 2, x1), (2, 0, x2), (3, 0, 1), (4, 0, (x4 + 1)), (5, 1, (h (x1 + 1) ((x4 - 1) * (h x1 2) + x2)))]) 4 dX3_fill_60 rfl rfl (by decide) rfl ?_
        refine z_goto (t := 10) dX3_fill_63 (by decide) ?_
        refine z_sub (L' := [(0, 2, x0), (1, 2, x1), (2, 0, x2), (3, 0, 1), (4, 0, (x4 + 1))]) [0, 1, 2, 3, 4] rfl ?_
        exact u4 c1 c2 c3 hl1
