section FormOf1
variable {D : zD} {d : Nat} {G : zG} {h : zH} {Q : zO → zG → zH → Prop}
theorem a_X3_formOf1 (hd : 0 ≤ d) (n : Int) (hn : z_in n) : z_Ei D M_X3_formOf d [(0, n)] G h (zfm n) h := a_X3_formOf n hn
end FormOf1
theorem b_X10_lastLetter_0 {D : zD} {d : Nat} {G : zG} {h : zH} {Q : zO → zG → zH → Prop} {x0 x1 x2 : Int}
    (u1 : z_Y D M_X10_lastLetter d 7 [(0, 2, x0), (1, 0, x1), (3, 0, x2), (4, 0, (x2 + 1))] [] G h Q) :
    z_Y D M_X10_lastLetter d 0 [(0, 2, x0), (1, 0, x1), (2, 0, x2)] [] G h Q := by
  intro hl0
  refine z_iload_n (q := 1) 2 dX10_lastLetter_0 rfl rfl ?_
  refine z_istore_n (q := 2) (L' := [(0, 2, x0), (1, 0, x1), (2, 0, x2), (3, 0, x2)]) dX10_lastLetter_1 rfl (by decide) rfl ?_
  refine z_iload_n (q := 3) 2 dX10_lastLetter_2 rfl rfl ?_
  refine z_iconst (q := 4) dX10_lastLetter_3 rfl ?_
  refine z_iadd (q := 5) dX10_lastLetter_4 rfl ?_
  refine z_istore (q := 7) (L' := [(0, 2, x0), (1, 0, x1), (2, 0, x2), (3, 0, x2), (4, 0, (x2 + 1))]) dX10_lastLetter_5 rfl (by decide) rfl ?_
  refine z_sub (L' := [(0, 2, x0), (1, 0, x1), (3, 0, x2), (4, 0, (x2 + 1))]) [0, 1, 3, 4] rfl ?_
  exact u1 hl0
theorem b_X10_lastLetter_7 {D : zD} {d : Nat} {G : zG} {h : zH} {Q : zO → zG → zH → Prop} {x0 x1 x3 x4 : Int} (hd : 2 ≤ d) (p1 : z_in x4) (p2 : z_in x1) (p3 : ¬ (x1 ≤ x4) → z_is G x0 52) (p4 : ¬ (x1 ≤ x4) → z_in (G.2.2.2 x0)) (p5 : ¬ (x1 ≤ x4) → ¬ ((G.2.2.2 x0) ≤ x4) → 0 ≤ x4) (p6 : ¬ (x1 ≤ x4) → ¬ ((G.2.2.2 x0) ≤ x4) → x4 < (G.2.2.2 x0)) (p7 : ¬ (x1 ≤ x4) → ¬ ((G.2.2.2 x0) ≤ x4) → z_in (z_iand (w8 (h x0 x4)) 255))
    (u1 : x1 ≤ x4 → Q (.inl (some (0, x3))) G h)
    (u2 : ¬ (x1 ≤ x4) → (G.2.2.2 x0) ≤ x4 → Q (.inl (some (0, x3))) G h)
    (u3 : ¬ (x1 ≤ x4) → ¬ ((G.2.2.2 x0) ≤ x4) → 97 ≤ (z_iand (w8 (h x0 x4)) 255) ∧ (z_iand (w8 (h x0 x4)) 255) ≤ 122 → z_Y D M_X10_lastLetter d 7 [(0, 2, x0), (1, 0, x1), (3, 0, x4), (4, 0, (x4 + 1))] [] G h Q)
    (u4 : ¬ (x1 ≤ x4) → ¬ ((G.2.2.2 x0) ≤ x4) → ¬ (97 ≤ (z_iand (w8 (h x0 x4)) 255) ∧ (z_iand (w8 (h x0 x4)) 255) ≤ 122) → Q (.inl (some (0, x3))) G h) :
    z_Y D M_X10_lastLetter d 7 [(0, 2, x0), (1, 0, x1), (3, 0, x3), (4, 0, x4)] [] G h Q := by
  intro hl0
  refine z_iload (q := 9) 3 dX10_lastLetter_7 rfl rfl ?_
  refine z_iload_n (q := 10) 1 dX10_lastLetter_9 rfl rfl ?_
  refine z_icmp_ge (q := 13) (t := 43) p1 p2 dX10_lastLetter_10 (by decide) rfl (fun c1 => ?_) (fun c1 => ?_)
  · refine z_iload_n (q := 44) 2 dX10_lastLetter_43 rfl rfl ?_
    exact z_iret rfl dX10_lastLetter_44 ⟨hl0, u1 c1⟩
  · refine z_iload (q := 15) 3 dX10_lastLetter_13 rfl rfl ?_
    refine z_aload_n (q := 16) 0 dX10_lastLetter_15 rfl rfl ?_
    refine z_alen (q := 17) 52 (by decide) (by decide) (z_ati (p3 c1)) dX10_lastLetter_16 rfl ?_
    refine z_icmp_ge (q := 20) (t := 43) p1 (p4 c1) dX10_lastLetter_17 (by decide) rfl (fun c2 => ?_) (fun c2 => ?_)
    · refine z_iload_n (q := 44) 2 dX10_lastLetter_43 rfl rfl ?_
      exact z_iret rfl dX10_lastLetter_44 ⟨hl0, u2 c1 c2⟩
    · refine z_aload_n (q := 21) 0 dX10_lastLetter_20 rfl rfl ?_
      refine z_iload (q := 23) 3 dX10_lastLetter_21 rfl rfl ?_
      refine z_bale (q := 24) (v := (h x0 x4)) (z_ati (p3 c1)) (p5 c1 c2) (p6 c1 c2) rfl dX10_lastLetter_23 rfl ?_
      refine z_sipush (q := 27) dX10_lastLetter_24 rfl (by decide) ?_
      refine z_r_iand (q := 28) dX10_lastLetter_27 rfl ?_
      have e1 := a_X6_isLetter (D := D) (G := G) (h := h) (d := d - 1) (by omega) (z_iand (w8 (h x0 x4)) 255) (p7 c1 c2)
      refine z_goS (q := 31) (av := [(0, (z_iand (w8 (h x0 x4)) 255))]) (rest := []) (z_toi) hl0 (z_Ei.K e1 (by omega) ?_) mo_X6_isLetter np_X6_isLetter k527 k494 rfl (nle rfl) dX10_lastLetter_28 rfl
      by_cases c3 : 97 ≤ (z_iand (w8 (h x0 x4)) 255) ∧ (z_iand (w8 (h x0 x4)) 255) ≤ 122
      · rw [z_b1 c3]
        refine z_if_eq (q := 34) (t := 43) ⟨by decide, by decide⟩ dX10_lastLetter_31 (by decide) rfl (fun c => absurd c (by decide)) (fun _ => ?_)
        refine z_iload (q := 36) 3 dX10_lastLetter_34 rfl rfl ?_
        refine z_istore_n (q := 37) (L' := [(0, 2, x0), (1, 0, x1), (3, 0, x4), (4, 0, x4)]) dX10_lastLetter_36 rfl (by decide) rfl ?_
        refine z_iinc (q := 40) (L' := [(0, 2, x0), (1, 0, x1), (3, 0, x4), (4, 0, (x4 + 1))]) 3 dX10_lastLetter_37 rfl rfl (by decide) rfl ?_
        refine z_goto (t := 7) dX10_lastLetter_40 (by decide) ?_
        exact u3 c1 c2 c3 hl0
      · rw [z_b0 c3]
        refine z_if_eq (q := 34) (t := 43) ⟨by decide, by decide⟩ dX10_lastLetter_31 (by decide) rfl (fun _ => ?_) (fun c => absurd c (by decide))
        refine z_iload_n (q := 44) 2 dX10_lastLetter_43 rfl rfl ?_
        exact z_iret rfl dX10_lastLetter_44 ⟨hl0, u4 c1 c2 c3⟩
theorem b_X10_wordIn_0 {D : zD} {d : Nat} {G : zG} {h : zH} {Q : zO → zG → zH → Prop} {x0 x1 x2 : Int}
    (u1 : z_Y D M_X10_wordIn d 2 [(0, 2, x0), (1, 0, x1), (2, 0, x2), (3, 0, 1)] [] G h Q) :
    z_Y D M_X10_wordIn d 0 [(0, 2, x0), (1, 0, x1), (2, 0, x2)] [] G h Q := by
  intro hl0
  refine z_iconst (q := 1) dX10_wordIn_0 rfl ?_
  refine z_istore_n (q := 2) (L' := [(0, 2, x0), (1, 0, x1), (2, 0, x2), (3, 0, 1)]) dX10_wordIn_1 rfl (by decide) rfl ?_
  exact u1 hl0
theorem b_X10_wordIn_2 {D : zD} {d : Nat} {G : zG} {h : zH} {Q : zO → zG → zH → Prop} {x0 x1 x2 x3 : Int} (p1 : z_in x3)
    (u1 : 15 < x3 → Q (.inl (some (0, (-1)))) G h)
    (u2 : ¬ (15 < x3) → z_Ka D M_X10_wordOf d [(0, x3)] G h (fun r G' h' => z_Y D M_X10_wordIn d 12 [(0, 2, x0), (1, 0, x1), (2, 0, x2), (3, 0, x3)] [(2, r)] G' h' Q)) :
    z_Y D M_X10_wordIn d 2 [(0, 2, x0), (1, 0, x1), (2, 0, x2), (3, 0, x3)] [] G h Q := by
  intro hl0
  refine z_iload_n (q := 3) 3 dX10_wordIn_2 rfl rfl ?_
  refine z_bipush (q := 5) dX10_wordIn_3 rfl (by decide) ?_
  refine z_icmp_gt (q := 8) (t := 29) p1 ⟨by decide, by decide⟩ dX10_wordIn_5 (by decide) rfl (fun c1 => ?_) (fun c1 => ?_)
  · refine z_iconst (q := 30) dX10_wordIn_29 rfl ?_
    exact z_iret rfl dX10_wordIn_30 ⟨hl0, u1 c1⟩
  · refine z_iload_n (q := 9) 3 dX10_wordIn_8 rfl rfl ?_
    exact z_goS (q := 12) (av := [(0, x3)]) (rest := []) z_toa hl0 (u2 c1) mo_X10_wordOf np_X10_wordOf k534 k535 rfl (nle rfl) dX10_wordIn_9 rfl
theorem b_X10_wordIn_12 {D : zD} {d : Nat} {G : zG} {h : zH} {Q : zO → zG → zH → Prop} {s0 x0 x1 x2 x3 : Int}
    (u1 : z_Ki D M_X10_spells d [(2, s0), (2, x0), (0, x1), (0, x2)] G h (fun r G' h' => z_Y D M_X10_wordIn d 18 [(0, 2, x0), (1, 0, x1), (2, 0, x2), (3, 0, x3)] [(0, r)] G' h' Q)) :
    z_Y D M_X10_wordIn d 12 [(0, 2, x0), (1, 0, x1), (2, 0, x2), (3, 0, x3)] [(2, s0)] G h Q := by
  intro hl0
  refine z_aload_n (q := 13) 0 dX10_wordIn_12 rfl rfl ?_
  refine z_iload_n (q := 14) 1 dX10_wordIn_13 rfl rfl ?_
  refine z_iload_n (q := 15) 2 dX10_wordIn_14 rfl rfl ?_
  exact z_goS (q := 18) (av := [(2, s0), (2, x0), (0, x1), (0, x2)]) (rest := []) z_toi hl0 (u1) mo_X10_spells np_X10_spells k552 k553 rfl (nle rfl) dX10_wordIn_15 rfl
theorem b_X10_wordIn_18 {D : zD} {d : Nat} {G : zG} {h : zH} {Q : zO → zG → zH → Prop} {s0 x0 x1 x2 x3 : Int} (p1 : z_in s0)
    (u1 : s0 = 0 → z_Y D M_X10_wordIn d 2 [(0, 2, x0), (1, 0, x1), (2, 0, x2), (3, 0, (x3 + 1))] [] G h Q)
    (u2 : ¬ (s0 = 0) → Q (.inl (some (0, x3))) G h) :
    z_Y D M_X10_wordIn d 18 [(0, 2, x0), (1, 0, x1), (2, 0, x2), (3, 0, x3)] [(0, s0)] G h Q := by
  intro hl0
  refine z_if_eq (q := 21) (t := 23) p1 dX10_wordIn_18 (by decide) rfl (fun c1 => ?_) (fun c1 => ?_)
  · refine z_iinc (q := 26) (L' := [(0, 2, x0), (1, 0, x1), (2, 0, x2), (3, 0, (x3 + 1))]) 3 dX10_wordIn_23 rfl rfl (by decide) rfl ?_
    refine z_goto (t := 2) dX10_wordIn_26 (by decide) ?_
    exact u1 c1 hl0
  · refine z_iload_n (q := 22) 3 dX10_wordIn_21 rfl rfl ?_
    exact z_iret rfl dX10_wordIn_22 ⟨hl0, u2 c1⟩
theorem b_X10_takeWord_0 {D : zD} {d : Nat} {G : zG} {h : zH} {Q : zO → zG → zH → Prop} {x1 : Int} (hd : 2 ≤ d) (p1 : z_in (h 7 3)) (p2 : ¬ (¬ (h 7 3) = 0) → z_in x1) (p3 : ¬ (¬ (h 7 3) = 0) → ¬ x1 = (-1) → ¬ x1 = 15 → z_in (h 8 1)) (p4 : ¬ (¬ (h 7 3) = 0) → ¬ x1 = (-1) → ¬ x1 = 15 → ¬ (h 8 1) = 12 → z_in (zfm x1))
    (u1 : ¬ (h 7 3) = 0 → Q (.inl (some (0, 1))) G h)
    (u2 : ¬ (¬ (h 7 3) = 0) → ¬ x1 = (-1) → ¬ x1 = 15 → ¬ (h 8 1) = 12 → ¬ (zfm x1) = 0 → Q (.inl (some (0, 0))) G (z_wr (z_wr (z_wr (z_wr h 7 4 x1) 7 5 0) 7 6 0) 7 3 1))
    (u3 : ¬ (¬ (h 7 3) = 0) → ¬ x1 = (-1) → ¬ x1 = 15 → ¬ (h 8 1) = 12 → ¬ (¬ (zfm x1) = 0) → Q (.inl (some (0, 0))) G (z_wr (z_wr (z_wr (z_wr h 7 4 x1) 7 5 0) 7 6 0) 7 3 4))
    (u4 : ¬ (¬ (h 7 3) = 0) → ¬ x1 = (-1) → ¬ x1 = 15 → ¬ (¬ (h 8 1) = 12) → Q (.inl (some (0, 3))) G h)
    (u5 : ¬ (¬ (h 7 3) = 0) → ¬ x1 = (-1) → ¬ (¬ x1 = 15) → Q (.inl (some (0, 0))) G (z_wr h 7 3 5))
    (u6 : ¬ (¬ (h 7 3) = 0) → ¬ (¬ x1 = (-1)) → Q (.inl (some (0, 1))) G h) :
    z_Y D M_X10_takeWord d 0 [(0, 2, 7), (1, 0, x1)] [] G h Q := by
  intro hl0
  refine z_aload_n (q := 1) 0 dX10_takeWord_0 rfl rfl ?_
  refine z_gf (q := 4) (ki := 3) (v := (0, (h 7 3))) fX10_35 rfl rfl (hl0.i 7 (by decide) rfl) dX10_takeWord_1 rfl ?_
  refine z_if_ne (q := 7) (t := 12) p1 dX10_takeWord_4 (by decide) rfl (fun c1 => ?_) (fun c1 => ?_)
  · refine z_iconst (q := 13) dX10_takeWord_12 rfl ?_
    exact z_iret rfl dX10_takeWord_13 ⟨hl0, u1 c1⟩
  · refine z_iload_n (q := 8) 1 dX10_takeWord_7 rfl rfl ?_
    refine z_iconst (q := 9) dX10_takeWord_8 rfl ?_
    refine z_icmp_ne (q := 12) (t := 14) (p2 c1) ⟨by decide, by decide⟩ dX10_takeWord_9 (by decide) rfl (fun c2 => ?_) (fun c2 => ?_)
    · refine z_iload_n (q := 15) 1 dX10_takeWord_14 rfl rfl ?_
      refine z_bipush (q := 17) dX10_takeWord_15 rfl (by decide) ?_
      refine z_icmp_ne (q := 20) (t := 27) (p2 c1) ⟨by decide, by decide⟩ dX10_takeWord_17 (by decide) rfl (fun c3 => ?_) (fun c3 => ?_)
      · refine z_aload_n (q := 28) 0 dX10_takeWord_27 rfl rfl ?_
        refine z_gf (q := 31) (ki := 0) (v := (2, 8)) fX10_12 rfl (z_ldr rfl (hl0.ref 7 rfl)) (hl0.i 7 (by decide) rfl) dX10_takeWord_28 rfl ?_
        refine z_gf (q := 34) (ki := 1) (v := (0, (h 8 1))) fX10_111 rfl rfl (hl0.i 8 (by decide) rfl) dX10_takeWord_31 rfl ?_
        refine z_bipush (q := 36) dX10_takeWord_34 rfl (by decide) ?_
        refine z_icmp_ne (q := 39) (t := 41) (p3 c1 c2 c3) ⟨by decide, by decide⟩ dX10_takeWord_36 (by decide) rfl (fun c4 => ?_) (fun c4 => ?_)
        · refine z_aload_n (q := 42) 0 dX10_takeWord_41 rfl rfl ?_
          refine z_iload_n (q := 43) 1 dX10_takeWord_42 rfl rfl ?_
          refine z_pf (q := 46) (ki := 4) fX10_113 rfl (z_sv0 rfl) (hl0.i 7 (by decide) rfl) dX10_takeWord_43 rfl ?_
          have hl1 := hl0.wr (v := x1) (hl0.i 7 (by decide) rfl) (i := 4) (by decide)
          refine z_aload_n (q := 47) 0 dX10_takeWord_46 rfl rfl ?_
          refine z_iconst (q := 48) dX10_takeWord_47 rfl ?_
          refine z_pf (q := 51) (ki := 5) fX10_116 rfl (z_sv0 rfl) (hl1.i 7 (by decide) rfl) dX10_takeWord_48 rfl ?_
          have hl2 := hl1.wr (v := 0) (hl1.i 7 (by decide) rfl) (i := 5) (by decide)
          refine z_aload_n (q := 52) 0 dX10_takeWord_51 rfl rfl ?_
          refine z_iconst (q := 53) dX10_takeWord_52 rfl ?_
          refine z_pf (q := 56) (ki := 6) fX10_119 rfl (z_sv0 rfl) (hl2.i 7 (by decide) rfl) dX10_takeWord_53 rfl ?_
          have hl3 := hl2.wr (v := 0) (hl2.i 7 (by decide) rfl) (i := 6) (by decide)
          refine z_aload_n (q := 57) 0 dX10_takeWord_56 rfl rfl ?_
          refine z_iload_n (q := 58) 1 dX10_takeWord_57 rfl rfl ?_
          have e1 := a_X3_formOf1 (D := D) (G := G) (h := (z_wr (z_wr (z_wr h 7 4 x1) 7 5 0) 7 6 0)) (d := d - 1) (by omega) x1 (p2 c1)
          refine z_goS (q := 61) (av := [(0, x1)]) (rest := [(2, 7)]) (z_toi) hl3 (z_Ei.K e1 (by omega) ?_) mo_X3_formOf np_X3_formOf k607 k608 rfl (nle rfl) dX10_takeWord_58 rfl
          refine z_if_ne (q := 64) (t := 68) (p4 c1 c2 c3 c4) dX10_takeWord_61 (by decide) rfl (fun c5 => ?_) (fun c5 => ?_)
          · refine z_iconst (q := 69) dX10_takeWord_68 rfl ?_
            refine z_pf (q := 72) (ki := 3) fX10_35 rfl (z_sv0 rfl) (hl3.i 7 (by decide) rfl) dX10_takeWord_69 rfl ?_
            have hl4 := hl3.wr (v := 1) (hl3.i 7 (by decide) rfl) (i := 3) (by decide)
            refine z_iconst (q := 73) dX10_takeWord_72 rfl ?_
            exact z_iret rfl dX10_takeWord_73 ⟨hl4, u2 c1 c2 c3 c4 c5⟩
          · refine z_iconst (q := 65) dX10_takeWord_64 rfl ?_
            refine z_goto (t := 69) dX10_takeWord_65 (by decide) ?_
            refine z_pf (q := 72) (ki := 3) fX10_35 rfl (z_sv0 rfl) (hl3.i 7 (by decide) rfl) dX10_takeWord_69 rfl ?_
            have hl4 := hl3.wr (v := 4) (hl3.i 7 (by decide) rfl) (i := 3) (by decide)
            refine z_iconst (q := 73) dX10_takeWord_72 rfl ?_
            exact z_iret rfl dX10_takeWord_73 ⟨hl4, u3 c1 c2 c3 c4 c5⟩
        · refine z_iconst (q := 40) dX10_takeWord_39 rfl ?_
          exact z_iret rfl dX10_takeWord_40 ⟨hl0, u4 c1 c2 c3 c4⟩
      · refine z_aload_n (q := 21) 0 dX10_takeWord_20 rfl rfl ?_
        refine z_iconst (q := 22) dX10_takeWord_21 rfl ?_
        refine z_pf (q := 25) (ki := 3) fX10_35 rfl (z_sv0 rfl) (hl0.i 7 (by decide) rfl) dX10_takeWord_22 rfl ?_
        have hl1 := hl0.wr (v := 5) (hl0.i 7 (by decide) rfl) (i := 3) (by decide)
        refine z_iconst (q := 26) dX10_takeWord_25 rfl ?_
        exact z_iret rfl dX10_takeWord_26 ⟨hl1, u5 c1 c2 c3⟩
    · refine z_iconst (q := 13) dX10_takeWord_12 rfl ?_
      exact z_iret rfl dX10_takeWord_13 ⟨hl0, u6 c1 c2⟩
theorem b_X10_takeSign_0 {D : zD} {d : Nat} {G : zG} {h : zH} {Q : zO → zG → zH → Prop} {x1 : Int} (p1 : (h 7 3) = 0 → z_in x1) (p2 : (h 7 3) = 0 → ¬ (¬ x1 = 125) → z_in (h 7 8)) (p3 : ¬ (h 7 3) = 0 → ¬ (h 7 3) = 1 → ¬ (h 7 3) = 2 → ¬ (h 7 3) = 3 → (h 7 3) = 4 → z_in x1) (p4 : ¬ (h 7 3) = 0 → ¬ (h 7 3) = 1 → ¬ (h 7 3) = 2 → ¬ (h 7 3) = 3 → ¬ (h 7 3) = 4 → ¬ (h 7 3) = 5 → z_in (h 7 3)) (p5 : ¬ (h 7 3) = 0 → ¬ (h 7 3) = 1 → ¬ (h 7 3) = 2 → ¬ (h 7 3) = 3 → ¬ (h 7 3) = 4 → ¬ (h 7 3) = 5 → z_in x1)
    (u1 : (h 7 3) = 0 → ¬ x1 = 125 → Q (.inl (some (0, 1))) G h)
    (u2 : (h 7 3) = 0 → ¬ (¬ x1 = 125) → (h 7 8) ≤ 0 → Q (.inl (some (0, 1))) G h)
    (u3 : (h 7 3) = 0 → ¬ (¬ x1 = 125) → ¬ ((h 7 8) ≤ 0) → z_Ki D M_X10_closeRepeat d [(2, 7)] G h (fun r G' h' => z_Y D M_X10_takeSign d 61 [] [(0, r)] G' h' Q))
    (u4 : ¬ (h 7 3) = 0 → (h 7 3) = 1 → z_Ki D M_X10_takeColumn d [(2, 7), (0, x1)] G h (fun r G' h' => z_Y D M_X10_takeSign d 71 [] [(0, r)] G' h' Q))
    (u5 : ¬ (h 7 3) = 0 → ¬ (h 7 3) = 1 → (h 7 3) = 2 → z_Ki D M_X10_takeColumn d [(2, 7), (0, x1)] G h (fun r G' h' => z_Y D M_X10_takeSign d 71 [] [(0, r)] G' h' Q))
    (u6 : ¬ (h 7 3) = 0 → ¬ (h 7 3) = 1 → ¬ (h 7 3) = 2 → (h 7 3) = 3 → z_Ki D M_X10_takeMark d [(2, 7), (0, x1)] G h (fun r G' h' => z_Y D M_X10_takeSign d 77 [] [(0, r)] G' h' Q))
    (u7 : ¬ (h 7 3) = 0 → ¬ (h 7 3) = 1 → ¬ (h 7 3) = 2 → ¬ (h 7 3) = 3 → (h 7 3) = 4 → ¬ x1 = 59 → Q (.inl (some (0, 1))) G h)
    (u8 : ¬ (h 7 3) = 0 → ¬ (h 7 3) = 1 → ¬ (h 7 3) = 2 → ¬ (h 7 3) = 3 → (h 7 3) = 4 → ¬ (¬ x1 = 59) → z_Ki D M_X10_endStep d [(2, 7)] G h (fun r G' h' => z_Y D M_X10_takeSign d 88 [] [(0, r)] G' h' Q))
    (u9 : ¬ (h 7 3) = 0 → ¬ (h 7 3) = 1 → ¬ (h 7 3) = 2 → ¬ (h 7 3) = 3 → ¬ (h 7 3) = 4 → (h 7 3) = 5 → z_Ki D M_X10_takeTimes d [(2, 7), (0, x1)] G h (fun r G' h' => z_Y D M_X10_takeSign d 98 [] [(0, r)] G' h' Q))
    (u10 : ¬ (h 7 3) = 0 → ¬ (h 7 3) = 1 → ¬ (h 7 3) = 2 → ¬ (h 7 3) = 3 → ¬ (h 7 3) = 4 → ¬ (h 7 3) = 5 → ¬ x1 = 123 → Q (.inl (some (0, 1))) G h)
    (u11 : ¬ (h 7 3) = 0 → ¬ (h 7 3) = 1 → ¬ (h 7 3) = 2 → ¬ (h 7 3) = 3 → ¬ (h 7 3) = 4 → ¬ (h 7 3) = 5 → ¬ (¬ x1 = 123) → z_Ki D M_X10_openRepeat d [(2, 7)] G h (fun r G' h' => z_Y D M_X10_takeSign d 109 [] [(0, r)] G' h' Q)) :
    z_Y D M_X10_takeSign d 0 [(0, 2, 7), (1, 0, x1)] [] G h Q := by
  intro hl0
  refine z_aload_n (q := 1) 0 dX10_takeSign_0 rfl rfl ?_
  refine z_gf (q := 4) (ki := 3) (v := (0, (h 7 3))) fX10_35 rfl rfl (hl0.i 7 (by decide) rfl) dX10_takeSign_1 rfl ?_
  by_cases c1 : (h 7 3) = 0
  · refine z_tswIn (t := 44) 0 c1 ⟨by decide, by decide⟩ dX10_takeSign_4 (by decide) (by decide) rfl (by decide) ?_
    refine z_iload_n (q := 45) 1 dX10_takeSign_44 rfl rfl ?_
    refine z_bipush (q := 47) dX10_takeSign_45 rfl (by decide) ?_
    refine z_icmp_ne (q := 50) (t := 64) (p1 c1) ⟨by decide, by decide⟩ dX10_takeSign_47 (by decide) rfl (fun c2 => ?_) (fun c2 => ?_)
    · refine z_iconst (q := 65) dX10_takeSign_64 rfl ?_
      exact z_iret rfl dX10_takeSign_65 ⟨hl0, u1 c1 c2⟩
    · refine z_aload_n (q := 51) 0 dX10_takeSign_50 rfl rfl ?_
      refine z_gf (q := 54) (ki := 8) (v := (0, (h 7 8))) fX10_38 rfl rfl (hl0.i 7 (by decide) rfl) dX10_takeSign_51 rfl ?_
      refine z_if_le (q := 57) (t := 64) (p2 c1 c2) dX10_takeSign_54 (by decide) rfl (fun c3 => ?_) (fun c3 => ?_)
      · refine z_iconst (q := 65) dX10_takeSign_64 rfl ?_
        exact z_iret rfl dX10_takeSign_65 ⟨hl0, u2 c1 c2 c3⟩
      · refine z_aload_n (q := 58) 0 dX10_takeSign_57 rfl rfl ?_
        refine z_sub (L' := []) [] rfl ?_
        exact z_goV (q := 61) (av := []) (rest := []) cb8 (hl0.i 7 (by decide) rfl) z_toi hl0 (u3 c1 c2 c3) mo_X10_closeRepeat np_X10_closeRepeat k616 k618 k10 rfl (nle rfl) dX10_takeSign_58 rfl
  by_cases c4 : (h 7 3) = 1
  · refine z_tswIn (t := 66) 1 c4 ⟨by decide, by decide⟩ dX10_takeSign_4 (by decide) (by decide) rfl (by decide) ?_
    refine z_aload_n (q := 67) 0 dX10_takeSign_66 rfl rfl ?_
    refine z_iload_n (q := 68) 1 dX10_takeSign_67 rfl rfl ?_
    refine z_sub (L' := []) [] rfl ?_
    exact z_goV (q := 71) (av := [(0, x1)]) (rest := []) cb8 (hl0.i 7 (by decide) rfl) z_toi hl0 (u4 c1 c4) mo_X10_takeColumn np_X10_takeColumn k628 k630 k11 rfl (nle rfl) dX10_takeSign_68 rfl
  by_cases c5 : (h 7 3) = 2
  · refine z_tswIn (t := 66) 2 c5 ⟨by decide, by decide⟩ dX10_takeSign_4 (by decide) (by decide) rfl (by decide) ?_
    refine z_aload_n (q := 67) 0 dX10_takeSign_66 rfl rfl ?_
    refine z_iload_n (q := 68) 1 dX10_takeSign_67 rfl rfl ?_
    refine z_sub (L' := []) [] rfl ?_
    exact z_goV (q := 71) (av := [(0, x1)]) (rest := []) cb8 (hl0.i 7 (by decide) rfl) z_toi hl0 (u5 c1 c4 c5) mo_X10_takeColumn np_X10_takeColumn k628 k630 k11 rfl (nle rfl) dX10_takeSign_68 rfl
  by_cases c6 : (h 7 3) = 3
  · refine z_tswIn (t := 72) 3 c6 ⟨by decide, by decide⟩ dX10_takeSign_4 (by decide) (by decide) rfl (by decide) ?_
    refine z_aload_n (q := 73) 0 dX10_takeSign_72 rfl rfl ?_
    refine z_iload_n (q := 74) 1 dX10_takeSign_73 rfl rfl ?_
    refine z_sub (L' := []) [] rfl ?_
    exact z_goV (q := 77) (av := [(0, x1)]) (rest := []) cb8 (hl0.i 7 (by decide) rfl) z_toi hl0 (u6 c1 c4 c5 c6) mo_X10_takeMark np_X10_takeMark k637 k639 k13 rfl (nle rfl) dX10_takeSign_74 rfl
  by_cases c7 : (h 7 3) = 4
  · refine z_tswIn (t := 78) 4 c7 ⟨by decide, by decide⟩ dX10_takeSign_4 (by decide) (by decide) rfl (by decide) ?_
    refine z_iload_n (q := 79) 1 dX10_takeSign_78 rfl rfl ?_
    refine z_bipush (q := 81) dX10_takeSign_79 rfl (by decide) ?_
    refine z_icmp_ne (q := 84) (t := 91) (p3 c1 c4 c5 c6 c7) ⟨by decide, by decide⟩ dX10_takeSign_81 (by decide) rfl (fun c8 => ?_) (fun c8 => ?_)
    · refine z_iconst (q := 92) dX10_takeSign_91 rfl ?_
      exact z_iret rfl dX10_takeSign_92 ⟨hl0, u7 c1 c4 c5 c6 c7 c8⟩
    · refine z_aload_n (q := 85) 0 dX10_takeSign_84 rfl rfl ?_
      refine z_sub (L' := []) [] rfl ?_
      exact z_goV (q := 88) (av := []) (rest := []) cb8 (hl0.i 7 (by decide) rfl) z_toi hl0 (u8 c1 c4 c5 c6 c7 c8) mo_X10_endStep np_X10_endStep k642 k644 k14 rfl (nle rfl) dX10_takeSign_85 rfl
  by_cases c9 : (h 7 3) = 5
  · refine z_tswIn (t := 93) 5 c9 ⟨by decide, by decide⟩ dX10_takeSign_4 (by decide) (by decide) rfl (by decide) ?_
    refine z_aload_n (q := 94) 0 dX10_takeSign_93 rfl rfl ?_
    refine z_iload_n (q := 95) 1 dX10_takeSign_94 rfl rfl ?_
    refine z_sub (L' := []) [] rfl ?_
    exact z_goV (q := 98) (av := [(0, x1)]) (rest := []) cb8 (hl0.i 7 (by decide) rfl) z_toi hl0 (u9 c1 c4 c5 c6 c7 c9) mo_X10_takeTimes np_X10_takeTimes k649 k651 k15 rfl (nle rfl) dX10_takeSign_95 rfl
  refine z_tswOut (t := 99) (p4 c1 c4 c5 c6 c7 c9) dX10_takeSign_4 (by omega) (by decide) ?_
  refine z_iload_n (q := 100) 1 dX10_takeSign_99 rfl rfl ?_
  refine z_bipush (q := 102) dX10_takeSign_100 rfl (by decide) ?_
  refine z_icmp_ne (q := 105) (t := 112) (p5 c1 c4 c5 c6 c7 c9) ⟨by decide, by decide⟩ dX10_takeSign_102 (by decide) rfl (fun c10 => ?_) (fun c10 => ?_)
  · refine z_iconst (q := 113) dX10_takeSign_112 rfl ?_
    exact z_iret rfl dX10_takeSign_113 ⟨hl0, u10 c1 c4 c5 c6 c7 c9 c10⟩
  · refine z_aload_n (q := 106) 0 dX10_takeSign_105 rfl rfl ?_
    refine z_sub (L' := []) [] rfl ?_
    exact z_goV (q := 109) (av := []) (rest := []) cb8 (hl0.i 7 (by decide) rfl) z_toi hl0 (u11 c1 c4 c5 c6 c7 c9 c10) mo_X10_openRepeat np_X10_openRepeat k653 k655 k16 rfl (nle rfl) dX10_takeSign_106 rfl
theorem b_X10_takeSign_61 {D : zD} {d : Nat} {G : zG} {h : zH} {Q : zO → zG → zH → Prop} {s0 : Int}
    (u1 : Q (.inl (some (0, s0))) G h) :
    z_Y D M_X10_takeSign d 61 [] [(0, s0)] G h Q := by
  intro hl0
  refine z_goto (t := 65) dX10_takeSign_61 (by decide) ?_
  exact z_iret rfl dX10_takeSign_65 ⟨hl0, u1⟩
theorem b_X10_takeSign_71 {D : zD} {d : Nat} {G : zG} {h : zH} {Q : zO → zG → zH → Prop} {s0 : Int}
    (u1 : Q (.inl (some (0, s0))) G h) :
    z_Y D M_X10_takeSign d 71 [] [(0, s0)] G h Q := by
  intro hl0
  exact z_iret rfl dX10_takeSign_71 ⟨hl0, u1⟩
theorem b_X10_takeSign_77 {D : zD} {d : Nat} {G : zG} {h : zH} {Q : zO → zG → zH → Prop} {s0 : Int}
    (u1 : Q (.inl (some (0, s0))) G h) :
    z_Y D M_X10_takeSign d 77 [] [(0, s0)] G h Q := by
  intro hl0
  exact z_iret rfl dX10_takeSign_77 ⟨hl0, u1⟩
theorem b_X10_takeSign_88 {D : zD} {d : Nat} {G : zG} {h : zH} {Q : zO → zG → zH → Prop} {s0 : Int}
    (u1 : Q (.inl (some (0, s0))) G h) :
    z_Y D M_X10_takeSign d 88 [] [(0, s0)] G h Q := by
  intro hl0
  refine z_goto (t := 92) dX10_takeSign_88 (by decide) ?_
  exact z_iret rfl dX10_takeSign_92 ⟨hl0, u1⟩
theorem b_X10_takeSign_98 {D : zD} {d : Nat} {G : zG} {h : zH} {Q : zO → zG → zH → Prop} {s0 : Int}
    (u1 : Q (.inl (some (0, s0))) G h) :
    z_Y D M_X10_takeSign d 98 [] [(0, s0)] G h Q := by
  intro hl0
  exact z_iret rfl dX10_takeSign_98 ⟨hl0, u1⟩
theorem b_X10_takeSign_109 {D : zD} {d : Nat} {G : zG} {h : zH} {Q : zO → zG → zH → Prop} {s0 : Int}
    (u1 : Q (.inl (some (0, s0))) G h) :
    z_Y D M_X10_takeSign d 109 [] [(0, s0)] G h Q := by
  intro hl0
  refine z_goto (t := 113) dX10_takeSign_109 (by decide) ?_
  exact z_iret rfl dX10_takeSign_113 ⟨hl0, u1⟩
theorem b_X10_takeColumn_0 {D : zD} {d : Nat} {G : zG} {h : zH} {Q : zO → zG → zH → Prop} {x1 : Int} (hd : 2 ≤ d) (p1 : z_in x1) (p2 : 48 ≤ x1 ∧ x1 ≤ 57 → z_in (x1 - 48)) (p3 : 48 ≤ x1 ∧ x1 ≤ 57 → (x1 - 48) ≤ 5 → z_in (h 7 3))
    (u1 : 48 ≤ x1 ∧ x1 ≤ 57 → (x1 - 48) ≤ 5 → ¬ (h 7 3) = 2 → z_Ki D M_X10_dueBehindFirstN d [(2, 7)] G (z_wr h 7 5 (x1 - 48)) (fun r G' h' => z_Y D M_X10_takeColumn d 51 [] [(0, r), (2, 7)] G' h' Q))
    (u2 : 48 ≤ x1 ∧ x1 ≤ 57 → (x1 - 48) ≤ 5 → ¬ (¬ (h 7 3) = 2) → Q (.inl (some (0, 0))) G (z_wr (z_wr h 7 6 (x1 - 48)) 7 3 4))
    (u3 : 48 ≤ x1 ∧ x1 ≤ 57 → ¬ ((x1 - 48) ≤ 5) → Q (.inl (some (0, 2))) G h)
    (u4 : ¬ (48 ≤ x1 ∧ x1 ≤ 57) → Q (.inl (some (0, 1))) G h) :
    z_Y D M_X10_takeColumn d 0 [(0, 2, 7), (1, 0, x1)] [] G h Q := by
  intro hl0
  refine z_iload_n (q := 1) 1 dX10_takeColumn_0 rfl rfl ?_
  have e1 := a_X6_isDigit (D := D) (G := G) (h := h) (d := d - 1) (by omega) x1 p1
  refine z_goS (q := 4) (av := [(0, x1)]) (rest := []) (z_toi) hl0 (z_Ei.K e1 (by omega) ?_) mo_X6_isDigit np_X6_isDigit k632 k497 rfl (nle rfl) dX10_takeColumn_1 rfl
  by_cases c1 : 48 ≤ x1 ∧ x1 ≤ 57
  · rw [z_b1 c1]
    refine z_if_ne (q := 7) (t := 9) ⟨by decide, by decide⟩ dX10_takeColumn_4 (by decide) rfl (fun _ => ?_) (fun c => absurd c (by decide))
    refine z_iload_n (q := 10) 1 dX10_takeColumn_9 rfl rfl ?_
    refine z_bipush (q := 12) dX10_takeColumn_10 rfl (by decide) ?_
    refine z_isub (q := 13) dX10_takeColumn_12 rfl ?_
    refine z_istore_n (q := 14) (L' := [(0, 2, 7), (1, 0, x1), (2, 0, (x1 - 48))]) dX10_takeColumn_13 rfl (by decide) rfl ?_
    refine z_iload_n (q := 15) 2 dX10_takeColumn_14 rfl rfl ?_
    refine z_iconst (q := 16) dX10_takeColumn_15 rfl ?_
    refine z_icmp_le (q := 19) (t := 21) (p2 c1) ⟨by decide, by decide⟩ dX10_takeColumn_16 (by decide) rfl (fun c2 => ?_) (fun c2 => ?_)
    · refine z_aload_n (q := 22) 0 dX10_takeColumn_21 rfl rfl ?_
      refine z_gf (q := 25) (ki := 3) (v := (0, (h 7 3))) fX10_35 rfl rfl (hl0.i 7 (by decide) rfl) dX10_takeColumn_22 rfl ?_
      refine z_iconst (q := 26) dX10_takeColumn_25 rfl ?_
      refine z_icmp_ne (q := 29) (t := 41) (p3 c1 c2) ⟨by decide, by decide⟩ dX10_takeColumn_26 (by decide) rfl (fun c3 => ?_) (fun c3 => ?_)
      · refine z_aload_n (q := 42) 0 dX10_takeColumn_41 rfl rfl ?_
        refine z_iload_n (q := 43) 2 dX10_takeColumn_42 rfl rfl ?_
        refine z_pf (q := 46) (ki := 5) fX10_116 rfl (z_sv0 rfl) (hl0.i 7 (by decide) rfl) dX10_takeColumn_43 rfl ?_
        have hl1 := hl0.wr (v := (x1 - 48)) (hl0.i 7 (by decide) rfl) (i := 5) (by decide)
        refine z_aload_n (q := 47) 0 dX10_takeColumn_46 rfl rfl ?_
        refine z_aload_n (q := 48) 0 dX10_takeColumn_47 rfl rfl ?_
        refine z_sub (L' := []) [] rfl ?_
        exact z_goV (q := 51) (av := []) (rest := [(2, 7)]) cb8 (hl1.i 7 (by decide) rfl) z_toi hl1 (u1 c1 c2 c3) mo_X10_dueBehindFirstN np_X10_dueBehindFirstN k633 k635 k12 rfl (nle rfl) dX10_takeColumn_48 rfl
      · refine z_aload_n (q := 30) 0 dX10_takeColumn_29 rfl rfl ?_
        refine z_iload_n (q := 31) 2 dX10_takeColumn_30 rfl rfl ?_
        refine z_pf (q := 34) (ki := 6) fX10_119 rfl (z_sv0 rfl) (hl0.i 7 (by decide) rfl) dX10_takeColumn_31 rfl ?_
        have hl1 := hl0.wr (v := (x1 - 48)) (hl0.i 7 (by decide) rfl) (i := 6) (by decide)
        refine z_aload_n (q := 35) 0 dX10_takeColumn_34 rfl rfl ?_
        refine z_iconst (q := 36) dX10_takeColumn_35 rfl ?_
        refine z_pf (q := 39) (ki := 3) fX10_35 rfl (z_sv0 rfl) (hl1.i 7 (by decide) rfl) dX10_takeColumn_36 rfl ?_
        have hl2 := hl1.wr (v := 4) (hl1.i 7 (by decide) rfl) (i := 3) (by decide)
        refine z_iconst (q := 40) dX10_takeColumn_39 rfl ?_
        exact z_iret rfl dX10_takeColumn_40 ⟨hl2, u2 c1 c2 c3⟩
    · refine z_iconst (q := 20) dX10_takeColumn_19 rfl ?_
      exact z_iret rfl dX10_takeColumn_20 ⟨hl0, u3 c1 c2⟩
  · rw [z_b0 c1]
    refine z_if_ne (q := 7) (t := 9) ⟨by decide, by decide⟩ dX10_takeColumn_4 (by decide) rfl (fun c => absurd c (by decide)) (fun _ => ?_)
    refine z_iconst (q := 8) dX10_takeColumn_7 rfl ?_
    exact z_iret rfl dX10_takeColumn_8 ⟨hl0, u4 c1⟩
theorem b_X10_takeColumn_51 {D : zD} {d : Nat} {G : zG} {h : zH} {Q : zO → zG → zH → Prop} {s1 : Int}
    (u1 : Q (.inl (some (0, 0))) G (z_wr h 7 3 s1)) :
    z_Y D M_X10_takeColumn d 51 [] [(0, s1), (2, 7)] G h Q := by
  intro hl0
  refine z_pf (q := 54) (ki := 3) fX10_35 rfl (z_sv0 rfl) (hl0.i 7 (by decide) rfl) dX10_takeColumn_51 rfl ?_
  have hl1 := hl0.wr (v := s1) (hl0.i 7 (by decide) rfl) (i := 3) (by decide)
  refine z_iconst (q := 55) dX10_takeColumn_54 rfl ?_
  exact z_iret rfl dX10_takeColumn_55 ⟨hl1, u1⟩
theorem b_X10_dueBehindFirstN_0 {D : zD} {d : Nat} {G : zG} {h : zH} {Q : zO → zG → zH → Prop} (hd : 2 ≤ d) (p1 : z_in (h 7 4)) (p2 : z_in (zfm (h 7 4)))
    (u1 : (zfm (h 7 4)) = 2 → Q (.inl (some (0, 3))) G h)
    (u2 : ¬ (zfm (h 7 4)) = 2 → (zfm (h 7 4)) = 3 → Q (.inl (some (0, 2))) G h)
    (u3 : ¬ (zfm (h 7 4)) = 2 → ¬ (zfm (h 7 4)) = 3 → Q (.inl (some (0, 4))) G h) :
    z_Y D M_X10_dueBehindFirstN d 0 [(0, 2, 7)] [] G h Q := by
  intro hl0
  refine z_aload_n (q := 1) 0 dX10_dueBehindFirstN_0 rfl rfl ?_
  refine z_gf (q := 4) (ki := 4) (v := (0, (h 7 4))) fX10_113 rfl rfl (hl0.i 7 (by decide) rfl) dX10_dueBehindFirstN_1 rfl ?_
  have e1 := a_X3_formOf1 (D := D) (G := G) (h := h) (d := d - 1) (by omega) (h 7 4) p1
  refine z_goS (q := 7) (av := [(0, (h 7 4))]) (rest := []) (z_toi) hl0 (z_Ei.K e1 (by omega) ?_) mo_X3_formOf np_X3_formOf k607 k608 rfl (nle rfl) dX10_dueBehindFirstN_4 rfl
  by_cases c1 : (zfm (h 7 4)) = 2
  · refine z_lsw (t := 32) (off := 25) p2 dX10_dueBehindFirstN_7 (by decide) (by simp [Op.lookupswitch.offset, c1]) (by decide) ?_
    refine z_iconst (q := 33) dX10_dueBehindFirstN_32 rfl ?_
    exact z_iret rfl dX10_dueBehindFirstN_33 ⟨hl0, u1 c1⟩
  by_cases c2 : (zfm (h 7 4)) = 3
  · refine z_lsw (t := 34) (off := 27) p2 dX10_dueBehindFirstN_7 (by decide) (by simp [Op.lookupswitch.offset, c2]) (by decide) ?_
    refine z_iconst (q := 35) dX10_dueBehindFirstN_34 rfl ?_
    exact z_iret rfl dX10_dueBehindFirstN_35 ⟨hl0, u2 c1 c2⟩
  refine z_lsw (t := 36) (off := 29) p2 dX10_dueBehindFirstN_7 (by decide) (by simp [Op.lookupswitch.offset, nesy c1, nesy c2]) (by decide) ?_
  refine z_iconst (q := 37) dX10_dueBehindFirstN_36 rfl ?_
  exact z_iret rfl dX10_dueBehindFirstN_37 ⟨hl0, u3 c1 c2⟩
theorem b_X10_takeMark_0 {D : zD} {d : Nat} {G : zG} {h : zH} {Q : zO → zG → zH → Prop} {x1 : Int} (hd : 2 ≤ d) (p1 : z_in x1) (p2 : z_in (zmk x1))
    (u1 : ¬ (zmk x1) = (-1) → Q (.inl (some (0, 0))) G (z_wr (z_wr h 7 6 (zmk x1)) 7 3 4))
    (u2 : ¬ (¬ (zmk x1) = (-1)) → Q (.inl (some (0, 1))) G h) :
    z_Y D M_X10_takeMark d 0 [(0, 2, 7), (1, 0, x1)] [] G h Q := by
  intro hl0
  refine z_iload_n (q := 1) 1 dX10_takeMark_0 rfl rfl ?_
  have e1 := a_X6_markOf (D := D) (G := G) (h := h) (d := d - 1) (by omega) x1 p1
  refine z_goS (q := 4) (av := [(0, x1)]) (rest := []) (z_toi) hl0 (z_Ei.K e1 (by omega) ?_) mo_X6_markOf np_X6_markOf k641 k500 rfl (nle rfl) dX10_takeMark_1 rfl
  refine z_istore_n (q := 5) (L' := [(0, 2, 7), (1, 0, x1), (2, 0, (zmk x1))]) dX10_takeMark_4 rfl (by decide) rfl ?_
  refine z_iload_n (q := 6) 2 dX10_takeMark_5 rfl rfl ?_
  refine z_iconst (q := 7) dX10_takeMark_6 rfl ?_
  refine z_icmp_ne (q := 10) (t := 12) p2 ⟨by decide, by decide⟩ dX10_takeMark_7 (by decide) rfl (fun c1 => ?_) (fun c1 => ?_)
  · refine z_aload_n (q := 13) 0 dX10_takeMark_12 rfl rfl ?_
    refine z_iload_n (q := 14) 2 dX10_takeMark_13 rfl rfl ?_
    refine z_pf (q := 17) (ki := 6) fX10_119 rfl (z_sv0 rfl) (hl0.i 7 (by decide) rfl) dX10_takeMark_14 rfl ?_
    have hl1 := hl0.wr (v := (zmk x1)) (hl0.i 7 (by decide) rfl) (i := 6) (by decide)
    refine z_aload_n (q := 18) 0 dX10_takeMark_17 rfl rfl ?_
    refine z_iconst (q := 19) dX10_takeMark_18 rfl ?_
    refine z_pf (q := 22) (ki := 3) fX10_35 rfl (z_sv0 rfl) (hl1.i 7 (by decide) rfl) dX10_takeMark_19 rfl ?_
    have hl2 := hl1.wr (v := 4) (hl1.i 7 (by decide) rfl) (i := 3) (by decide)
    refine z_iconst (q := 23) dX10_takeMark_22 rfl ?_
    exact z_iret rfl dX10_takeMark_23 ⟨hl2, u1 c1⟩
  · refine z_iconst (q := 11) dX10_takeMark_10 rfl ?_
    exact z_iret rfl dX10_takeMark_11 ⟨hl0, u2 c1⟩
theorem b_X10_endStep_0 {D : zD} {d : Nat} {G : zG} {h : zH} {Q : zO → zG → zH → Prop} (hd : 2 ≤ d) (p1 : 0 ≤ (h 7 4) ∧ (h 7 4) < 16) (p2 : 0 ≤ (h 7 5) ∧ (h 7 5) < 8) (p3 : 0 ≤ (h 7 6) ∧ (h 7 6) < 8)
    (u1 : z_Ki D M_X9_add d [(2, 8), (0, (zco (h 7 4) (h 7 5) (h 7 6)))] G h (fun r G' h' => z_Y D M_X10_endStep d 22 [(0, 2, 7)] [(0, r)] G' h' Q)) :
    z_Y D M_X10_endStep d 0 [(0, 2, 7)] [] G h Q := by
  intro hl0
  refine z_aload_n (q := 1) 0 dX10_endStep_0 rfl rfl ?_
  refine z_gf (q := 4) (ki := 0) (v := (2, 8)) fX10_12 rfl (z_ldr rfl (hl0.ref 7 rfl)) (hl0.i 7 (by decide) rfl) dX10_endStep_1 rfl ?_
  refine z_aload_n (q := 5) 0 dX10_endStep_4 rfl rfl ?_
  refine z_gf (q := 8) (ki := 4) (v := (0, (h 7 4))) fX10_113 rfl rfl (hl0.i 7 (by decide) rfl) dX10_endStep_5 rfl ?_
  refine z_aload_n (q := 9) 0 dX10_endStep_8 rfl rfl ?_
  refine z_gf (q := 12) (ki := 5) (v := (0, (h 7 5))) fX10_116 rfl rfl (hl0.i 7 (by decide) rfl) dX10_endStep_9 rfl ?_
  refine z_aload_n (q := 13) 0 dX10_endStep_12 rfl rfl ?_
  refine z_gf (q := 16) (ki := 6) (v := (0, (h 7 6))) fX10_119 rfl rfl (hl0.i 7 (by decide) rfl) dX10_endStep_13 rfl ?_
  have e1 := a_X0_of (D := D) (G := G) (h := h) (d := d - 1) (by omega) (h 7 4) (h 7 5) (h 7 6) p1 p2 p3
  refine z_goS (q := 19) (av := [(0, (h 7 4)), (0, (h 7 5)), (0, (h 7 6))]) (rest := [(2, 8)]) (z_toi) hl0 (z_Ei.K e1 (by omega) ?_) mo_X0_of np_X0_of k646 k647 rfl (nle rfl) dX10_endStep_16 rfl
  exact z_goV (q := 22) (av := [(0, (zco (h 7 4) (h 7 5) (h 7 6)))]) (rest := []) cb7 (hl0.i 8 (by decide) rfl) z_toi hl0 (u1) mo_X9_add np_X9_add k624 k625 k626 rfl (nle rfl) dX10_endStep_19 rfl
theorem b_X10_endStep_22 {D : zD} {d : Nat} {G : zG} {h : zH} {Q : zO → zG → zH → Prop} {s0 : Int}
    (u1 : Q (.inl (some (0, 0))) G (z_wr h 7 3 0)) :
    z_Y D M_X10_endStep d 22 [(0, 2, 7)] [(0, s0)] G h Q := by
  intro hl0
  refine z_pop (q := 23) (by decide) dX10_endStep_22 rfl ?_
  refine z_aload_n (q := 24) 0 dX10_endStep_23 rfl rfl ?_
  refine z_iconst (q := 25) dX10_endStep_24 rfl ?_
  refine z_pf (q := 28) (ki := 3) fX10_35 rfl (z_sv0 rfl) (hl0.i 7 (by decide) rfl) dX10_endStep_25 rfl ?_
  have hl1 := hl0.wr (v := 0) (hl0.i 7 (by decide) rfl) (i := 3) (by decide)
  refine z_iconst (q := 29) dX10_endStep_28 rfl ?_
  exact z_iret rfl dX10_endStep_29 ⟨hl1, u1⟩
theorem b_X10_takeTimes_0 {D : zD} {d : Nat} {G : zG} {h : zH} {Q : zO → zG → zH → Prop} {x1 : Int} (hd : 2 ≤ d) (p1 : z_in x1) (p2 : 48 ≤ x1 ∧ x1 ≤ 57 → z_in (x1 - 48))
    (u1 : 48 ≤ x1 ∧ x1 ≤ 57 → (x1 - 48) < 1 → Q (.inl (some (0, 2))) G (z_wr h 7 7 (x1 - 48)))
    (u2 : 48 ≤ x1 ∧ x1 ≤ 57 → ¬ ((x1 - 48) < 1) → (x1 - 48) ≤ 6 → Q (.inl (some (0, 0))) G (z_wr (z_wr h 7 7 (x1 - 48)) 7 3 6))
    (u3 : 48 ≤ x1 ∧ x1 ≤ 57 → ¬ ((x1 - 48) < 1) → ¬ ((x1 - 48) ≤ 6) → Q (.inl (some (0, 2))) G (z_wr h 7 7 (x1 - 48)))
    (u4 : ¬ (48 ≤ x1 ∧ x1 ≤ 57) → Q (.inl (some (0, 1))) G h) :
    z_Y D M_X10_takeTimes d 0 [(0, 2, 7), (1, 0, x1)] [] G h Q := by
  intro hl0
  refine z_iload_n (q := 1) 1 dX10_takeTimes_0 rfl rfl ?_
  have e1 := a_X6_isDigit (D := D) (G := G) (h := h) (d := d - 1) (by omega) x1 p1
  refine z_goS (q := 4) (av := [(0, x1)]) (rest := []) (z_toi) hl0 (z_Ei.K e1 (by omega) ?_) mo_X6_isDigit np_X6_isDigit k632 k497 rfl (nle rfl) dX10_takeTimes_1 rfl
  by_cases c1 : 48 ≤ x1 ∧ x1 ≤ 57
  · rw [z_b1 c1]
    refine z_if_ne (q := 7) (t := 9) ⟨by decide, by decide⟩ dX10_takeTimes_4 (by decide) rfl (fun _ => ?_) (fun c => absurd c (by decide))
    refine z_aload_n (q := 10) 0 dX10_takeTimes_9 rfl rfl ?_
    refine z_iload_n (q := 11) 1 dX10_takeTimes_10 rfl rfl ?_
    refine z_bipush (q := 13) dX10_takeTimes_11 rfl (by decide) ?_
    refine z_isub (q := 14) dX10_takeTimes_13 rfl ?_
    refine z_pf (q := 17) (ki := 7) fX10_161 rfl (z_sv0 rfl) (hl0.i 7 (by decide) rfl) dX10_takeTimes_14 rfl ?_
    have hl1 := hl0.wr (v := (x1 - 48)) (hl0.i 7 (by decide) rfl) (i := 7) (by decide)
    refine z_aload_n (q := 18) 0 dX10_takeTimes_17 rfl rfl ?_
    refine z_gf (q := 21) (ki := 7) (v := (0, (x1 - 48))) fX10_161 rfl (z_ldi rfl w_s) (hl1.i 7 (by decide) rfl) dX10_takeTimes_18 rfl ?_
    refine z_iconst (q := 22) dX10_takeTimes_21 rfl ?_
    refine z_icmp_lt (q := 25) (t := 34) (p2 c1) ⟨by decide, by decide⟩ dX10_takeTimes_22 (by decide) rfl (fun c2 => ?_) (fun c2 => ?_)
    · refine z_iconst (q := 35) dX10_takeTimes_34 rfl ?_
      exact z_iret rfl dX10_takeTimes_35 ⟨hl1, u1 c1 c2⟩
    · refine z_aload_n (q := 26) 0 dX10_takeTimes_25 rfl rfl ?_
      refine z_gf (q := 29) (ki := 7) (v := (0, (x1 - 48))) fX10_161 rfl (z_ldi rfl w_s) (hl1.i 7 (by decide) rfl) dX10_takeTimes_26 rfl ?_
      refine z_bipush (q := 31) dX10_takeTimes_29 rfl (by decide) ?_
      refine z_icmp_le (q := 34) (t := 36) (p2 c1) ⟨by decide, by decide⟩ dX10_takeTimes_31 (by decide) rfl (fun c3 => ?_) (fun c3 => ?_)
      · refine z_aload_n (q := 37) 0 dX10_takeTimes_36 rfl rfl ?_
        refine z_bipush (q := 39) dX10_takeTimes_37 rfl (by decide) ?_
        refine z_pf (q := 42) (ki := 3) fX10_35 rfl (z_sv0 rfl) (hl1.i 7 (by decide) rfl) dX10_takeTimes_39 rfl ?_
        have hl2 := hl1.wr (v := 6) (hl1.i 7 (by decide) rfl) (i := 3) (by decide)
        refine z_iconst (q := 43) dX10_takeTimes_42 rfl ?_
        exact z_iret rfl dX10_takeTimes_43 ⟨hl2, u2 c1 c2 c3⟩
      · refine z_iconst (q := 35) dX10_takeTimes_34 rfl ?_
        exact z_iret rfl dX10_takeTimes_35 ⟨hl1, u3 c1 c2 c3⟩
  · rw [z_b0 c1]
    refine z_if_ne (q := 7) (t := 9) ⟨by decide, by decide⟩ dX10_takeTimes_4 (by decide) rfl (fun c => absurd c (by decide)) (fun _ => ?_)
    refine z_iconst (q := 8) dX10_takeTimes_7 rfl ?_
    exact z_iret rfl dX10_takeTimes_8 ⟨hl0, u4 c1⟩
theorem b_X10_openRepeat_0 {D : zD} {d : Nat} {G : zG} {h : zH} {Q : zO → zG → zH → Prop} (p1 : z_in (h 7 8)) (p2 : ¬ (h 7 8) = 3 → 0 ≤ (h 7 8)) (p3 : ¬ (h 7 8) = 3 → (h 7 8) < 3)
    (u1 : ¬ (h 7 8) = 3 → Q (.inl (some (0, 0))) G (z_wr (z_wr (z_wr (z_wr h 10 (h 7 8) (h 8 1)) 11 (h 7 8) (h 7 7)) 7 8 ((h 7 8) + 1)) 7 3 0))
    (u2 : ¬ (¬ (h 7 8) = 3) → Q (.inl (some (0, 3))) G h) :
    z_Y D M_X10_openRepeat d 0 [(0, 2, 7)] [] G h Q := by
  intro hl0
  refine z_aload_n (q := 1) 0 dX10_openRepeat_0 rfl rfl ?_
  refine z_gf (q := 4) (ki := 8) (v := (0, (h 7 8))) fX10_38 rfl rfl (hl0.i 7 (by decide) rfl) dX10_openRepeat_1 rfl ?_
  refine z_iconst (q := 5) dX10_openRepeat_4 rfl ?_
  refine z_icmp_ne (q := 8) (t := 10) p1 ⟨by decide, by decide⟩ dX10_openRepeat_5 (by decide) rfl (fun c1 => ?_) (fun c1 => ?_)
  · refine z_aload_n (q := 11) 0 dX10_openRepeat_10 rfl rfl ?_
    refine z_gf (q := 14) (ki := 9) (v := (2, 10)) fX10_25 rfl (z_ldr rfl (hl0.ref 8 rfl)) (hl0.i 7 (by decide) rfl) dX10_openRepeat_11 rfl ?_
    refine z_aload_n (q := 15) 0 dX10_openRepeat_14 rfl rfl ?_
    refine z_gf (q := 18) (ki := 8) (v := (0, (h 7 8))) fX10_38 rfl rfl (hl0.i 7 (by decide) rfl) dX10_openRepeat_15 rfl ?_
    refine z_aload_n (q := 19) 0 dX10_openRepeat_18 rfl rfl ?_
    refine z_gf (q := 22) (ki := 0) (v := (2, 8)) fX10_12 rfl (z_ldr rfl (hl0.ref 7 rfl)) (hl0.i 7 (by decide) rfl) dX10_openRepeat_19 rfl ?_
    refine z_gf (q := 25) (ki := 1) (v := (0, (h 8 1))) fX10_111 rfl rfl (hl0.i 8 (by decide) rfl) dX10_openRepeat_22 rfl ?_
    refine z_isn (q := 26) (hl0.i 10 (by decide) rfl) (hl0.n 10 (by decide) rfl) (p2 c1) (p3 c1) dX10_openRepeat_25 rfl ?_
    have hl1 := hl0.wr (v := (h 8 1)) (hl0.i 10 (by decide) rfl) (i := (h 7 8)) rfl
    refine z_aload_n (q := 27) 0 dX10_openRepeat_26 rfl rfl ?_
    refine z_gf (q := 30) (ki := 10) (v := (2, 11)) fX10_29 rfl (z_ldr rfl (hl1.ref 9 rfl)) (hl1.i 7 (by decide) rfl) dX10_openRepeat_27 rfl ?_
    refine z_aload_n (q := 31) 0 dX10_openRepeat_30 rfl rfl ?_
    refine z_gf (q := 34) (ki := 8) (v := (0, (h 7 8))) fX10_38 rfl (z_ldi rfl (w_na (by decide))) (hl1.i 7 (by decide) rfl) dX10_openRepeat_31 rfl ?_
    refine z_aload_n (q := 35) 0 dX10_openRepeat_34 rfl rfl ?_
    refine z_gf (q := 38) (ki := 7) (v := (0, (h 7 7))) fX10_161 rfl (z_ldi rfl (w_na (by decide))) (hl1.i 7 (by decide) rfl) dX10_openRepeat_35 rfl ?_
    refine z_isn (q := 39) (hl1.i 11 (by decide) rfl) (hl1.n 11 (by decide) rfl) (p2 c1) (p3 c1) dX10_openRepeat_38 rfl ?_
    have hl2 := hl1.wr (v := (h 7 7)) (hl1.i 11 (by decide) rfl) (i := (h 7 8)) rfl
    refine z_aload_n (q := 40) 0 dX10_openRepeat_39 rfl rfl ?_
    refine z_dup (q := 41) (by decide) dX10_openRepeat_40 rfl ?_
    refine z_gf (q := 44) (ki := 8) (v := (0, (h 7 8))) fX10_38 rfl (z_ldi rfl ((w_na (by decide)).trans (w_na (by decide)))) (hl2.i 7 (by decide) rfl) dX10_openRepeat_41 rfl ?_
    refine z_iconst (q := 45) dX10_openRepeat_44 rfl ?_
    refine z_iadd (q := 46) dX10_openRepeat_45 rfl ?_
    refine z_pf (q := 49) (ki := 8) fX10_38 rfl (z_sv0 rfl) (hl2.i 7 (by decide) rfl) dX10_openRepeat_46 rfl ?_
    have hl3 := hl2.wr (v := ((h 7 8) + 1)) (hl2.i 7 (by decide) rfl) (i := 8) (by decide)
    refine z_aload_n (q := 50) 0 dX10_openRepeat_49 rfl rfl ?_
    refine z_iconst (q := 51) dX10_openRepeat_50 rfl ?_
    refine z_pf (q := 54) (ki := 3) fX10_35 rfl (z_sv0 rfl) (hl3.i 7 (by decide) rfl) dX10_openRepeat_51 rfl ?_
    have hl4 := hl3.wr (v := 0) (hl3.i 7 (by decide) rfl) (i := 3) (by decide)
    refine z_iconst (q := 55) dX10_openRepeat_54 rfl ?_
    exact z_iret rfl dX10_openRepeat_55 ⟨hl4, u1 c1⟩
  · refine z_iconst (q := 9) dX10_openRepeat_8 rfl ?_
    exact z_iret rfl dX10_openRepeat_9 ⟨hl0, u2 c1⟩
theorem b_X10_closeRepeat_0 {D : zD} {d : Nat} {G : zG} {h : zH} {Q : zO → zG → zH → Prop} (p1 : 0 ≤ ((h 7 8) - 1)) (p2 : ((h 7 8) - 1) < 3) (p3 : z_in ((h 10 ((h 7 8) - 1)) + (((h 8 1) - (h 10 ((h 7 8) - 1))) * (h 11 ((h 7 8) - 1)))))
    (u1 : ((h 10 ((h 7 8) - 1)) + (((h 8 1) - (h 10 ((h 7 8) - 1))) * (h 11 ((h 7 8) - 1)))) ≤ 12 → z_Y D M_X10_closeRepeat d 52 [(0, 2, 7), (1, 0, (h 10 ((h 7 8) - 1))), (2, 0, ((h 8 1) - (h 10 ((h 7 8) - 1)))), (3, 0, ((h 8 1) - (h 10 ((h 7 8) - 1))))] [] G (z_wr h 7 8 ((h 7 8) - 1)) Q)
    (u2 : ¬ (((h 10 ((h 7 8) - 1)) + (((h 8 1) - (h 10 ((h 7 8) - 1))) * (h 11 ((h 7 8) - 1)))) ≤ 12) → Q (.inl (some (0, 3))) G (z_wr h 7 8 ((h 7 8) - 1))) :
    z_Y D M_X10_closeRepeat d 0 [(0, 2, 7)] [] G h Q := by
  intro hl0
  refine z_aload_n (q := 1) 0 dX10_closeRepeat_0 rfl rfl ?_
  refine z_dup (q := 2) (by decide) dX10_closeRepeat_1 rfl ?_
  refine z_gf (q := 5) (ki := 8) (v := (0, (h 7 8))) fX10_38 rfl rfl (hl0.i 7 (by decide) rfl) dX10_closeRepeat_2 rfl ?_
  refine z_iconst (q := 6) dX10_closeRepeat_5 rfl ?_
  refine z_isub (q := 7) dX10_closeRepeat_6 rfl ?_
  refine z_pf (q := 10) (ki := 8) fX10_38 rfl (z_sv0 rfl) (hl0.i 7 (by decide) rfl) dX10_closeRepeat_7 rfl ?_
  have hl1 := hl0.wr (v := ((h 7 8) - 1)) (hl0.i 7 (by decide) rfl) (i := 8) (by decide)
  refine z_aload_n (q := 11) 0 dX10_closeRepeat_10 rfl rfl ?_
  refine z_gf (q := 14) (ki := 9) (v := (2, 10)) fX10_25 rfl (z_ldr rfl (hl1.ref 8 rfl)) (hl1.i 7 (by decide) rfl) dX10_closeRepeat_11 rfl ?_
  refine z_aload_n (q := 15) 0 dX10_closeRepeat_14 rfl rfl ?_
  refine z_gf (q := 18) (ki := 8) (v := (0, ((h 7 8) - 1))) fX10_38 rfl (z_ldi rfl w_s) (hl1.i 7 (by decide) rfl) dX10_closeRepeat_15 rfl ?_
  refine z_iale (q := 19) (v := (h 10 ((h 7 8) - 1))) (hl1.a 10 (by decide) rfl) p1 p2 (w_na (by decide)) dX10_closeRepeat_18 rfl ?_
  refine z_istore_n (q := 20) (L' := [(0, 2, 7), (1, 0, (h 10 ((h 7 8) - 1)))]) dX10_closeRepeat_19 rfl (by decide) rfl ?_
  refine z_aload_n (q := 21) 0 dX10_closeRepeat_20 rfl rfl ?_
  refine z_gf (q := 24) (ki := 0) (v := (2, 8)) fX10_12 rfl (z_ldr rfl (hl1.ref 7 rfl)) (hl1.i 7 (by decide) rfl) dX10_closeRepeat_21 rfl ?_
  refine z_gf (q := 27) (ki := 1) (v := (0, (h 8 1))) fX10_111 rfl (z_ldi rfl (w_nj (by decide))) (hl1.i 8 (by decide) rfl) dX10_closeRepeat_24 rfl ?_
  refine z_iload_n (q := 28) 1 dX10_closeRepeat_27 rfl rfl ?_
  refine z_isub (q := 29) dX10_closeRepeat_28 rfl ?_
  refine z_istore_n (q := 30) (L' := [(0, 2, 7), (1, 0, (h 10 ((h 7 8) - 1))), (2, 0, ((h 8 1) - (h 10 ((h 7 8) - 1))))]) dX10_closeRepeat_29 rfl (by decide) rfl ?_
  refine z_iload_n (q := 31) 1 dX10_closeRepeat_30 rfl rfl ?_
  refine z_iload_n (q := 32) 2 dX10_closeRepeat_31 rfl rfl ?_
  refine z_aload_n (q := 33) 0 dX10_closeRepeat_32 rfl rfl ?_
  refine z_gf (q := 36) (ki := 10) (v := (2, 11)) fX10_29 rfl (z_ldr rfl (hl1.ref 9 rfl)) (hl1.i 7 (by decide) rfl) dX10_closeRepeat_33 rfl ?_
  refine z_aload_n (q := 37) 0 dX10_closeRepeat_36 rfl rfl ?_
  refine z_gf (q := 40) (ki := 8) (v := (0, ((h 7 8) - 1))) fX10_38 rfl (z_ldi rfl w_s) (hl1.i 7 (by decide) rfl) dX10_closeRepeat_37 rfl ?_
  refine z_iale (q := 41) (v := (h 11 ((h 7 8) - 1))) (hl1.a 11 (by decide) rfl) p1 p2 (w_na (by decide)) dX10_closeRepeat_40 rfl ?_
  refine z_imul (q := 42) dX10_closeRepeat_41 rfl ?_
  refine z_iadd (q := 43) dX10_closeRepeat_42 rfl ?_
  refine z_bipush (q := 45) dX10_closeRepeat_43 rfl (by decide) ?_
  refine z_icmp_le (q := 48) (t := 50) p3 ⟨by decide, by decide⟩ dX10_closeRepeat_45 (by decide) rfl (fun c1 => ?_) (fun c1 => ?_)
  · refine z_iload_n (q := 51) 2 dX10_closeRepeat_50 rfl rfl ?_
    refine z_istore_n (q := 52) (L' := [(0, 2, 7), (1, 0, (h 10 ((h 7 8) - 1))), (2, 0, ((h 8 1) - (h 10 ((h 7 8) - 1)))), (3, 0, ((h 8 1) - (h 10 ((h 7 8) - 1))))]) dX10_closeRepeat_51 rfl (by decide) rfl ?_
    exact u1 c1 hl1
  · refine z_iconst (q := 49) dX10_closeRepeat_48 rfl ?_
    exact z_iret rfl dX10_closeRepeat_49 ⟨hl1, u2 c1⟩
theorem b_X10_closeRepeat_52 {D : zD} {d : Nat} {G : zG} {h : zH} {Q : zO → zG → zH → Prop} {x1 x2 x3 : Int} (p1 : 0 ≤ (h 7 8)) (p2 : (h 7 8) < 3) (p3 : z_in x3) (p4 : z_in (x2 * (h 11 (h 7 8))))
    (u1 : (x2 * (h 11 (h 7 8))) ≤ x3 → Q (.inl (some (0, 0))) G h)
    (u2 : ¬ ((x2 * (h 11 (h 7 8))) ≤ x3) → z_Ki D M_X9_codeAt d [(2, 8), (0, ((x1 + x3) - x2))] G h (fun r G' h' => z_Y D M_X10_closeRepeat d 83 [(0, 2, 7), (1, 0, x1), (2, 0, x2), (3, 0, x3)] [(0, r), (2, 8)] G' h' Q)) :
    z_Y D M_X10_closeRepeat d 52 [(0, 2, 7), (1, 0, x1), (2, 0, x2), (3, 0, x3)] [] G h Q := by
  intro hl0
  refine z_iload_n (q := 53) 3 dX10_closeRepeat_52 rfl rfl ?_
  refine z_iload_n (q := 54) 2 dX10_closeRepeat_53 rfl rfl ?_
  refine z_aload_n (q := 55) 0 dX10_closeRepeat_54 rfl rfl ?_
  refine z_gf (q := 58) (ki := 10) (v := (2, 11)) fX10_29 rfl (z_ldr rfl (hl0.ref 9 rfl)) (hl0.i 7 (by decide) rfl) dX10_closeRepeat_55 rfl ?_
  refine z_aload_n (q := 59) 0 dX10_closeRepeat_58 rfl rfl ?_
  refine z_gf (q := 62) (ki := 8) (v := (0, (h 7 8))) fX10_38 rfl rfl (hl0.i 7 (by decide) rfl) dX10_closeRepeat_59 rfl ?_
  refine z_iale (q := 63) (v := (h 11 (h 7 8))) (hl0.a 11 (by decide) rfl) p1 p2 rfl dX10_closeRepeat_62 rfl ?_
  refine z_imul (q := 64) dX10_closeRepeat_63 rfl ?_
  refine z_icmp_ge (q := 67) (t := 93) p3 p4 dX10_closeRepeat_64 (by decide) rfl (fun c1 => ?_) (fun c1 => ?_)
  · refine z_iconst (q := 94) dX10_closeRepeat_93 rfl ?_
    exact z_iret rfl dX10_closeRepeat_94 ⟨hl0, u1 c1⟩
  · refine z_aload_n (q := 68) 0 dX10_closeRepeat_67 rfl rfl ?_
    refine z_gf (q := 71) (ki := 0) (v := (2, 8)) fX10_12 rfl (z_ldr rfl (hl0.ref 7 rfl)) (hl0.i 7 (by decide) rfl) dX10_closeRepeat_68 rfl ?_
    refine z_aload_n (q := 72) 0 dX10_closeRepeat_71 rfl rfl ?_
    refine z_gf (q := 75) (ki := 0) (v := (2, 8)) fX10_12 rfl (z_ldr rfl (hl0.ref 7 rfl)) (hl0.i 7 (by decide) rfl) dX10_closeRepeat_72 rfl ?_
    refine z_iload_n (q := 76) 1 dX10_closeRepeat_75 rfl rfl ?_
    refine z_iload_n (q := 77) 3 dX10_closeRepeat_76 rfl rfl ?_
    refine z_iadd (q := 78) dX10_closeRepeat_77 rfl ?_
    refine z_iload_n (q := 79) 2 dX10_closeRepeat_78 rfl rfl ?_
    refine z_isub (q := 80) dX10_closeRepeat_79 rfl ?_
    exact z_goV (q := 83) (av := [(0, ((x1 + x3) - x2))]) (rest := [(2, 8)]) cb7 (hl0.i 8 (by decide) rfl) z_toi hl0 (u2 c1) mo_X9_codeAt np_X9_codeAt k620 k621 k622 rfl (nle rfl) dX10_closeRepeat_80 rfl
theorem b_X10_closeRepeat_83 {D : zD} {d : Nat} {G : zG} {h : zH} {Q : zO → zG → zH → Prop} {s1 x1 x2 x3 : Int}
    (u1 : z_Ki D M_X9_add d [(2, 8), (0, s1)] G h (fun r G' h' => z_Y D M_X10_closeRepeat d 86 [(0, 2, 7), (1, 0, x1), (2, 0, x2), (3, 0, x3)] [(0, r)] G' h' Q)) :
    z_Y D M_X10_closeRepeat d 83 [(0, 2, 7), (1, 0, x1), (2, 0, x2), (3, 0, x3)] [(0, s1), (2, 8)] G h Q := by
  intro hl0
  exact z_goV (q := 86) (av := [(0, s1)]) (rest := []) cb7 (hl0.i 8 (by decide) rfl) z_toi hl0 (u1) mo_X9_add np_X9_add k624 k625 k626 rfl (nle rfl) dX10_closeRepeat_83 rfl
theorem b_X10_closeRepeat_86 {D : zD} {d : Nat} {G : zG} {h : zH} {Q : zO → zG → zH → Prop} {s0 x1 x2 x3 : Int}
    (u1 : z_Y D M_X10_closeRepeat d 52 [(0, 2, 7), (1, 0, x1), (2, 0, x2), (3, 0, (x3 + 1))] [] G h Q) :
    z_Y D M_X10_closeRepeat d 86 [(0, 2, 7), (1, 0, x1), (2, 0, x2), (3, 0, x3)] [(0, s0)] G h Q := by
  intro hl0
  refine z_pop (q := 87) (by decide) dX10_closeRepeat_86 rfl ?_
  refine z_iinc (q := 90) (L' := [(0, 2, 7), (1, 0, x1), (2, 0, x2), (3, 0, (x3 + 1))]) 3 dX10_closeRepeat_87 rfl rfl (by decide) rfl ?_
  refine z_goto (t := 52) dX10_closeRepeat_90 (by decide) ?_
  exact u1 hl0
theorem b_X10_read_0 {D : zD} {d : Nat} {G : zG} {h : zH} {Q : zO → zG → zH → Prop} {x1 x2 : Int}
    (u1 : z_Kv D M_X9_clear d [(2, 8)] G h (fun G' h' => z_Y D M_X10_read d 7 [(0, 2, 7), (1, 2, x1), (2, 0, x2)] [] G' h' Q)) :
    z_Y D M_X10_read d 0 [(0, 2, 7), (1, 2, x1), (2, 0, x2)] [] G h Q := by
  intro hl0
  refine z_aload_n (q := 1) 0 dX10_read_0 rfl rfl ?_
  refine z_gf (q := 4) (ki := 0) (v := (2, 8)) fX10_12 rfl (z_ldr rfl (hl0.ref 7 rfl)) (hl0.i 7 (by decide) rfl) dX10_read_1 rfl ?_
  exact z_goV (q := 7) (av := []) (rest := []) cb7 (hl0.i 8 (by decide) rfl) z_tov hl0 (u1) mo_X9_clear np_X9_clear k523 k524 k525 rfl (nle rfl) dX10_read_4 rfl
theorem b_X10_read_7 {D : zD} {d : Nat} {G : zG} {h : zH} {Q : zO → zG → zH → Prop} {x1 x2 : Int}
    (u1 : z_Y D M_X10_read d 22 [(0, 2, 7), (1, 2, x1), (2, 0, x2), (3, 0, (-1)), (4, 0, 0)] [] G (z_wr (z_wr h 7 3 0) 7 8 0) Q) :
    z_Y D M_X10_read d 7 [(0, 2, 7), (1, 2, x1), (2, 0, x2)] [] G h Q := by
  intro hl0
  refine z_aload_n (q := 8) 0 dX10_read_7 rfl rfl ?_
  refine z_iconst (q := 9) dX10_read_8 rfl ?_
  refine z_pf (q := 12) (ki := 3) fX10_35 rfl (z_sv0 rfl) (hl0.i 7 (by decide) rfl) dX10_read_9 rfl ?_
  have hl1 := hl0.wr (v := 0) (hl0.i 7 (by decide) rfl) (i := 3) (by decide)
  refine z_aload_n (q := 13) 0 dX10_read_12 rfl rfl ?_
  refine z_iconst (q := 14) dX10_read_13 rfl ?_
  refine z_pf (q := 17) (ki := 8) fX10_38 rfl (z_sv0 rfl) (hl1.i 7 (by decide) rfl) dX10_read_14 rfl ?_
  have hl2 := hl1.wr (v := 0) (hl1.i 7 (by decide) rfl) (i := 8) (by decide)
  refine z_iconst (q := 18) dX10_read_17 rfl ?_
  refine z_istore_n (q := 19) (L' := [(0, 2, 7), (1, 2, x1), (2, 0, x2), (3, 0, (-1))]) dX10_read_18 rfl (by decide) rfl ?_
  refine z_iconst (q := 20) dX10_read_19 rfl ?_
  refine z_istore (q := 22) (L' := [(0, 2, 7), (1, 2, x1), (2, 0, x2), (3, 0, (-1)), (4, 0, 0)]) dX10_read_20 rfl (by decide) rfl ?_
  exact u1 hl2
theorem b_X10_read_22 {D : zD} {d : Nat} {G : zG} {h : zH} {Q : zO → zG → zH → Prop} {x1 x2 x3 x4 : Int} (hd : 2 ≤ d) (p1 : z_in x4) (p2 : z_in x2) (p3 : ¬ (x2 ≤ x4) → z_is G x1 52) (p4 : ¬ (x2 ≤ x4) → z_in (G.2.2.2 x1)) (p5 : ¬ (x2 ≤ x4) → ¬ ((G.2.2.2 x1) ≤ x4) → 0 ≤ x4) (p6 : ¬ (x2 ≤ x4) → ¬ ((G.2.2.2 x1) ≤ x4) → x4 < (G.2.2.2 x1)) (p7 : ¬ (x2 ≤ x4) → ¬ ((G.2.2.2 x1) ≤ x4) → z_in x3) (p8 : ¬ (x2 ≤ x4) → ¬ ((G.2.2.2 x1) ≤ x4) → ¬ (x4 ≤ x3) → z_in (z_iand (w8 (h x1 x4)) 255))
    (u1 : x2 ≤ x4 → z_Y D M_X10_read d 141 [(0, 2, 7), (2, 0, x2)] [] G h Q)
    (u2 : ¬ (x2 ≤ x4) → (G.2.2.2 x1) ≤ x4 → z_Y D M_X10_read d 141 [(0, 2, 7), (2, 0, x2)] [] G h Q)
    (u3 : ¬ (x2 ≤ x4) → ¬ ((G.2.2.2 x1) ≤ x4) → x4 ≤ x3 → z_Y D M_X10_read d 22 [(0, 2, 7), (1, 2, x1), (2, 0, x2), (3, 0, x3), (4, 0, (x4 + 1))] [] G h Q)
    (u4 : ¬ (x2 ≤ x4) → ¬ ((G.2.2.2 x1) ≤ x4) → ¬ (x4 ≤ x3) → (z_iand (w8 (h x1 x4)) 255) = 32 → z_Y D M_X10_read d 22 [(0, 2, 7), (1, 2, x1), (2, 0, x2), (3, 0, x3), (4, 0, (x4 + 1))] [] G h Q)
    (u5 : ¬ (x2 ≤ x4) → ¬ ((G.2.2.2 x1) ≤ x4) → ¬ (x4 ≤ x3) → ¬ ((z_iand (w8 (h x1 x4)) 255) = 32) → ¬ (z_iand (w8 (h x1 x4)) 255) = 10 → 97 ≤ (z_iand (w8 (h x1 x4)) 255) ∧ (z_iand (w8 (h x1 x4)) 255) ≤ 122 → z_Ki D M_X10_lastLetter d [(2, x1), (0, x2), (0, x4)] G h (fun r G' h' => z_Y D M_X10_read d 83 [(0, 2, 7), (1, 2, x1), (2, 0, x2), (4, 0, x4), (5, 0, (z_iand (w8 (h x1 x4)) 255))] [(0, r)] G' h' Q))
    (u6 : ¬ (x2 ≤ x4) → ¬ ((G.2.2.2 x1) ≤ x4) → ¬ (x4 ≤ x3) → ¬ ((z_iand (w8 (h x1 x4)) 255) = 32) → ¬ (z_iand (w8 (h x1 x4)) 255) = 10 → ¬ (97 ≤ (z_iand (w8 (h x1 x4)) 255) ∧ (z_iand (w8 (h x1 x4)) 255) ≤ 122) → z_Y D M_X10_read d 88 [(0, 2, 7), (1, 2, x1), (2, 0, x2), (4, 0, x4), (5, 0, (z_iand (w8 (h x1 x4)) 255))] [(0, x4)] G h Q)
    (u7 : ¬ (x2 ≤ x4) → ¬ ((G.2.2.2 x1) ≤ x4) → ¬ (x4 ≤ x3) → ¬ ((z_iand (w8 (h x1 x4)) 255) = 32) → ¬ (¬ (z_iand (w8 (h x1 x4)) 255) = 10) → z_Y D M_X10_read d 22 [(0, 2, 7), (1, 2, x1), (2, 0, x2), (3, 0, x3), (4, 0, (x4 + 1))] [] G h Q) :
    z_Y D M_X10_read d 22 [(0, 2, 7), (1, 2, x1), (2, 0, x2), (3, 0, x3), (4, 0, x4)] [] G h Q := by
  intro hl0
  refine z_iload (q := 24) 4 dX10_read_22 rfl rfl ?_
  refine z_iload_n (q := 25) 2 dX10_read_24 rfl rfl ?_
  refine z_icmp_ge (q := 28) (t := 141) p1 p2 dX10_read_25 (by decide) rfl (fun c1 => ?_) (fun c1 => ?_)
  · refine z_sub (L' := [(0, 2, 7), (2, 0, x2)]) [0, 2] rfl ?_
    exact u1 c1 hl0
  · refine z_iload (q := 30) 4 dX10_read_28 rfl rfl ?_
    refine z_aload_n (q := 31) 1 dX10_read_30 rfl rfl ?_
    refine z_alen (q := 32) 52 (by decide) (by decide) (z_ati (p3 c1)) dX10_read_31 rfl ?_
    refine z_icmp_ge (q := 35) (t := 141) p1 (p4 c1) dX10_read_32 (by decide) rfl (fun c2 => ?_) (fun c2 => ?_)
    · refine z_sub (L' := [(0, 2, 7), (2, 0, x2)]) [0, 2] rfl ?_
      exact u2 c1 c2 hl0
    · refine z_aload_n (q := 36) 1 dX10_read_35 rfl rfl ?_
      refine z_iload (q := 38) 4 dX10_read_36 rfl rfl ?_
      refine z_bale (q := 39) (v := (h x1 x4)) (z_ati (p3 c1)) (p5 c1 c2) (p6 c1 c2) rfl dX10_read_38 rfl ?_
      refine z_sipush (q := 42) dX10_read_39 rfl (by decide) ?_
      refine z_r_iand (q := 43) dX10_read_42 rfl ?_
      refine z_istore (q := 45) (L' := [(0, 2, 7), (1, 2, x1), (2, 0, x2), (3, 0, x3), (4, 0, x4), (5, 0, (z_iand (w8 (h x1 x4)) 255))]) dX10_read_43 rfl (by decide) rfl ?_
      refine z_iload (q := 47) 4 dX10_read_45 rfl rfl ?_
      refine z_iload_n (q := 48) 3 dX10_read_47 rfl rfl ?_
      refine z_icmp_le (q := 51) (t := 135) p1 (p7 c1 c2) dX10_read_48 (by decide) rfl (fun c3 => ?_) (fun c3 => ?_)
      · refine z_iinc (q := 138) (L' := [(0, 2, 7), (1, 2, x1), (2, 0, x2), (3, 0, x3), (4, 0, (x4 + 1)), (5, 0, (z_iand (w8 (h x1 x4)) 255))]) 4 dX10_read_135 rfl rfl (by decide) rfl ?_
        refine z_goto (t := 22) dX10_read_138 (by decide) ?_
        refine z_sub (L' := [(0, 2, 7), (1, 2, x1), (2, 0, x2), (3, 0, x3), (4, 0, (x4 + 1))]) [0, 1, 2, 3, 4] rfl ?_
        exact u3 c1 c2 c3 hl0
      · refine z_iload (q := 53) 5 dX10_read_51 rfl rfl ?_
        refine z_bipush (q := 55) dX10_read_53 rfl (by decide) ?_
        refine z_icmp_eq (q := 58) (t := 135) (p8 c1 c2 c3) ⟨by decide, by decide⟩ dX10_read_55 (by decide) rfl (fun c4 => ?_) (fun c4 => ?_)
        · refine z_iinc (q := 138) (L' := [(0, 2, 7), (1, 2, x1), (2, 0, x2), (3, 0, x3), (4, 0, (x4 + 1)), (5, 0, (z_iand (w8 (h x1 x4)) 255))]) 4 dX10_read_135 rfl rfl (by decide) rfl ?_
          refine z_goto (t := 22) dX10_read_138 (by decide) ?_
          refine z_sub (L' := [(0, 2, 7), (1, 2, x1), (2, 0, x2), (3, 0, x3), (4, 0, (x4 + 1))]) [0, 1, 2, 3, 4] rfl ?_
          exact u4 c1 c2 c3 c4 hl0
        · refine z_iload (q := 60) 5 dX10_read_58 rfl rfl ?_
          refine z_bipush (q := 62) dX10_read_60 rfl (by decide) ?_
          refine z_icmp_ne (q := 65) (t := 68) (p8 c1 c2 c3) ⟨by decide, by decide⟩ dX10_read_62 (by decide) rfl (fun c5 => ?_) (fun c5 => ?_)
          · refine z_iload (q := 70) 5 dX10_read_68 rfl rfl ?_
            have e1 := a_X6_isLetter (D := D) (G := G) (h := h) (d := d - 1) (by omega) (z_iand (w8 (h x1 x4)) 255) (p8 c1 c2 c3)
            refine z_goS (q := 73) (av := [(0, (z_iand (w8 (h x1 x4)) 255))]) (rest := []) (z_toi) hl0 (z_Ei.K e1 (by omega) ?_) mo_X6_isLetter np_X6_isLetter k527 k494 rfl (nle rfl) dX10_read_70 rfl
            by_cases c6 : 97 ≤ (z_iand (w8 (h x1 x4)) 255) ∧ (z_iand (w8 (h x1 x4)) 255) ≤ 122
            · rw [z_b1 c6]
              refine z_if_eq (q := 76) (t := 86) ⟨by decide, by decide⟩ dX10_read_73 (by decide) rfl (fun c => absurd c (by decide)) (fun _ => ?_)
              refine z_aload_n (q := 77) 1 dX10_read_76 rfl rfl ?_
              refine z_iload_n (q := 78) 2 dX10_read_77 rfl rfl ?_
              refine z_iload (q := 80) 4 dX10_read_78 rfl rfl ?_
              refine z_sub (L' := [(0, 2, 7), (1, 2, x1), (2, 0, x2), (4, 0, x4), (5, 0, (z_iand (w8 (h x1 x4)) 255))]) [0, 1, 2, 4, 5] rfl ?_
              exact z_goS (q := 83) (av := [(2, x1), (0, x2), (0, x4)]) (rest := []) z_toi hl0 (u5 c1 c2 c3 c4 c5 c6) mo_X10_lastLetter np_X10_lastLetter k528 k529 rfl (nle rfl) dX10_read_80 rfl
            · rw [z_b0 c6]
              refine z_if_eq (q := 76) (t := 86) ⟨by decide, by decide⟩ dX10_read_73 (by decide) rfl (fun _ => ?_) (fun c => absurd c (by decide))
              refine z_iload (q := 88) 4 dX10_read_86 rfl rfl ?_
              refine z_sub (L' := [(0, 2, 7), (1, 2, x1), (2, 0, x2), (4, 0, x4), (5, 0, (z_iand (w8 (h x1 x4)) 255))]) [0, 1, 2, 4, 5] rfl ?_
              exact u6 c1 c2 c3 c4 c5 c6 hl0
          · refine z_goto (t := 135) dX10_read_65 (by decide) ?_
            refine z_iinc (q := 138) (L' := [(0, 2, 7), (1, 2, x1), (2, 0, x2), (3, 0, x3), (4, 0, (x4 + 1)), (5, 0, (z_iand (w8 (h x1 x4)) 255))]) 4 dX10_read_135 rfl rfl (by decide) rfl ?_
            refine z_goto (t := 22) dX10_read_138 (by decide) ?_
            refine z_sub (L' := [(0, 2, 7), (1, 2, x1), (2, 0, x2), (3, 0, x3), (4, 0, (x4 + 1))]) [0, 1, 2, 3, 4] rfl ?_
            exact u7 c1 c2 c3 c4 c5 hl0
theorem b_X10_read_141 {D : zD} {d : Nat} {G : zG} {h : zH} {Q : zO → zG → zH → Prop} {x2 : Int} (p1 : z_in (h 7 3)) (p2 : ¬ (¬ (h 7 3) = 0) → z_in (h 7 8))
    (u1 : ¬ (h 7 3) = 0 → z_Y D M_X10_read d 156 [(0, 2, 7), (2, 0, x2)] [(2, 7)] G h Q)
    (u2 : ¬ (¬ (h 7 3) = 0) → (h 7 8) ≤ 0 → z_Y D M_X10_read d 161 [(0, 2, 7), (2, 0, x2)] [(0, 0), (2, 7)] G h Q)
    (u3 : ¬ (¬ (h 7 3) = 0) → ¬ ((h 7 8) ≤ 0) → z_Y D M_X10_read d 156 [(0, 2, 7), (2, 0, x2)] [(2, 7)] G h Q) :
    z_Y D M_X10_read d 141 [(0, 2, 7), (2, 0, x2)] [] G h Q := by
  intro hl0
  refine z_aload_n (q := 142) 0 dX10_read_141 rfl rfl ?_
  refine z_aload_n (q := 143) 0 dX10_read_142 rfl rfl ?_
  refine z_gf (q := 146) (ki := 3) (v := (0, (h 7 3))) fX10_35 rfl rfl (hl0.i 7 (by decide) rfl) dX10_read_143 rfl ?_
  refine z_if_ne (q := 149) (t := 156) p1 dX10_read_146 (by decide) rfl (fun c1 => ?_) (fun c1 => ?_)
  · exact u1 c1 hl0
  · refine z_aload_n (q := 150) 0 dX10_read_149 rfl rfl ?_
    refine z_gf (q := 153) (ki := 8) (v := (0, (h 7 8))) fX10_38 rfl rfl (hl0.i 7 (by decide) rfl) dX10_read_150 rfl ?_
    refine z_if_le (q := 156) (t := 160) (p2 c1) dX10_read_153 (by decide) rfl (fun c2 => ?_) (fun c2 => ?_)
    · refine z_iconst (q := 161) dX10_read_160 rfl ?_
      exact u2 c1 c2 hl0
    · exact u3 c1 c2 hl0
theorem b_X10_read_83 {D : zD} {d : Nat} {G : zG} {h : zH} {Q : zO → zG → zH → Prop} {s0 x1 x2 x4 x5 : Int}
    (u1 : z_Y D M_X10_read d 88 [(0, 2, 7), (1, 2, x1), (2, 0, x2), (4, 0, x4), (5, 0, x5)] [(0, s0)] G h Q) :
    z_Y D M_X10_read d 83 [(0, 2, 7), (1, 2, x1), (2, 0, x2), (4, 0, x4), (5, 0, x5)] [(0, s0)] G h Q := by
  intro hl0
  refine z_goto (t := 88) dX10_read_83 (by decide) ?_
  exact u1 hl0
theorem b_X10_read_88 {D : zD} {d : Nat} {G : zG} {h : zH} {Q : zO → zG → zH → Prop} {s0 x1 x2 x4 x5 : Int} (hd : 2 ≤ d) (p1 : z_in x5)
    (u1 : 97 ≤ x5 ∧ x5 ≤ 122 → z_Ki D M_X10_wordIn d [(2, x1), (0, x4), (0, s0)] G h (fun r G' h' => z_Y D M_X10_read d 106 [(0, 2, 7), (1, 2, x1), (2, 0, x2), (3, 0, s0), (4, 0, x4)] [(0, r), (2, 7), (2, 7)] G' h' Q))
    (u2 : ¬ (97 ≤ x5 ∧ x5 ≤ 122) → z_Ki D M_X10_takeSign d [(2, 7), (0, x5)] G h (fun r G' h' => z_Y D M_X10_read d 118 [(0, 2, 7), (1, 2, x1), (2, 0, x2), (3, 0, s0), (4, 0, x4)] [(0, r), (2, 7)] G' h' Q)) :
    z_Y D M_X10_read d 88 [(0, 2, 7), (1, 2, x1), (2, 0, x2), (4, 0, x4), (5, 0, x5)] [(0, s0)] G h Q := by
  intro hl0
  refine z_istore_n (q := 89) (L' := [(0, 2, 7), (1, 2, x1), (2, 0, x2), (3, 0, s0), (4, 0, x4), (5, 0, x5)]) dX10_read_88 rfl (by decide) rfl ?_
  refine z_aload_n (q := 90) 0 dX10_read_89 rfl rfl ?_
  refine z_iload (q := 92) 5 dX10_read_90 rfl rfl ?_
  have e1 := a_X6_isLetter (D := D) (G := G) (h := h) (d := d - 1) (by omega) x5 p1
  refine z_goS (q := 95) (av := [(0, x5)]) (rest := [(2, 7)]) (z_toi) hl0 (z_Ei.K e1 (by omega) ?_) mo_X6_isLetter np_X6_isLetter k527 k494 rfl (nle rfl) dX10_read_92 rfl
  by_cases c1 : 97 ≤ x5 ∧ x5 ≤ 122
  · rw [z_b1 c1]
    refine z_if_eq (q := 98) (t := 112) ⟨by decide, by decide⟩ dX10_read_95 (by decide) rfl (fun c => absurd c (by decide)) (fun _ => ?_)
    refine z_aload_n (q := 99) 0 dX10_read_98 rfl rfl ?_
    refine z_aload_n (q := 100) 1 dX10_read_99 rfl rfl ?_
    refine z_iload (q := 102) 4 dX10_read_100 rfl rfl ?_
    refine z_iload_n (q := 103) 3 dX10_read_102 rfl rfl ?_
    refine z_sub (L' := [(0, 2, 7), (1, 2, x1), (2, 0, x2), (3, 0, s0), (4, 0, x4)]) [0, 1, 2, 3, 4] rfl ?_
    exact z_goS (q := 106) (av := [(2, x1), (0, x4), (0, s0)]) (rest := [(2, 7), (2, 7)]) z_toi hl0 (u1 c1) mo_X10_wordIn np_X10_wordIn k531 k532 rfl (nle rfl) dX10_read_103 rfl
  · rw [z_b0 c1]
    refine z_if_eq (q := 98) (t := 112) ⟨by decide, by decide⟩ dX10_read_95 (by decide) rfl (fun _ => ?_) (fun c => absurd c (by decide))
    refine z_aload_n (q := 113) 0 dX10_read_112 rfl rfl ?_
    refine z_iload (q := 115) 5 dX10_read_113 rfl rfl ?_
    refine z_sub (L' := [(0, 2, 7), (1, 2, x1), (2, 0, x2), (3, 0, s0), (4, 0, x4)]) [0, 1, 2, 3, 4] rfl ?_
    exact z_goV (q := 118) (av := [(0, x5)]) (rest := [(2, 7)]) cb8 (hl0.i 7 (by decide) rfl) z_toi hl0 (u2 c1) mo_X10_takeSign np_X10_takeSign k612 k614 k9 rfl (nle rfl) dX10_read_115 rfl
theorem b_X10_read_156 {D : zD} {d : Nat} {G : zG} {h : zH} {Q : zO → zG → zH → Prop} {x2 : Int}
    (u1 : z_Y D M_X10_read d 161 [(0, 2, 7), (2, 0, x2)] [(0, 1), (2, 7)] G h Q) :
    z_Y D M_X10_read d 156 [(0, 2, 7), (2, 0, x2)] [(2, 7)] G h Q := by
  intro hl0
  refine z_iconst (q := 157) dX10_read_156 rfl ?_
  refine z_goto (t := 161) dX10_read_157 (by decide) ?_
  exact u1 hl0
theorem b_X10_read_161 {D : zD} {d : Nat} {G : zG} {h : zH} {Q : zO → zG → zH → Prop} {s1 x2 : Int} (p1 : z_in s1)
    (u1 : ¬ s1 = 0 → Q (.inl none) G (z_wr (z_wr h 7 1 s1) 7 2 x2))
    (u2 : ¬ (¬ s1 = 0) → Q (.inl none) G (z_wr (z_wr h 7 1 s1) 7 2 (-1))) :
    z_Y D M_X10_read d 161 [(0, 2, 7), (2, 0, x2)] [(0, s1), (2, 7)] G h Q := by
  intro hl0
  refine z_pf (q := 164) (ki := 1) fX10_18 rfl (z_sv0 rfl) (hl0.i 7 (by decide) rfl) dX10_read_161 rfl ?_
  have hl1 := hl0.wr (v := s1) (hl0.i 7 (by decide) rfl) (i := 1) (by decide)
  refine z_aload_n (q := 165) 0 dX10_read_164 rfl rfl ?_
  refine z_aload_n (q := 166) 0 dX10_read_165 rfl rfl ?_
  refine z_gf (q := 169) (ki := 1) (v := (0, s1)) fX10_18 rfl (z_ldi rfl w_s) (hl1.i 7 (by decide) rfl) dX10_read_166 rfl ?_
  refine z_if_ne (q := 172) (t := 176) p1 dX10_read_169 (by decide) rfl (fun c1 => ?_) (fun c1 => ?_)
  · refine z_iload_n (q := 177) 1 dX10_read_176 rfl rfl ?_
    refine z_pf (q := 180) (ki := 2) fX10_22 rfl (z_sv0 rfl) (hl1.i 7 (by decide) rfl) dX10_read_177 rfl ?_
    have hl2 := hl1.wr (v := x2) (hl1.i 7 (by decide) rfl) (i := 2) (by decide)
    exact z_vret rfl dX10_read_180 ⟨hl2, u1 c1⟩
  · refine z_iconst (q := 173) dX10_read_172 rfl ?_
    refine z_goto (t := 177) dX10_read_173 (by decide) ?_
    refine z_pf (q := 180) (ki := 2) fX10_22 rfl (z_sv0 rfl) (hl1.i 7 (by decide) rfl) dX10_read_177 rfl ?_
    have hl2 := hl1.wr (v := (-1)) (hl1.i 7 (by decide) rfl) (i := 2) (by decide)
    exact z_vret rfl dX10_read_180 ⟨hl2, u2 c1⟩
theorem b_X10_read_106 {D : zD} {d : Nat} {G : zG} {h : zH} {Q : zO → zG → zH → Prop} {s2 x1 x2 x3 x4 : Int}
    (u1 : z_Ki D M_X10_takeWord d [(2, 7), (0, s2)] G h (fun r G' h' => z_Y D M_X10_read d 109 [(0, 2, 7), (1, 2, x1), (2, 0, x2), (3, 0, x3), (4, 0, x4)] [(0, r), (2, 7)] G' h' Q)) :
    z_Y D M_X10_read d 106 [(0, 2, 7), (1, 2, x1), (2, 0, x2), (3, 0, x3), (4, 0, x4)] [(0, s2), (2, 7), (2, 7)] G h Q := by
  intro hl0
  exact z_goV (q := 109) (av := [(0, s2)]) (rest := [(2, 7)]) cb8 (hl0.i 7 (by decide) rfl) z_toi hl0 (u1) mo_X10_takeWord np_X10_takeWord k603 k605 k8 rfl (nle rfl) dX10_read_106 rfl
theorem b_X10_read_118 {D : zD} {d : Nat} {G : zG} {h : zH} {Q : zO → zG → zH → Prop} {s1 x1 x2 x3 x4 : Int} (p1 : z_in s1)
    (u1 : s1 = 0 → z_Y D M_X10_read d 22 [(0, 2, 7), (1, 2, x1), (2, 0, x2), (3, 0, x3), (4, 0, (x4 + 1))] [] G (z_wr h 7 1 s1) Q)
    (u2 : ¬ (s1 = 0) → Q (.inl none) G (z_wr (z_wr h 7 1 s1) 7 2 x4)) :
    z_Y D M_X10_read d 118 [(0, 2, 7), (1, 2, x1), (2, 0, x2), (3, 0, x3), (4, 0, x4)] [(0, s1), (2, 7)] G h Q := by
  intro hl0
  refine z_pf (q := 121) (ki := 1) fX10_18 rfl (z_sv0 rfl) (hl0.i 7 (by decide) rfl) dX10_read_118 rfl ?_
  have hl1 := hl0.wr (v := s1) (hl0.i 7 (by decide) rfl) (i := 1) (by decide)
  refine z_aload_n (q := 122) 0 dX10_read_121 rfl rfl ?_
  refine z_gf (q := 125) (ki := 1) (v := (0, s1)) fX10_18 rfl (z_ldi rfl w_s) (hl1.i 7 (by decide) rfl) dX10_read_122 rfl ?_
  refine z_if_eq (q := 128) (t := 135) p1 dX10_read_125 (by decide) rfl (fun c1 => ?_) (fun c1 => ?_)
  · refine z_iinc (q := 138) (L' := [(0, 2, 7), (1, 2, x1), (2, 0, x2), (3, 0, x3), (4, 0, (x4 + 1))]) 4 dX10_read_135 rfl rfl (by decide) rfl ?_
    refine z_goto (t := 22) dX10_read_138 (by decide) ?_
    exact u1 c1 hl1
  · refine z_aload_n (q := 129) 0 dX10_read_128 rfl rfl ?_
    refine z_iload (q := 131) 4 dX10_read_129 rfl rfl ?_
    refine z_pf (q := 134) (ki := 2) fX10_22 rfl (z_sv0 rfl) (hl1.i 7 (by decide) rfl) dX10_read_131 rfl ?_
    have hl2 := hl1.wr (v := x4) (hl1.i 7 (by decide) rfl) (i := 2) (by decide)
    exact z_vret rfl dX10_read_134 ⟨hl2, u2 c1⟩
theorem b_X10_read_109 {D : zD} {d : Nat} {G : zG} {h : zH} {Q : zO → zG → zH → Prop} {s1 x1 x2 x3 x4 : Int}
    (u1 : z_Y D M_X10_read d 118 [(0, 2, 7), (1, 2, x1), (2, 0, x2), (3, 0, x3), (4, 0, x4)] [(0, s1), (2, 7)] G h Q) :
    z_Y D M_X10_read d 109 [(0, 2, 7), (1, 2, x1), (2, 0, x2), (3, 0, x3), (4, 0, x4)] [(0, s1), (2, 7)] G h Q := by
  intro hl0
  refine z_goto (t := 118) dX10_read_109 (by decide) ?_
  exact u1 hl0
