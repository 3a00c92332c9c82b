theorem b_X13_find_0 {D : zD} {d : Nat} {G : zG} {h : zH} {Q : zO → zG → zH → Prop} {x1 x2 x3 x4 x5 : Int} (hd : 3 ≤ d) (p1 : z_in x1) (p2 : 0 ≤ x1 ∧ x1 ≤ 7 → z_in x2) (p3 : 0 ≤ x1 ∧ x1 ≤ 7 → 0 ≤ x2 ∧ x2 ≤ 7 → z_in x3)
    (u1 : 0 ≤ x1 ∧ x1 ≤ 7 → 0 ≤ x2 ∧ x2 ≤ 7 → x3 = (-1) → z_Y D M_X13_find d 26 [(0, 2, 88), (1, 0, x1), (2, 0, x2), (3, 0, x3), (4, 0, x4), (5, 0, x5)] [] G h Q)
    (u2 : 0 ≤ x1 ∧ x1 ≤ 7 → 0 ≤ x2 ∧ x2 ≤ 7 → ¬ (x3 = (-1)) → 0 ≤ x3 ∧ x3 ≤ 7 → z_Y D M_X13_find d 26 [(0, 2, 88), (1, 0, x1), (2, 0, x2), (3, 0, x3), (4, 0, x4), (5, 0, x5)] [] G h Q)
    (u3 : 0 ≤ x1 ∧ x1 ≤ 7 → 0 ≤ x2 ∧ x2 ≤ 7 → ¬ (x3 = (-1)) → ¬ (0 ≤ x3 ∧ x3 ≤ 7) → Q (.inl (some (0, (-2)))) G h)
    (u4 : 0 ≤ x1 ∧ x1 ≤ 7 → ¬ (0 ≤ x2 ∧ x2 ≤ 7) → Q (.inl (some (0, (-2)))) G h)
    (u5 : ¬ (0 ≤ x1 ∧ x1 ≤ 7) → Q (.inl (some (0, (-2)))) G h) :
    z_Y D M_X13_find d 0 [(0, 2, 88), (1, 0, x1), (2, 0, x2), (3, 0, x3), (4, 0, x4), (5, 0, x5)] [] G h Q := by
  intro hl0
  refine z_iload_n (q := 1) 1 dX13_find_0 rfl rfl ?_
  have e1 := a_X13_isTable (D := D) (G := G) (h := h) (d := d - 1) (by omega) x1 p1
  refine z_goS (q := 4) (av := [(0, x1)]) (rest := []) (z_toi) hl0 (z_Ei.K e1 (by omega) ?_) mo_X13_isTable np_X13_isTable k1311 k1312 rfl (nle rfl) dX13_find_1 rfl
  by_cases c1 : 0 ≤ x1 ∧ x1 ≤ 7
  · rw [z_b1 c1]
    refine z_if_eq (q := 7) (t := 77) ⟨by decide, by decide⟩ dX13_find_4 (by decide) rfl (fun c => absurd c (by decide)) (fun _ => ?_)
    refine z_iload_n (q := 8) 2 dX13_find_7 rfl rfl ?_
    have e2 := a_X13_isTable (D := D) (G := G) (h := h) (d := d - 1) (by omega) x2 (p2 c1)
    refine z_goS (q := 11) (av := [(0, x2)]) (rest := []) (z_toi) hl0 (z_Ei.K e2 (by omega) ?_) mo_X13_isTable np_X13_isTable k1311 k1312 rfl (nle rfl) dX13_find_8 rfl
    by_cases c2 : 0 ≤ x2 ∧ x2 ≤ 7
    · rw [z_b1 c2]
      refine z_if_eq (q := 14) (t := 77) ⟨by decide, by decide⟩ dX13_find_11 (by decide) rfl (fun c => absurd c (by decide)) (fun _ => ?_)
      refine z_iload_n (q := 15) 3 dX13_find_14 rfl rfl ?_
      refine z_iconst (q := 16) dX13_find_15 rfl ?_
      refine z_icmp_eq (q := 19) (t := 26) (p3 c1 c2) ⟨by decide, by decide⟩ dX13_find_16 (by decide) rfl (fun c3 => ?_) (fun c3 => ?_)
      · exact u1 c1 c2 c3 hl0
      · refine z_iload_n (q := 20) 3 dX13_find_19 rfl rfl ?_
        have e3 := a_X13_isTable (D := D) (G := G) (h := h) (d := d - 1) (by omega) x3 (p3 c1 c2)
        refine z_goS (q := 23) (av := [(0, x3)]) (rest := []) (z_toi) hl0 (z_Ei.K e3 (by omega) ?_) mo_X13_isTable np_X13_isTable k1311 k1312 rfl (nle rfl) dX13_find_20 rfl
        by_cases c4 : 0 ≤ x3 ∧ x3 ≤ 7
        · rw [z_b1 c4]
          refine z_if_eq (q := 26) (t := 77) ⟨by decide, by decide⟩ dX13_find_23 (by decide) rfl (fun c => absurd c (by decide)) (fun _ => ?_)
          exact u2 c1 c2 c3 c4 hl0
        · rw [z_b0 c4]
          refine z_if_eq (q := 26) (t := 77) ⟨by decide, by decide⟩ dX13_find_23 (by decide) rfl (fun _ => ?_) (fun c => absurd c (by decide))
          refine z_bipush (q := 79) dX13_find_77 rfl (by decide) ?_
          exact z_iret rfl dX13_find_79 ⟨hl0, u3 c1 c2 c3 c4⟩
    · rw [z_b0 c2]
      refine z_if_eq (q := 14) (t := 77) ⟨by decide, by decide⟩ dX13_find_11 (by decide) rfl (fun _ => ?_) (fun c => absurd c (by decide))
      refine z_bipush (q := 79) dX13_find_77 rfl (by decide) ?_
      exact z_iret rfl dX13_find_79 ⟨hl0, u4 c1 c2⟩
  · rw [z_b0 c1]
    refine z_if_eq (q := 7) (t := 77) ⟨by decide, by decide⟩ dX13_find_4 (by decide) rfl (fun _ => ?_) (fun c => absurd c (by decide))
    refine z_bipush (q := 79) dX13_find_77 rfl (by decide) ?_
    exact z_iret rfl dX13_find_79 ⟨hl0, u5 c1⟩
theorem b_X13_find_26 {D : zD} {d : Nat} {G : zG} {h : zH} {Q : zO → zG → zH → Prop} {x1 x2 x3 x4 x5 : Int} (hd : 3 ≤ d) (p1 : z_in x4)
    (u1 : x4 = (-1) → z_Y D M_X13_find d 40 [(0, 2, 88), (1, 0, x1), (2, 0, x2), (3, 0, x3), (4, 0, x4), (5, 0, x5)] [] G h Q)
    (u2 : ¬ (x4 = (-1)) → 0 ≤ x4 ∧ x4 ≤ 7 → z_Y D M_X13_find d 40 [(0, 2, 88), (1, 0, x1), (2, 0, x2), (3, 0, x3), (4, 0, x4), (5, 0, x5)] [] G h Q)
    (u3 : ¬ (x4 = (-1)) → ¬ (0 ≤ x4 ∧ x4 ≤ 7) → Q (.inl (some (0, (-2)))) G h) :
    z_Y D M_X13_find d 26 [(0, 2, 88), (1, 0, x1), (2, 0, x2), (3, 0, x3), (4, 0, x4), (5, 0, x5)] [] G h Q := by
  intro hl0
  refine z_iload (q := 28) 4 dX13_find_26 rfl rfl ?_
  refine z_iconst (q := 29) dX13_find_28 rfl ?_
  refine z_icmp_eq (q := 32) (t := 40) p1 ⟨by decide, by decide⟩ dX13_find_29 (by decide) rfl (fun c1 => ?_) (fun c1 => ?_)
  · exact u1 c1 hl0
  · refine z_iload (q := 34) 4 dX13_find_32 rfl rfl ?_
    have e1 := a_X13_isTable (D := D) (G := G) (h := h) (d := d - 1) (by omega) x4 p1
    refine z_goS (q := 37) (av := [(0, x4)]) (rest := []) (z_toi) hl0 (z_Ei.K e1 (by omega) ?_) mo_X13_isTable np_X13_isTable k1311 k1312 rfl (nle rfl) dX13_find_34 rfl
    by_cases c2 : 0 ≤ x4 ∧ x4 ≤ 7
    · rw [z_b1 c2]
      refine z_if_eq (q := 40) (t := 77) ⟨by decide, by decide⟩ dX13_find_37 (by decide) rfl (fun c => absurd c (by decide)) (fun _ => ?_)
      exact u2 c1 c2 hl0
    · rw [z_b0 c2]
      refine z_if_eq (q := 40) (t := 77) ⟨by decide, by decide⟩ dX13_find_37 (by decide) rfl (fun _ => ?_) (fun c => absurd c (by decide))
      refine z_bipush (q := 79) dX13_find_77 rfl (by decide) ?_
      exact z_iret rfl dX13_find_79 ⟨hl0, u3 c1 c2⟩
theorem b_X13_find_40 {D : zD} {d : Nat} {G : zG} {h : zH} {Q : zO → zG → zH → Prop} {x1 x2 x3 x4 x5 : Int} (p1 : z_in x3)
    (u1 : ¬ x3 = (-1) → z_Y D M_X13_find d 50 [(0, 2, 88), (1, 0, x1), (2, 0, x2), (3, 0, x3), (4, 0, x4), (5, 0, x5)] [(0, 0)] G h Q)
    (u2 : ¬ (¬ x3 = (-1)) → z_Y D M_X13_find d 50 [(0, 2, 88), (1, 0, x1), (2, 0, x2), (3, 0, x3), (4, 0, x4), (5, 0, x5)] [(0, 1)] G h Q) :
    z_Y D M_X13_find d 40 [(0, 2, 88), (1, 0, x1), (2, 0, x2), (3, 0, x3), (4, 0, x4), (5, 0, x5)] [] G h Q := by
  intro hl0
  refine z_iload_n (q := 41) 3 dX13_find_40 rfl rfl ?_
  refine z_iconst (q := 42) dX13_find_41 rfl ?_
  refine z_icmp_ne (q := 45) (t := 49) p1 ⟨by decide, by decide⟩ dX13_find_42 (by decide) rfl (fun c1 => ?_) (fun c1 => ?_)
  · refine z_iconst (q := 50) dX13_find_49 rfl ?_
    exact u1 c1 hl0
  · refine z_iconst (q := 46) dX13_find_45 rfl ?_
    refine z_goto (t := 50) dX13_find_46 (by decide) ?_
    exact u2 c1 hl0
theorem b_X13_find_50 {D : zD} {d : Nat} {G : zG} {h : zH} {Q : zO → zG → zH → Prop} {s0 x1 x2 x3 x4 x5 : Int} (p1 : z_in x4)
    (u1 : ¬ x4 = (-1) → z_Y D M_X13_find d 61 [(0, 2, 88), (1, 0, x1), (2, 0, x2), (3, 0, x3), (4, 0, x4), (5, 0, x5)] [(0, 0), (0, s0)] G h Q)
    (u2 : ¬ (¬ x4 = (-1)) → z_Y D M_X13_find d 61 [(0, 2, 88), (1, 0, x1), (2, 0, x2), (3, 0, x3), (4, 0, x4), (5, 0, x5)] [(0, 1), (0, s0)] G h Q) :
    z_Y D M_X13_find d 50 [(0, 2, 88), (1, 0, x1), (2, 0, x2), (3, 0, x3), (4, 0, x4), (5, 0, x5)] [(0, s0)] G h Q := by
  intro hl0
  refine z_iload (q := 52) 4 dX13_find_50 rfl rfl ?_
  refine z_iconst (q := 53) dX13_find_52 rfl ?_
  refine z_icmp_ne (q := 56) (t := 60) p1 ⟨by decide, by decide⟩ dX13_find_53 (by decide) rfl (fun c1 => ?_) (fun c1 => ?_)
  · refine z_iconst (q := 61) dX13_find_60 rfl ?_
    exact u1 c1 hl0
  · refine z_iconst (q := 57) dX13_find_56 rfl ?_
    refine z_goto (t := 61) dX13_find_57 (by decide) ?_
    exact u2 c1 hl0
theorem b_X13_find_61 {D : zD} {d : Nat} {G : zG} {h : zH} {Q : zO → zG → zH → Prop} {s0 s1 x1 x2 x3 x4 x5 : Int} (hd : 2 ≤ d) (p1 : z_in s0) (p2 : z_in s1) (p3 : ¬ (¬ s0 = s1) → z_in x5) (p4 : ¬ (¬ s0 = s1) → z_in64 x5) (p5 : ¬ (¬ s0 = s1) → 0 ≤ x5 ∧ x5 ≤ 3 → z_in x3)
    (u1 : ¬ s0 = s1 → Q (.inl (some (0, (-2)))) G h)
    (u2 : ¬ (¬ s0 = s1) → 0 ≤ x5 ∧ x5 ≤ 3 → x3 = (-1) → z_Y D M_X13_find d 111 [(0, 2, 88), (1, 0, x1), (2, 0, x2), (3, 0, x3), (4, 0, x4), (5, 0, x5)] [(0, 0), (2, 88)] G (z_wr (z_wr (z_wr (z_wr h 88 29 0) 88 30 0) 88 31 0) 88 41 0) Q)
    (u3 : ¬ (¬ s0 = s1) → 0 ≤ x5 ∧ x5 ≤ 3 → ¬ (x3 = (-1)) → z_Y D M_X13_find d 111 [(0, 2, 88), (1, 0, x1), (2, 0, x2), (3, 0, x3), (4, 0, x4), (5, 0, x5)] [(0, 1), (2, 88)] G (z_wr (z_wr (z_wr (z_wr h 88 29 0) 88 30 0) 88 31 0) 88 41 0) Q)
    (u4 : ¬ (¬ s0 = s1) → ¬ (0 ≤ x5 ∧ x5 ≤ 3) → Q (.inl (some (0, (-2)))) G h) :
    z_Y D M_X13_find d 61 [(0, 2, 88), (1, 0, x1), (2, 0, x2), (3, 0, x3), (4, 0, x4), (5, 0, x5)] [(0, s1), (0, s0)] G h Q := by
  intro hl0
  refine z_icmp_ne (q := 64) (t := 77) p1 p2 dX13_find_61 (by decide) rfl (fun c1 => ?_) (fun c1 => ?_)
  · refine z_bipush (q := 79) dX13_find_77 rfl (by decide) ?_
    exact z_iret rfl dX13_find_79 ⟨hl0, u1 c1⟩
  · refine z_iload (q := 66) 5 dX13_find_64 rfl rfl ?_
    refine z_i2l (q := 67) (p3 c1) dX13_find_66 rfl ?_
    refine z_lconst0 (q := 68) dX13_find_67 rfl ?_
    refine z_ldc2 (q := 71) (n := 3) k1619 (by decide) dX13_find_68 rfl ?_
    have e1 := a_X13_in (D := D) (G := G) (h := h) (d := d - 1) (by omega) x5 0 3 (p4 c1) ⟨by decide, by decide⟩ ⟨by decide, by decide⟩
    refine z_goS (q := 74) (av := [(1, x5), (1, 0), (1, 3)]) (rest := []) (z_toi) hl0 (z_Ei.K e1 (by omega) ?_) mo_X13_in np_X13_in k1300 k1301 rfl (nle rfl) dX13_find_71 rfl
    by_cases c2 : 0 ≤ x5 ∧ x5 ≤ 3
    · rw [z_b1 c2]
      refine z_if_ne (q := 77) (t := 80) ⟨by decide, by decide⟩ dX13_find_74 (by decide) rfl (fun _ => ?_) (fun c => absurd c (by decide))
      refine z_aload_n (q := 81) 0 dX13_find_80 rfl rfl ?_
      refine z_iconst (q := 82) dX13_find_81 rfl ?_
      refine z_pf (q := 85) (ki := 29) fX13_359 rfl (z_sv0 rfl) (hl0.i 88 (by decide) rfl) dX13_find_82 rfl ?_
      have hl1 := hl0.wr (v := 0) (hl0.i 88 (by decide) rfl) (i := 29) (by decide)
      refine z_aload_n (q := 86) 0 dX13_find_85 rfl rfl ?_
      refine z_iconst (q := 87) dX13_find_86 rfl ?_
      refine z_pf (q := 90) (ki := 30) fX13_371 rfl (z_sv0 rfl) (hl1.i 88 (by decide) rfl) dX13_find_87 rfl ?_
      have hl2 := hl1.wr (v := 0) (hl1.i 88 (by decide) rfl) (i := 30) (by decide)
      refine z_aload_n (q := 91) 0 dX13_find_90 rfl rfl ?_
      refine z_iconst (q := 92) dX13_find_91 rfl ?_
      refine z_pf (q := 95) (ki := 31) fX13_376 rfl (z_sv0 rfl) (hl2.i 88 (by decide) rfl) dX13_find_92 rfl ?_
      have hl3 := hl2.wr (v := 0) (hl2.i 88 (by decide) rfl) (i := 31) (by decide)
      refine z_aload_n (q := 96) 0 dX13_find_95 rfl rfl ?_
      refine z_iconst (q := 97) dX13_find_96 rfl ?_
      refine z_pf (q := 100) (ki := 41) fX13_379 rfl (z_sv0 rfl) (hl3.i 88 (by decide) rfl) dX13_find_97 rfl ?_
      have hl4 := hl3.wr (v := 0) (hl3.i 88 (by decide) rfl) (i := 41) (by decide)
      refine z_aload_n (q := 101) 0 dX13_find_100 rfl rfl ?_
      refine z_iload_n (q := 102) 3 dX13_find_101 rfl rfl ?_
      refine z_iconst (q := 103) dX13_find_102 rfl ?_
      refine z_icmp_eq (q := 106) (t := 110) (p5 c1 c2) ⟨by decide, by decide⟩ dX13_find_103 (by decide) rfl (fun c3 => ?_) (fun c3 => ?_)
      · refine z_iconst (q := 111) dX13_find_110 rfl ?_
        exact u2 c1 c2 c3 hl4
      · refine z_iconst (q := 107) dX13_find_106 rfl ?_
        refine z_goto (t := 111) dX13_find_107 (by decide) ?_
        exact u3 c1 c2 c3 hl4
    · rw [z_b0 c2]
      refine z_if_ne (q := 77) (t := 80) ⟨by decide, by decide⟩ dX13_find_74 (by decide) rfl (fun c => absurd c (by decide)) (fun _ => ?_)
      refine z_bipush (q := 79) dX13_find_77 rfl (by decide) ?_
      exact z_iret rfl dX13_find_79 ⟨hl0, u4 c1 c2⟩
theorem b_X13_find_111 {D : zD} {d : Nat} {G : zG} {h : zH} {Q : zO → zG → zH → Prop} {s1 x1 x2 x3 x4 x5 : Int} (p1 : s1 = 0 ∨ s1 = 1)
    (u1 : z_Y D M_X13_find d 128 [(0, 2, 88), (1, 0, x1), (3, 0, x3), (5, 0, x5), (6, 0, 0)] [] G (z_wr (z_wr (z_wr h 88 32 s1) 88 33 x2) 88 34 x4) Q) :
    z_Y D M_X13_find d 111 [(0, 2, 88), (1, 0, x1), (2, 0, x2), (3, 0, x3), (4, 0, x4), (5, 0, x5)] [(0, s1), (2, 88)] G h Q := by
  intro hl0
  refine z_pf (q := 114) (ki := 32) fX13_348 rfl (z_sv4 rfl p1) (hl0.i 88 (by decide) rfl) dX13_find_111 rfl ?_
  have hl1 := hl0.wr (v := s1) (hl0.i 88 (by decide) rfl) (i := 32) (by decide)
  refine z_aload_n (q := 115) 0 dX13_find_114 rfl rfl ?_
  refine z_iload_n (q := 116) 2 dX13_find_115 rfl rfl ?_
  refine z_pf (q := 119) (ki := 33) fX13_365 rfl (z_sv0 rfl) (hl1.i 88 (by decide) rfl) dX13_find_116 rfl ?_
  have hl2 := hl1.wr (v := x2) (hl1.i 88 (by decide) rfl) (i := 33) (by decide)
  refine z_aload_n (q := 120) 0 dX13_find_119 rfl rfl ?_
  refine z_iload (q := 122) 4 dX13_find_120 rfl rfl ?_
  refine z_pf (q := 125) (ki := 34) fX13_368 rfl (z_sv0 rfl) (hl2.i 88 (by decide) rfl) dX13_find_122 rfl ?_
  have hl3 := hl2.wr (v := x4) (hl2.i 88 (by decide) rfl) (i := 34) (by decide)
  refine z_iconst (q := 126) dX13_find_125 rfl ?_
  refine z_istore (q := 128) (L' := [(0, 2, 88), (1, 0, x1), (2, 0, x2), (3, 0, x3), (4, 0, x4), (5, 0, x5), (6, 0, 0)]) dX13_find_126 rfl (by decide) rfl ?_
  refine z_sub (L' := [(0, 2, 88), (1, 0, x1), (3, 0, x3), (5, 0, x5), (6, 0, 0)]) [0, 1, 3, 5, 6] rfl ?_
  exact u1 hl3
theorem b_X13_find_128 {D : zD} {d : Nat} {G : zG} {h : zH} {Q : zO → zG → zH → Prop} {x1 x3 x5 x6 : Int} (p1 : z_in x6) (p2 : ¬ (4096 ≤ x6) → 0 ≤ x6) (p3 : ¬ (4096 ≤ x6) → x6 < 4096)
    (u1 : 4096 ≤ x6 → z_Kv D M_X13_become d [(2, 88), (0, 8), (0, x1)] G h (fun G' h' => z_Y D M_X13_find d 159 [(0, 2, 88), (3, 0, x3), (5, 0, x5)] [] G' h' Q))
    (u2 : ¬ (4096 ≤ x6) → z_Y D M_X13_find d 128 [(0, 2, 88), (1, 0, x1), (3, 0, x3), (5, 0, x5), (6, 0, (x6 + 1))] [] G (z_wr h 104 x6 (-1)) Q) :
    z_Y D M_X13_find d 128 [(0, 2, 88), (1, 0, x1), (3, 0, x3), (5, 0, x5), (6, 0, x6)] [] G h Q := by
  intro hl0
  refine z_iload (q := 130) 4 dX13_find_128 rfl rfl ?_
  refine z_aload_n (q := 131) 0 dX13_find_130 rfl rfl ?_
  refine z_gf (q := 134) (ki := 25) (v := (2, 104)) fX13_66 rfl (z_ldr rfl (hl0.ref 96 rfl)) (hl0.i 88 (by decide) rfl) dX13_find_131 rfl ?_
  refine z_alen (q := 135) 50 (by decide) (by decide) (hl0.a 104 (by decide) rfl) dX13_find_134 rfl ?_
  refine z_icmp_ge (q := 138) (t := 152) p1 ⟨by decide, by decide⟩ dX13_find_135 (by decide) rfl (fun c1 => ?_) (fun c1 => ?_)
  · refine z_aload_n (q := 153) 0 dX13_find_152 rfl rfl ?_
    refine z_bipush (q := 155) dX13_find_153 rfl (by decide) ?_
    refine z_iload_n (q := 156) 1 dX13_find_155 rfl rfl ?_
    refine z_sub (L' := [(0, 2, 88), (3, 0, x3), (5, 0, x5)]) [0, 2, 3] rfl ?_
    exact z_goV (q := 159) (av := [(0, 8), (0, x1)]) (rest := []) cb11 (hl0.i 88 (by decide) rfl) z_tov hl0 (u1 c1) mo_X13_become np_X13_become k1348 k1350 k48 rfl (nle rfl) dX13_find_156 rfl
  · refine z_aload_n (q := 139) 0 dX13_find_138 rfl rfl ?_
    refine z_gf (q := 142) (ki := 25) (v := (2, 104)) fX13_66 rfl (z_ldr rfl (hl0.ref 96 rfl)) (hl0.i 88 (by decide) rfl) dX13_find_139 rfl ?_
    refine z_iload (q := 144) 4 dX13_find_142 rfl rfl ?_
    refine z_iconst (q := 145) dX13_find_144 rfl ?_
    refine z_isn (q := 146) (hl0.i 104 (by decide) rfl) (hl0.n 104 (by decide) rfl) (p2 c1) (p3 c1) dX13_find_145 rfl ?_
    have hl1 := hl0.wr (v := (-1)) (hl0.i 104 (by decide) rfl) (i := x6) rfl
    refine z_iinc (q := 149) (L' := [(0, 2, 88), (1, 0, x1), (3, 0, x3), (5, 0, x5), (6, 0, (x6 + 1))]) 4 dX13_find_146 rfl rfl (by decide) rfl ?_
    refine z_goto (t := 128) dX13_find_149 (by decide) ?_
    exact u2 c1 hl1
theorem b_X13_find_159 {D : zD} {d : Nat} {G : zG} {h : zH} {Q : zO → zG → zH → Prop} {x3 x5 : Int} (p1 : z_in ((h 88 32) % 2))
    (u1 : ((h 88 32) % 2) = 0 → z_Y D M_X13_find d 173 [(0, 2, 88), (5, 0, x5)] [] G h Q)
    (u2 : ¬ (((h 88 32) % 2) = 0) → z_Kv D M_X13_become d [(2, 88), (0, 9), (0, x3)] G h (fun G' h' => z_Y D M_X13_find d 173 [(0, 2, 88), (5, 0, x5)] [] G' h' Q)) :
    z_Y D M_X13_find d 159 [(0, 2, 88), (3, 0, x3), (5, 0, x5)] [] G h Q := by
  intro hl0
  refine z_aload_n (q := 160) 0 dX13_find_159 rfl rfl ?_
  refine z_gf (q := 163) (ki := 32) (v := (0, ((h 88 32) % 2))) fX13_348 rfl rfl (hl0.i 88 (by decide) rfl) dX13_find_160 rfl ?_
  refine z_if_eq (q := 166) (t := 173) p1 dX13_find_163 (by decide) rfl (fun c1 => ?_) (fun c1 => ?_)
  · refine z_sub (L' := [(0, 2, 88), (5, 0, x5)]) [0, 2] rfl ?_
    exact u1 c1 hl0
  · refine z_aload_n (q := 167) 0 dX13_find_166 rfl rfl ?_
    refine z_bipush (q := 169) dX13_find_167 rfl (by decide) ?_
    refine z_iload_n (q := 170) 1 dX13_find_169 rfl rfl ?_
    refine z_sub (L' := [(0, 2, 88), (5, 0, x5)]) [0, 2] rfl ?_
    exact z_goV (q := 173) (av := [(0, 9), (0, x3)]) (rest := []) cb11 (hl0.i 88 (by decide) rfl) z_tov hl0 (u2 c1) mo_X13_become np_X13_become k1348 k1350 k48 rfl (nle rfl) dX13_find_170 rfl
theorem b_X13_find_173 {D : zD} {d : Nat} {G : zG} {h : zH} {Q : zO → zG → zH → Prop} {x5 : Int}
    (u1 : z_Kv D M_X13_clean d [(2, 88), (0, 8)] G h (fun G' h' => z_Y D M_X13_find d 179 [(0, 2, 88), (5, 0, x5)] [] G' h' Q)) :
    z_Y D M_X13_find d 173 [(0, 2, 88), (5, 0, x5)] [] G h Q := by
  intro hl0
  refine z_aload_n (q := 174) 0 dX13_find_173 rfl rfl ?_
  refine z_bipush (q := 176) dX13_find_174 rfl (by decide) ?_
  exact z_goV (q := 179) (av := [(0, 8)]) (rest := []) cb11 (hl0.i 88 (by decide) rfl) z_tov hl0 (u1) mo_X13_clean np_X13_clean k1620 k1622 k82 rfl (nle rfl) dX13_find_176 rfl
theorem b_X13_find_179 {D : zD} {d : Nat} {G : zG} {h : zH} {Q : zO → zG → zH → Prop} {x5 : Int} (p1 : z_in ((h 88 32) % 2))
    (u1 : ((h 88 32) % 2) = 0 → z_Y D M_X13_find d 192 [(0, 2, 88), (5, 0, x5)] [] G h Q)
    (u2 : ¬ (((h 88 32) % 2) = 0) → z_Kv D M_X13_clean d [(2, 88), (0, 9)] G h (fun G' h' => z_Y D M_X13_find d 192 [(0, 2, 88), (5, 0, x5)] [] G' h' Q)) :
    z_Y D M_X13_find d 179 [(0, 2, 88), (5, 0, x5)] [] G h Q := by
  intro hl0
  refine z_aload_n (q := 180) 0 dX13_find_179 rfl rfl ?_
  refine z_gf (q := 183) (ki := 32) (v := (0, ((h 88 32) % 2))) fX13_348 rfl rfl (hl0.i 88 (by decide) rfl) dX13_find_180 rfl ?_
  refine z_if_eq (q := 186) (t := 192) p1 dX13_find_183 (by decide) rfl (fun c1 => ?_) (fun c1 => ?_)
  · exact u1 c1 hl0
  · refine z_aload_n (q := 187) 0 dX13_find_186 rfl rfl ?_
    refine z_bipush (q := 189) dX13_find_187 rfl (by decide) ?_
    exact z_goV (q := 192) (av := [(0, 9)]) (rest := []) cb11 (hl0.i 88 (by decide) rfl) z_tov hl0 (u2 c1) mo_X13_clean np_X13_clean k1620 k1622 k82 rfl (nle rfl) dX13_find_189 rfl
theorem b_X13_find_192 {D : zD} {d : Nat} {G : zG} {h : zH} {Q : zO → zG → zH → Prop} {x5 : Int}
    (u1 : z_Kv D M_X13_keepState d [(2, 88)] G h (fun G' h' => z_Y D M_X13_find d 196 [(0, 2, 88), (5, 0, x5)] [] G' h' Q)) :
    z_Y D M_X13_find d 192 [(0, 2, 88), (5, 0, x5)] [] G h Q := by
  intro hl0
  refine z_aload_n (q := 193) 0 dX13_find_192 rfl rfl ?_
  exact z_goV (q := 196) (av := []) (rest := []) cb11 (hl0.i 88 (by decide) rfl) z_tov hl0 (u1) mo_X13_keepState np_X13_keepState k1624 k1626 k83 rfl (nle rfl) dX13_find_193 rfl
theorem b_X13_find_196 {D : zD} {d : Nat} {G : zG} {h : zH} {Q : zO → zG → zH → Prop} {x5 : Int}
    (u1 : z_Kv D M_X13_noteEnd d [(2, 88), (0, 0)] G h (fun G' h' => z_Y D M_X13_find d 201 [(0, 2, 88), (5, 0, x5)] [] G' h' Q)) :
    z_Y D M_X13_find d 196 [(0, 2, 88), (5, 0, x5)] [] G h Q := by
  intro hl0
  refine z_aload_n (q := 197) 0 dX13_find_196 rfl rfl ?_
  refine z_iconst (q := 198) dX13_find_197 rfl ?_
  exact z_goV (q := 201) (av := [(0, 0)]) (rest := []) cb11 (hl0.i 88 (by decide) rfl) z_tov hl0 (u1) mo_X13_noteEnd np_X13_noteEnd k1638 k1640 k86 rfl (nle rfl) dX13_find_198 rfl
theorem b_X13_find_201 {D : zD} {d : Nat} {G : zG} {h : zH} {Q : zO → zG → zH → Prop} {x5 : Int}
    (u1 : z_Y D M_X13_find d 218 [(0, 2, 88), (5, 0, x5), (6, 0, 0)] [] G (z_wr (z_wr h 106 0 0) 106 1 1) Q) :
    z_Y D M_X13_find d 201 [(0, 2, 88), (5, 0, x5)] [] G h Q := by
  intro hl0
  refine z_aload_n (q := 202) 0 dX13_find_201 rfl rfl ?_
  refine z_gf (q := 205) (ki := 27) (v := (2, 106)) fX13_72 rfl (z_ldr rfl (hl0.ref 98 rfl)) (hl0.i 88 (by decide) rfl) dX13_find_202 rfl ?_
  refine z_iconst (q := 206) dX13_find_205 rfl ?_
  refine z_iconst (q := 207) dX13_find_206 rfl ?_
  refine z_isn (q := 208) (hl0.i 106 (by decide) rfl) (hl0.n 106 (by decide) rfl) (by decide) (by decide) dX13_find_207 rfl ?_
  have hl1 := hl0.wr (v := 0) (hl0.i 106 (by decide) rfl) (i := 0) rfl
  refine z_aload_n (q := 209) 0 dX13_find_208 rfl rfl ?_
  refine z_gf (q := 212) (ki := 27) (v := (2, 106)) fX13_72 rfl (z_ldr rfl (hl1.ref 98 rfl)) (hl1.i 88 (by decide) rfl) dX13_find_209 rfl ?_
  refine z_iconst (q := 213) dX13_find_212 rfl ?_
  refine z_iconst (q := 214) dX13_find_213 rfl ?_
  refine z_isn (q := 215) (hl1.i 106 (by decide) rfl) (hl1.n 106 (by decide) rfl) (by decide) (by decide) dX13_find_214 rfl ?_
  have hl2 := hl1.wr (v := 1) (hl1.i 106 (by decide) rfl) (i := 1) rfl
  refine z_iconst (q := 216) dX13_find_215 rfl ?_
  refine z_istore (q := 218) (L' := [(0, 2, 88), (5, 0, x5), (6, 0, 0)]) dX13_find_216 rfl (by decide) rfl ?_
  exact u1 hl2
theorem b_X13_find_218 {D : zD} {d : Nat} {G : zG} {h : zH} {Q : zO → zG → zH → Prop} {x5 x6 : Int} (p1 : z_in (h 88 30)) (p2 : ¬ (¬ (h 88 30) = 0) → z_in x6) (p3 : ¬ (¬ (h 88 30) = 0) → z_in x5) (p4 : ¬ (¬ (h 88 30) = 0) → ¬ (x5 ≤ x6) → 0 ≤ x6) (p5 : ¬ (¬ (h 88 30) = 0) → ¬ (x5 ≤ x6) → x6 < 6)
    (u1 : ¬ (h 88 30) = 0 → z_Y D M_X13_find d 292 [(0, 2, 88), (6, 0, x6)] [] G h Q)
    (u2 : ¬ (¬ (h 88 30) = 0) → x5 ≤ x6 → z_Y D M_X13_find d 292 [(0, 2, 88), (6, 0, x6)] [] G h Q)
    (u3 : ¬ (¬ (h 88 30) = 0) → ¬ (x5 ≤ x6) → z_Y D M_X13_find d 241 [(0, 2, 88), (5, 0, x5), (6, 0, x6), (7, 0, (h 106 x6))] [] G h Q) :
    z_Y D M_X13_find d 218 [(0, 2, 88), (5, 0, x5), (6, 0, x6)] [] G h Q := by
  intro hl0
  refine z_aload_n (q := 219) 0 dX13_find_218 rfl rfl ?_
  refine z_gf (q := 222) (ki := 30) (v := (0, (h 88 30))) fX13_371 rfl rfl (hl0.i 88 (by decide) rfl) dX13_find_219 rfl ?_
  refine z_if_ne (q := 225) (t := 292) p1 dX13_find_222 (by decide) rfl (fun c1 => ?_) (fun c1 => ?_)
  · refine z_sub (L' := [(0, 2, 88), (6, 0, x6)]) [0, 2] rfl ?_
    exact u1 c1 hl0
  · refine z_iload (q := 227) 2 dX13_find_225 rfl rfl ?_
    refine z_iload (q := 229) 1 dX13_find_227 rfl rfl ?_
    refine z_icmp_ge (q := 232) (t := 292) (p2 c1) (p3 c1) dX13_find_229 (by decide) rfl (fun c2 => ?_) (fun c2 => ?_)
    · refine z_sub (L' := [(0, 2, 88), (6, 0, x6)]) [0, 2] rfl ?_
      exact u2 c1 c2 hl0
    · refine z_aload_n (q := 233) 0 dX13_find_232 rfl rfl ?_
      refine z_gf (q := 236) (ki := 27) (v := (2, 106)) fX13_72 rfl (z_ldr rfl (hl0.ref 98 rfl)) (hl0.i 88 (by decide) rfl) dX13_find_233 rfl ?_
      refine z_iload (q := 238) 2 dX13_find_236 rfl rfl ?_
      refine z_iale (q := 239) (v := (h 106 x6)) (hl0.a 106 (by decide) rfl) (p4 c1 c2) (p5 c1 c2) rfl dX13_find_238 rfl ?_
      refine z_istore (q := 241) (L' := [(0, 2, 88), (5, 0, x5), (6, 0, x6), (7, 0, (h 106 x6))]) dX13_find_239 rfl (by decide) rfl ?_
      exact u3 c1 c2 hl0
theorem b_X13_find_292 {D : zD} {d : Nat} {G : zG} {h : zH} {Q : zO → zG → zH → Prop} {x6 : Int} (p1 : z_in (h 88 30))
    (u1 : ¬ (h 88 30) = 0 → z_Kv D M_X13_countWays d [(2, 88), (0, x6)] G h (fun G' h' => z_Y D M_X13_find d 307 [(0, 2, 88), (6, 0, x6)] [] G' h' Q))
    (u2 : ¬ (¬ (h 88 30) = 0) → Q (.inl (some (0, (-1)))) G h) :
    z_Y D M_X13_find d 292 [(0, 2, 88), (6, 0, x6)] [] G h Q := by
  intro hl0
  refine z_aload_n (q := 293) 0 dX13_find_292 rfl rfl ?_
  refine z_gf (q := 296) (ki := 30) (v := (0, (h 88 30))) fX13_371 rfl rfl (hl0.i 88 (by decide) rfl) dX13_find_293 rfl ?_
  refine z_if_ne (q := 299) (t := 301) p1 dX13_find_296 (by decide) rfl (fun c1 => ?_) (fun c1 => ?_)
  · refine z_aload_n (q := 302) 0 dX13_find_301 rfl rfl ?_
    refine z_iload (q := 304) 1 dX13_find_302 rfl rfl ?_
    exact z_goV (q := 307) (av := [(0, x6)]) (rest := []) cb11 (hl0.i 88 (by decide) rfl) z_tov hl0 (u1 c1) mo_X13_countWays np_X13_countWays k1662 k1664 k92 rfl (nle rfl) dX13_find_304 rfl
  · refine z_iconst (q := 300) dX13_find_299 rfl ?_
    exact z_iret rfl dX13_find_300 ⟨hl0, u2 c1⟩
theorem b_X13_find_241 {D : zD} {d : Nat} {G : zG} {h : zH} {Q : zO → zG → zH → Prop} {x5 x6 x7 : Int} (p1 : 0 ≤ (x6 + 1)) (p2 : (x6 + 1) < 6) (p3 : z_in x7) (p4 : z_in (h 106 (x6 + 1))) (p5 : (h 106 (x6 + 1)) ≤ x7 → 0 ≤ ((x6 + 1) + 1)) (p6 : (h 106 (x6 + 1)) ≤ x7 → ((x6 + 1) + 1) < 6)
    (u1 : (h 106 (x6 + 1)) ≤ x7 → z_Y D M_X13_find d 218 [(0, 2, 88), (5, 0, x5), (6, 0, (x6 + 1))] [] G (z_wr h 106 ((x6 + 1) + 1) (h 88 29)) Q)
    (u2 : ¬ ((h 106 (x6 + 1)) ≤ x7) → z_Ki D M_X13_spread d [(2, 88), (0, x7)] G h (fun r G' h' => z_Y D M_X13_find d 261 [(0, 2, 88), (5, 0, x5), (6, 0, x6), (7, 0, x7)] [(0, r)] G' h' Q)) :
    z_Y D M_X13_find d 241 [(0, 2, 88), (5, 0, x5), (6, 0, x6), (7, 0, x7)] [] G h Q := by
  intro hl0
  refine z_iload (q := 243) 3 dX13_find_241 rfl rfl ?_
  refine z_aload_n (q := 244) 0 dX13_find_243 rfl rfl ?_
  refine z_gf (q := 247) (ki := 27) (v := (2, 106)) fX13_72 rfl (z_ldr rfl (hl0.ref 98 rfl)) (hl0.i 88 (by decide) rfl) dX13_find_244 rfl ?_
  refine z_iload (q := 249) 2 dX13_find_247 rfl rfl ?_
  refine z_iconst (q := 250) dX13_find_249 rfl ?_
  refine z_iadd (q := 251) dX13_find_250 rfl ?_
  refine z_iale (q := 252) (v := (h 106 (x6 + 1))) (hl0.a 106 (by decide) rfl) p1 p2 rfl dX13_find_251 rfl ?_
  refine z_icmp_ge (q := 255) (t := 273) p3 p4 dX13_find_252 (by decide) rfl (fun c1 => ?_) (fun c1 => ?_)
  · refine z_iinc (q := 276) (L' := [(0, 2, 88), (5, 0, x5), (6, 0, (x6 + 1)), (7, 0, x7)]) 2 dX13_find_273 rfl rfl (by decide) rfl ?_
    refine z_aload_n (q := 277) 0 dX13_find_276 rfl rfl ?_
    refine z_gf (q := 280) (ki := 27) (v := (2, 106)) fX13_72 rfl (z_ldr rfl (hl0.ref 98 rfl)) (hl0.i 88 (by decide) rfl) dX13_find_277 rfl ?_
    refine z_iload (q := 282) 2 dX13_find_280 rfl rfl ?_
    refine z_iconst (q := 283) dX13_find_282 rfl ?_
    refine z_iadd (q := 284) dX13_find_283 rfl ?_
    refine z_aload_n (q := 285) 0 dX13_find_284 rfl rfl ?_
    refine z_gf (q := 288) (ki := 29) (v := (0, (h 88 29))) fX13_359 rfl rfl (hl0.i 88 (by decide) rfl) dX13_find_285 rfl ?_
    refine z_isn (q := 289) (hl0.i 106 (by decide) rfl) (hl0.n 106 (by decide) rfl) (p5 c1) (p6 c1) dX13_find_288 rfl ?_
    have hl1 := hl0.wr (v := (h 88 29)) (hl0.i 106 (by decide) rfl) (i := ((x6 + 1) + 1)) rfl
    refine z_goto (t := 218) dX13_find_289 (by decide) ?_
    refine z_sub (L' := [(0, 2, 88), (5, 0, x5), (6, 0, (x6 + 1))]) [0, 1, 2] rfl ?_
    exact u1 c1 hl1
  · refine z_aload_n (q := 256) 0 dX13_find_255 rfl rfl ?_
    refine z_iload (q := 258) 3 dX13_find_256 rfl rfl ?_
    exact z_goV (q := 261) (av := [(0, x7)]) (rest := []) cb11 (hl0.i 88 (by decide) rfl) z_toi hl0 (u2 c1) mo_X13_spread np_X13_spread k1642 k1644 k87 rfl (nle rfl) dX13_find_258 rfl
theorem b_X13_find_307 {D : zD} {d : Nat} {G : zG} {h : zH} {Q : zO → zG → zH → Prop} {x6 : Int}
    (u1 : z_Kv D M_X13_tellWays d [(2, 88), (0, 0), (0, 0), (0, x6)] G h (fun G' h' => z_Y D M_X13_find d 315 [(6, 0, x6)] [] G' h' Q)) :
    z_Y D M_X13_find d 307 [(0, 2, 88), (6, 0, x6)] [] G h Q := by
  intro hl0
  refine z_aload_n (q := 308) 0 dX13_find_307 rfl rfl ?_
  refine z_iconst (q := 309) dX13_find_308 rfl ?_
  refine z_iconst (q := 310) dX13_find_309 rfl ?_
  refine z_iload (q := 312) 1 dX13_find_310 rfl rfl ?_
  refine z_sub (L' := [(6, 0, x6)]) [1] rfl ?_
  exact z_goV (q := 315) (av := [(0, 0), (0, 0), (0, x6)]) (rest := []) cb11 (hl0.i 88 (by decide) rfl) z_tov hl0 (u1) mo_X13_tellWays np_X13_tellWays k1671 k1673 k94 rfl (nle rfl) dX13_find_312 rfl
theorem b_X13_find_261 {D : zD} {d : Nat} {G : zG} {h : zH} {Q : zO → zG → zH → Prop} {s0 x5 x6 x7 : Int} (p1 : z_in s0)
    (u1 : ¬ s0 = 0 → z_Y D M_X13_find d 241 [(0, 2, 88), (5, 0, x5), (6, 0, x6), (7, 0, (x7 + 1))] [] G h Q)
    (u2 : ¬ (¬ s0 = 0) → Q (.inl (some (0, (-3)))) G h) :
    z_Y D M_X13_find d 261 [(0, 2, 88), (5, 0, x5), (6, 0, x6), (7, 0, x7)] [(0, s0)] G h Q := by
  intro hl0
  refine z_if_ne (q := 264) (t := 267) p1 dX13_find_261 (by decide) rfl (fun c1 => ?_) (fun c1 => ?_)
  · refine z_iinc (q := 270) (L' := [(0, 2, 88), (5, 0, x5), (6, 0, x6), (7, 0, (x7 + 1))]) 3 dX13_find_267 rfl rfl (by decide) rfl ?_
    refine z_goto (t := 241) dX13_find_270 (by decide) ?_
    exact u1 c1 hl0
  · refine z_bipush (q := 266) dX13_find_264 rfl (by decide) ?_
    exact z_iret rfl dX13_find_266 ⟨hl0, u2 c1⟩
theorem b_X13_find_315 {D : zD} {d : Nat} {G : zG} {h : zH} {Q : zO → zG → zH → Prop} {x6 : Int}
    (u1 : Q (.inl (some (0, x6))) G h) :
    z_Y D M_X13_find d 315 [(6, 0, x6)] [] G h Q := by
  intro hl0
  refine z_iload (q := 317) 0 dX13_find_315 rfl rfl ?_
  exact z_iret rfl dX13_find_317 ⟨hl0, u1⟩
theorem b_X13_found_0 {D : zD} {d : Nat} {G : zG} {h : zH} {Q : zO → zG → zH → Prop} {x1 : Int} (p1 : z_in x1)
    (u1 : ¬ x1 = 0 → ¬ x1 = 1 → ¬ x1 = 2 → Q (.inl (some (0, (-1)))) G h)
    (u2 : ¬ x1 = 0 → ¬ x1 = 1 → ¬ (¬ x1 = 2) → Q (.inl (some (0, (h 88 30)))) G h)
    (u3 : ¬ x1 = 0 → ¬ (¬ x1 = 1) → Q (.inl (some (0, (h 88 29)))) G h)
    (u4 : ¬ (¬ x1 = 0) → Q (.inl (some (0, (h 88 31)))) G h) :
    z_Y D M_X13_found d 0 [(0, 2, 88), (1, 0, x1)] [] G h Q := by
  intro hl0
  refine z_iload_n (q := 1) 1 dX13_found_0 rfl rfl ?_
  refine z_if_ne (q := 4) (t := 11) p1 dX13_found_1 (by decide) rfl (fun c1 => ?_) (fun c1 => ?_)
  · refine z_iload_n (q := 12) 1 dX13_found_11 rfl rfl ?_
    refine z_iconst (q := 13) dX13_found_12 rfl ?_
    refine z_icmp_ne (q := 16) (t := 23) p1 ⟨by decide, by decide⟩ dX13_found_13 (by decide) rfl (fun c2 => ?_) (fun c2 => ?_)
    · refine z_iload_n (q := 24) 1 dX13_found_23 rfl rfl ?_
      refine z_iconst (q := 25) dX13_found_24 rfl ?_
      refine z_icmp_ne (q := 28) (t := 35) p1 ⟨by decide, by decide⟩ dX13_found_25 (by decide) rfl (fun c3 => ?_) (fun c3 => ?_)
      · refine z_iconst (q := 36) dX13_found_35 rfl ?_
        exact z_iret rfl dX13_found_36 ⟨hl0, u1 c1 c2 c3⟩
      · refine z_aload_n (q := 29) 0 dX13_found_28 rfl rfl ?_
        refine z_gf (q := 32) (ki := 30) (v := (0, (h 88 30))) fX13_371 rfl rfl (hl0.i 88 (by decide) rfl) dX13_found_29 rfl ?_
        refine z_goto (t := 36) dX13_found_32 (by decide) ?_
        exact z_iret rfl dX13_found_36 ⟨hl0, u2 c1 c2 c3⟩
    · refine z_aload_n (q := 17) 0 dX13_found_16 rfl rfl ?_
      refine z_gf (q := 20) (ki := 29) (v := (0, (h 88 29))) fX13_359 rfl rfl (hl0.i 88 (by decide) rfl) dX13_found_17 rfl ?_
      refine z_goto (t := 36) dX13_found_20 (by decide) ?_
      exact z_iret rfl dX13_found_36 ⟨hl0, u3 c1 c2⟩
  · refine z_aload_n (q := 5) 0 dX13_found_4 rfl rfl ?_
    refine z_gf (q := 8) (ki := 31) (v := (0, (h 88 31))) fX13_376 rfl rfl (hl0.i 88 (by decide) rfl) dX13_found_5 rfl ?_
    refine z_goto (t := 36) dX13_found_8 (by decide) ?_
    exact z_iret rfl dX13_found_36 ⟨hl0, u4 c1⟩
theorem b_X13_take_0 {D : zD} {d : Nat} {G : zG} {h : zH} {Q : zO → zG → zH → Prop} {x1 x2 : Int} (hd : 3 ≤ d) (p1 : z_in x2) (p2 : 0 ≤ x2 ∧ x2 ≤ 7 → z_in x1) (p3 : 0 ≤ x2 ∧ x2 ≤ 7 → z_in (h 88 41)) (p4 : 0 ≤ x2 ∧ x2 ≤ 7 → z_in64 x1) (p5 : 0 ≤ x2 ∧ x2 ≤ 7 → z_in64 ((h 88 41) - 1)) (p6 : 0 ≤ x2 ∧ x2 ≤ 7 → 0 ≤ x1 ∧ x1 ≤ ((h 88 41) - 1) → 0 ≤ x2) (p7 : 0 ≤ x2 ∧ x2 ≤ 7 → 0 ≤ x1 ∧ x1 ≤ ((h 88 41) - 1) → x2 < 9)
    (u1 : 0 ≤ x2 ∧ x2 ≤ 7 → 0 ≤ x1 ∧ x1 ≤ ((h 88 41) - 1) → z_Y D M_X13_take d 40 [(0, 2, 88), (1, 0, x1), (2, 0, x2), (3, 0, 0)] [] G (z_wr h 95 x2 (h 88 42)) Q)
    (u2 : 0 ≤ x2 ∧ x2 ≤ 7 → ¬ (0 ≤ x1 ∧ x1 ≤ ((h 88 41) - 1)) → Q (.inl (some (0, (-1)))) G h)
    (u3 : ¬ (0 ≤ x2 ∧ x2 ≤ 7) → Q (.inl (some (0, (-2)))) G h) :
    z_Y D M_X13_take d 0 [(0, 2, 88), (1, 0, x1), (2, 0, x2)] [] G h Q := by
  intro hl0
  refine z_iload_n (q := 1) 2 dX13_take_0 rfl rfl ?_
  have e1 := a_X13_isWay (D := D) (G := G) (h := h) (d := d - 1) (by omega) x2 p1
  refine z_goS (q := 4) (av := [(0, x2)]) (rest := []) (z_toi) hl0 (z_Ei.K e1 (by omega) ?_) mo_X13_isWay np_X13_isWay k1356 k1357 rfl (nle rfl) dX13_take_1 rfl
  by_cases c1 : 0 ≤ x2 ∧ x2 ≤ 7
  · rw [z_b1 c1]
    refine z_if_ne (q := 7) (t := 10) ⟨by decide, by decide⟩ dX13_take_4 (by decide) rfl (fun _ => ?_) (fun c => absurd c (by decide))
    refine z_iload_n (q := 11) 1 dX13_take_10 rfl rfl ?_
    refine z_i2l (q := 12) (p2 c1) dX13_take_11 rfl ?_
    refine z_lconst0 (q := 13) dX13_take_12 rfl ?_
    refine z_aload_n (q := 14) 0 dX13_take_13 rfl rfl ?_
    refine z_gf (q := 17) (ki := 41) (v := (0, (h 88 41))) fX13_379 rfl rfl (hl0.i 88 (by decide) rfl) dX13_take_14 rfl ?_
    refine z_i2l (q := 18) (p3 c1) dX13_take_17 rfl ?_
    refine z_lconst1 (q := 19) dX13_take_18 rfl ?_
    refine z_lsub (q := 20) dX13_take_19 rfl ?_
    have e2 := a_X13_in (D := D) (G := G) (h := h) (d := d - 1) (by omega) x1 0 ((h 88 41) - 1) (p4 c1) ⟨by decide, by decide⟩ (p5 c1)
    refine z_goS (q := 23) (av := [(1, x1), (1, 0), (1, ((h 88 41) - 1))]) (rest := []) (z_toi) hl0 (z_Ei.K e2 (by omega) ?_) mo_X13_in np_X13_in k1300 k1301 rfl (nle rfl) dX13_take_20 rfl
    by_cases c2 : 0 ≤ x1 ∧ x1 ≤ ((h 88 41) - 1)
    · rw [z_b1 c2]
      refine z_if_ne (q := 26) (t := 28) ⟨by decide, by decide⟩ dX13_take_23 (by decide) rfl (fun _ => ?_) (fun c => absurd c (by decide))
      refine z_aload_n (q := 29) 0 dX13_take_28 rfl rfl ?_
      refine z_gf (q := 32) (ki := 8) (v := (2, 95)) fX13_29 rfl (z_ldr rfl (hl0.ref 87 rfl)) (hl0.i 88 (by decide) rfl) dX13_take_29 rfl ?_
      refine z_iload_n (q := 33) 2 dX13_take_32 rfl rfl ?_
      refine z_aload_n (q := 34) 0 dX13_take_33 rfl rfl ?_
      refine z_gf (q := 37) (ki := 42) (v := (0, (h 88 42))) fX13_415 rfl rfl (hl0.i 88 (by decide) rfl) dX13_take_34 rfl ?_
      refine z_isn (q := 38) (hl0.i 95 (by decide) rfl) (hl0.n 95 (by decide) rfl) (p6 c1 c2) (p7 c1 c2) dX13_take_37 rfl ?_
      have hl1 := hl0.wr (v := (h 88 42)) (hl0.i 95 (by decide) rfl) (i := x2) rfl
      refine z_iconst (q := 39) dX13_take_38 rfl ?_
      refine z_istore_n (q := 40) (L' := [(0, 2, 88), (1, 0, x1), (2, 0, x2), (3, 0, 0)]) dX13_take_39 rfl (by decide) rfl ?_
      exact u1 c1 c2 hl1
    · rw [z_b0 c2]
      refine z_if_ne (q := 26) (t := 28) ⟨by decide, by decide⟩ dX13_take_23 (by decide) rfl (fun c => absurd c (by decide)) (fun _ => ?_)
      refine z_iconst (q := 27) dX13_take_26 rfl ?_
      exact z_iret rfl dX13_take_27 ⟨hl0, u2 c1 c2⟩
  · rw [z_b0 c1]
    refine z_if_ne (q := 7) (t := 10) ⟨by decide, by decide⟩ dX13_take_4 (by decide) rfl (fun c => absurd c (by decide)) (fun _ => ?_)
    refine z_bipush (q := 9) dX13_take_7 rfl (by decide) ?_
    exact z_iret rfl dX13_take_9 ⟨hl0, u3 c1⟩
theorem b_X13_take_40 {D : zD} {d : Nat} {G : zG} {h : zH} {Q : zO → zG → zH → Prop} {x1 x2 x3 : Int} (p1 : z_in x3) (p2 : z_in (h 88 42)) (p3 : ¬ ((h 88 42) ≤ x3) → 0 ≤ ((4 * x1) + x3)) (p4 : ¬ ((h 88 42) ≤ x3) → ((4 * x1) + x3) < 240) (p5 : ¬ ((h 88 42) ≤ x3) → 0 ≤ ((12 * x2) + x3)) (p6 : ¬ ((h 88 42) ≤ x3) → ((12 * x2) + x3) < 108)
    (u1 : (h 88 42) ≤ x3 → Q (.inl (some (0, (h 88 42)))) G h)
    (u2 : ¬ ((h 88 42) ≤ x3) → z_Y D M_X13_take d 40 [(0, 2, 88), (1, 0, x1), (2, 0, x2), (3, 0, (x3 + 1))] [] G (z_wr (z_wr (z_wr h 96 ((12 * x2) + x3) (h 111 ((4 * x1) + x3))) 97 ((12 * x2) + x3) (h 112 ((4 * x1) + x3))) 98 ((12 * x2) + x3) (h 113 ((4 * x1) + x3))) Q) :
    z_Y D M_X13_take d 40 [(0, 2, 88), (1, 0, x1), (2, 0, x2), (3, 0, x3)] [] G h Q := by
  intro hl0
  refine z_iload_n (q := 41) 3 dX13_take_40 rfl rfl ?_
  refine z_aload_n (q := 42) 0 dX13_take_41 rfl rfl ?_
  refine z_gf (q := 45) (ki := 42) (v := (0, (h 88 42))) fX13_415 rfl rfl (hl0.i 88 (by decide) rfl) dX13_take_42 rfl ?_
  refine z_icmp_ge (q := 48) (t := 117) p1 p2 dX13_take_45 (by decide) rfl (fun c1 => ?_) (fun c1 => ?_)
  · refine z_aload_n (q := 118) 0 dX13_take_117 rfl rfl ?_
    refine z_gf (q := 121) (ki := 42) (v := (0, (h 88 42))) fX13_415 rfl rfl (hl0.i 88 (by decide) rfl) dX13_take_118 rfl ?_
    exact z_iret rfl dX13_take_121 ⟨hl0, u1 c1⟩
  · refine z_aload_n (q := 49) 0 dX13_take_48 rfl rfl ?_
    refine z_gf (q := 52) (ki := 9) (v := (2, 96)) fX13_32 rfl (z_ldr rfl (hl0.ref 88 rfl)) (hl0.i 88 (by decide) rfl) dX13_take_49 rfl ?_
    refine z_bipush (q := 54) dX13_take_52 rfl (by decide) ?_
    refine z_iload_n (q := 55) 2 dX13_take_54 rfl rfl ?_
    refine z_imul (q := 56) dX13_take_55 rfl ?_
    refine z_iload_n (q := 57) 3 dX13_take_56 rfl rfl ?_
    refine z_iadd (q := 58) dX13_take_57 rfl ?_
    refine z_aload_n (q := 59) 0 dX13_take_58 rfl rfl ?_
    refine z_gf (q := 62) (ki := 38) (v := (2, 111)) fX13_88 rfl (z_ldr rfl (hl0.ref 103 rfl)) (hl0.i 88 (by decide) rfl) dX13_take_59 rfl ?_
    refine z_iconst (q := 63) dX13_take_62 rfl ?_
    refine z_iload_n (q := 64) 1 dX13_take_63 rfl rfl ?_
    refine z_imul (q := 65) dX13_take_64 rfl ?_
    refine z_iload_n (q := 66) 3 dX13_take_65 rfl rfl ?_
    refine z_iadd (q := 67) dX13_take_66 rfl ?_
    refine z_iale (q := 68) (v := (h 111 ((4 * x1) + x3))) (hl0.a 111 (by decide) rfl) (p3 c1) (p4 c1) rfl dX13_take_67 rfl ?_
    refine z_isn (q := 69) (hl0.i 96 (by decide) rfl) (hl0.n 96 (by decide) rfl) (p5 c1) (p6 c1) dX13_take_68 rfl ?_
    have hl1 := hl0.wr (v := (h 111 ((4 * x1) + x3))) (hl0.i 96 (by decide) rfl) (i := ((12 * x2) + x3)) rfl
    refine z_aload_n (q := 70) 0 dX13_take_69 rfl rfl ?_
    refine z_gf (q := 73) (ki := 10) (v := (2, 97)) fX13_35 rfl (z_ldr rfl (hl1.ref 89 rfl)) (hl1.i 88 (by decide) rfl) dX13_take_70 rfl ?_
    refine z_bipush (q := 75) dX13_take_73 rfl (by decide) ?_
    refine z_iload_n (q := 76) 2 dX13_take_75 rfl rfl ?_
    refine z_imul (q := 77) dX13_take_76 rfl ?_
    refine z_iload_n (q := 78) 3 dX13_take_77 rfl rfl ?_
    refine z_iadd (q := 79) dX13_take_78 rfl ?_
    refine z_aload_n (q := 80) 0 dX13_take_79 rfl rfl ?_
    refine z_gf (q := 83) (ki := 39) (v := (2, 112)) fX13_91 rfl (z_ldr rfl (hl1.ref 104 rfl)) (hl1.i 88 (by decide) rfl) dX13_take_80 rfl ?_
    refine z_iconst (q := 84) dX13_take_83 rfl ?_
    refine z_iload_n (q := 85) 1 dX13_take_84 rfl rfl ?_
    refine z_imul (q := 86) dX13_take_85 rfl ?_
    refine z_iload_n (q := 87) 3 dX13_take_86 rfl rfl ?_
    refine z_iadd (q := 88) dX13_take_87 rfl ?_
    refine z_iale (q := 89) (v := (h 112 ((4 * x1) + x3))) (hl1.a 112 (by decide) rfl) (p3 c1) (p4 c1) (w_na (by decide)) dX13_take_88 rfl ?_
    refine z_isn (q := 90) (hl1.i 97 (by decide) rfl) (hl1.n 97 (by decide) rfl) (p5 c1) (p6 c1) dX13_take_89 rfl ?_
    have hl2 := hl1.wr (v := (h 112 ((4 * x1) + x3))) (hl1.i 97 (by decide) rfl) (i := ((12 * x2) + x3)) rfl
    refine z_aload_n (q := 91) 0 dX13_take_90 rfl rfl ?_
    refine z_gf (q := 94) (ki := 11) (v := (2, 98)) fX13_38 rfl (z_ldr rfl (hl2.ref 90 rfl)) (hl2.i 88 (by decide) rfl) dX13_take_91 rfl ?_
    refine z_bipush (q := 96) dX13_take_94 rfl (by decide) ?_
    refine z_iload_n (q := 97) 2 dX13_take_96 rfl rfl ?_
    refine z_imul (q := 98) dX13_take_97 rfl ?_
    refine z_iload_n (q := 99) 3 dX13_take_98 rfl rfl ?_
    refine z_iadd (q := 100) dX13_take_99 rfl ?_
    refine z_aload_n (q := 101) 0 dX13_take_100 rfl rfl ?_
    refine z_gf (q := 104) (ki := 40) (v := (2, 113)) fX13_94 rfl (z_ldr rfl (hl2.ref 105 rfl)) (hl2.i 88 (by decide) rfl) dX13_take_101 rfl ?_
    refine z_iconst (q := 105) dX13_take_104 rfl ?_
    refine z_iload_n (q := 106) 1 dX13_take_105 rfl rfl ?_
    refine z_imul (q := 107) dX13_take_106 rfl ?_
    refine z_iload_n (q := 108) 3 dX13_take_107 rfl rfl ?_
    refine z_iadd (q := 109) dX13_take_108 rfl ?_
    refine z_iale (q := 110) (v := (h 113 ((4 * x1) + x3))) (hl2.a 113 (by decide) rfl) (p3 c1) (p4 c1) ((w_na (by decide)).trans (w_na (by decide))) dX13_take_109 rfl ?_
    refine z_isn (q := 111) (hl2.i 98 (by decide) rfl) (hl2.n 98 (by decide) rfl) (p5 c1) (p6 c1) dX13_take_110 rfl ?_
    have hl3 := hl2.wr (v := (h 113 ((4 * x1) + x3))) (hl2.i 98 (by decide) rfl) (i := ((12 * x2) + x3)) rfl
    refine z_iinc (q := 114) (L' := [(0, 2, 88), (1, 0, x1), (2, 0, x2), (3, 0, (x3 + 1))]) 3 dX13_take_111 rfl rfl (by decide) rfl ?_
    refine z_goto (t := 40) dX13_take_114 (by decide) ?_
    exact u2 c1 hl3
