theorem b_X13_isSign_0 {D : zD} {d : Nat} {G : zG} {h : zH} {Q : zO → zG → zH → Prop} {x1 : Int} (p1 : z_in (h 88 18)) (p2 : ¬ (¬ (h 88 18) = 3) → 0 ≤ (h 88 16)) (p3 : ¬ (¬ (h 88 18) = 3) → (h 88 16) < 1000) (p4 : ¬ (¬ (h 88 18) = 3) → z_in (w8 (h 100 (h 88 16)))) (p5 : ¬ (¬ (h 88 18) = 3) → z_in x1)
    (u1 : ¬ (h 88 18) = 3 → Q (.inl (some (0, 0))) G h)
    (u2 : ¬ (¬ (h 88 18) = 3) → ¬ (w8 (h 100 (h 88 16))) = x1 → Q (.inl (some (0, 0))) G h)
    (u3 : ¬ (¬ (h 88 18) = 3) → ¬ (¬ (w8 (h 100 (h 88 16))) = x1) → Q (.inl (some (0, 1))) G h) :
    z_Y D M_X13_isSign d 0 [(0, 2, 88), (1, 0, x1)] [] G h Q := by
  intro hl0
  refine z_aload_n (q := 1) 0 dX13_isSign_0 rfl rfl ?_
  refine z_gf (q := 4) (ki := 18) (v := (0, (h 88 18))) fX13_261 rfl rfl (hl0.i 88 (by decide) rfl) dX13_isSign_1 rfl ?_
  refine z_iconst (q := 5) dX13_isSign_4 rfl ?_
  refine z_icmp_ne (q := 8) (t := 25) p1 ⟨by decide, by decide⟩ dX13_isSign_5 (by decide) rfl (fun c1 => ?_) (fun c1 => ?_)
  · refine z_iconst (q := 26) dX13_isSign_25 rfl ?_
    exact z_bret rfl (by decide) dX13_isSign_26 ⟨hl0, u1 c1⟩
  · refine z_aload_n (q := 9) 0 dX13_isSign_8 rfl rfl ?_
    refine z_gf (q := 12) (ki := 13) (v := (2, 100)) fX13_48 rfl (z_ldr rfl (hl0.ref 92 rfl)) (hl0.i 88 (by decide) rfl) dX13_isSign_9 rfl ?_
    refine z_aload_n (q := 13) 0 dX13_isSign_12 rfl rfl ?_
    refine z_gf (q := 16) (ki := 16) (v := (0, (h 88 16))) fX13_258 rfl rfl (hl0.i 88 (by decide) rfl) dX13_isSign_13 rfl ?_
    refine z_bale (q := 17) (v := (h 100 (h 88 16))) (hl0.a 100 (by decide) rfl) (p2 c1) (p3 c1) rfl dX13_isSign_16 rfl ?_
    refine z_iload_n (q := 18) 1 dX13_isSign_17 rfl rfl ?_
    refine z_icmp_ne (q := 21) (t := 25) (p4 c1) (p5 c1) dX13_isSign_18 (by decide) rfl (fun c2 => ?_) (fun c2 => ?_)
    · refine z_iconst (q := 26) dX13_isSign_25 rfl ?_
      exact z_bret rfl (by decide) dX13_isSign_26 ⟨hl0, u2 c1 c2⟩
    · refine z_iconst (q := 22) dX13_isSign_21 rfl ?_
      refine z_goto (t := 26) dX13_isSign_22 (by decide) ?_
      exact z_bret rfl (by decide) dX13_isSign_26 ⟨hl0, u3 c1 c2⟩
section SignA
variable {D : zD} {d : Nat} {G : zG} {h : zH} {Q : zO → zG → zH → Prop}
theorem w8_in (x : Int) : z_in (w8 x) := by unfold w8 z_in; omega
theorem a_X13_isSign (hd : 0 ≤ d) (c : Int) (hc : z_in c) (h18 : z_in (h 88 18)) (hp : h 88 18 = 3 → 0 ≤ h 88 16 ∧ h 88 16 < 1000) : z_Ei D M_X13_isSign d [(2, 88), (0, c)] G h (z_b (h 88 18 = 3 ∧ w8 (h 100 (h 88 16)) = c)) h :=
  z_begin mo_X13_isSign rfl (nle rfl) (b_X13_isSign_0 h18 (fun q => (hp (Classical.not_not.mp q)).1) (fun q => (hp (Classical.not_not.mp q)).2) (fun _ => w8_in _) (fun _ => hc) (fun q => ⟨by rw [z_b0 (fun w => q w.1)], rfl, rfl⟩) (fun _ q => ⟨by rw [z_b0 (fun w => q w.2)], rfl, rfl⟩) (fun q1 q => ⟨by rw [z_b1 ⟨Classical.not_not.mp q1, Classical.not_not.mp q⟩], rfl, rfl⟩))
end SignA
theorem b_X13_scan_0 {D : zD} {d : Nat} {G : zG} {h : zH} {Q : zO → zG → zH → Prop} (p1 : z_in (h 88 17)) (p2 : z_in (h 88 15)) (p3 : ¬ ((h 88 15) ≤ (h 88 17)) → 0 ≤ (h 88 17)) (p4 : ¬ ((h 88 15) ≤ (h 88 17)) → (h 88 17) < 1000) (p5 : ¬ ((h 88 15) ≤ (h 88 17)) → z_in (w8 (h 100 (h 88 17))))
    (u1 : (h 88 15) ≤ (h 88 17) → z_Y D M_X13_scan d 52 [(0, 2, 88)] [] G h Q)
    (u2 : ¬ ((h 88 15) ≤ (h 88 17)) → (w8 (h 100 (h 88 17))) = 32 → z_Y D M_X13_scan d 39 [(0, 2, 88)] [] G h Q)
    (u3 : ¬ ((h 88 15) ≤ (h 88 17)) → ¬ ((w8 (h 100 (h 88 17))) = 32) → ¬ (w8 (h 100 (h 88 17))) = 10 → z_Y D M_X13_scan d 52 [(0, 2, 88)] [] G h Q)
    (u4 : ¬ ((h 88 15) ≤ (h 88 17)) → ¬ ((w8 (h 100 (h 88 17))) = 32) → ¬ (¬ (w8 (h 100 (h 88 17))) = 10) → z_Y D M_X13_scan d 39 [(0, 2, 88)] [] G h Q) :
    z_Y D M_X13_scan d 0 [(0, 2, 88)] [] G h Q := by
  intro hl0
  refine z_aload_n (q := 1) 0 dX13_scan_0 rfl rfl ?_
  refine z_gf (q := 4) (ki := 17) (v := (0, (h 88 17))) fX13_242 rfl rfl (hl0.i 88 (by decide) rfl) dX13_scan_1 rfl ?_
  refine z_aload_n (q := 5) 0 dX13_scan_4 rfl rfl ?_
  refine z_gf (q := 8) (ki := 15) (v := (0, (h 88 15))) fX13_236 rfl rfl (hl0.i 88 (by decide) rfl) dX13_scan_5 rfl ?_
  refine z_icmp_ge (q := 11) (t := 52) p1 p2 dX13_scan_8 (by decide) rfl (fun c1 => ?_) (fun c1 => ?_)
  · exact u1 c1 hl0
  · refine z_aload_n (q := 12) 0 dX13_scan_11 rfl rfl ?_
    refine z_gf (q := 15) (ki := 13) (v := (2, 100)) fX13_48 rfl (z_ldr rfl (hl0.ref 92 rfl)) (hl0.i 88 (by decide) rfl) dX13_scan_12 rfl ?_
    refine z_aload_n (q := 16) 0 dX13_scan_15 rfl rfl ?_
    refine z_gf (q := 19) (ki := 17) (v := (0, (h 88 17))) fX13_242 rfl rfl (hl0.i 88 (by decide) rfl) dX13_scan_16 rfl ?_
    refine z_bale (q := 20) (v := (h 100 (h 88 17))) (hl0.a 100 (by decide) rfl) (p3 c1) (p4 c1) rfl dX13_scan_19 rfl ?_
    refine z_bipush (q := 22) dX13_scan_20 rfl (by decide) ?_
    refine z_icmp_eq (q := 25) (t := 39) (p5 c1) ⟨by decide, by decide⟩ dX13_scan_22 (by decide) rfl (fun c2 => ?_) (fun c2 => ?_)
    · exact u2 c1 c2 hl0
    · refine z_aload_n (q := 26) 0 dX13_scan_25 rfl rfl ?_
      refine z_gf (q := 29) (ki := 13) (v := (2, 100)) fX13_48 rfl (z_ldr rfl (hl0.ref 92 rfl)) (hl0.i 88 (by decide) rfl) dX13_scan_26 rfl ?_
      refine z_aload_n (q := 30) 0 dX13_scan_29 rfl rfl ?_
      refine z_gf (q := 33) (ki := 17) (v := (0, (h 88 17))) fX13_242 rfl rfl (hl0.i 88 (by decide) rfl) dX13_scan_30 rfl ?_
      refine z_bale (q := 34) (v := (h 100 (h 88 17))) (hl0.a 100 (by decide) rfl) (p3 c1) (p4 c1) rfl dX13_scan_33 rfl ?_
      refine z_bipush (q := 36) dX13_scan_34 rfl (by decide) ?_
      refine z_icmp_ne (q := 39) (t := 52) (p5 c1) ⟨by decide, by decide⟩ dX13_scan_36 (by decide) rfl (fun c3 => ?_) (fun c3 => ?_)
      · exact u3 c1 c2 c3 hl0
      · exact u4 c1 c2 c3 hl0
theorem b_X13_scan_52 {D : zD} {d : Nat} {G : zG} {h : zH} {Q : zO → zG → zH → Prop} (hd : 2 ≤ d) (p1 : z_in (h 88 17)) (p2 : z_in ((z_wr h 88 16 (h 88 17)) 88 15)) (p3 : 0 ≤ (h 88 17)) (p4 : ((z_wr h 88 16 (h 88 17)) 88 15) ≤ 1000) (p5 : z_in (h 88 15)) (p6 : ¬ (h 88 17) = (h 88 15) → z_in (zby (z_wr h 88 16 (h 88 17)) ((z_wr h 88 16 (h 88 17)) 88 15) (h 88 17)))
    (u1 : ¬ (h 88 17) = (h 88 15) → 97 ≤ (zby (z_wr h 88 16 (h 88 17)) ((z_wr h 88 16 (h 88 17)) 88 15) (h 88 17)) ∧ (zby (z_wr h 88 16 (h 88 17)) ((z_wr h 88 16 (h 88 17)) 88 15) (h 88 17)) ≤ 122 → z_Y D M_X13_scan d 103 [(0, 2, 88)] [] G (z_wr (z_wr h 88 16 (h 88 17)) 88 17 ((h 88 17) + 1)) Q)
    (u2 : ¬ (h 88 17) = (h 88 15) → ¬ (97 ≤ (zby (z_wr h 88 16 (h 88 17)) ((z_wr h 88 16 (h 88 17)) 88 15) (h 88 17)) ∧ (zby (z_wr h 88 16 (h 88 17)) ((z_wr h 88 16 (h 88 17)) 88 15) (h 88 17)) ≤ 122) → 48 ≤ (zby (z_wr h 88 16 (h 88 17)) ((z_wr h 88 16 (h 88 17)) 88 15) (h 88 17)) ∧ (zby (z_wr h 88 16 (h 88 17)) ((z_wr h 88 16 (h 88 17)) 88 15) (h 88 17)) ≤ 57 → Q (.inl none) G (z_wr (z_wr (z_wr h 88 16 (h 88 17)) 88 17 ((h 88 17) + 1)) 88 18 2))
    (u3 : ¬ (h 88 17) = (h 88 15) → ¬ (97 ≤ (zby (z_wr h 88 16 (h 88 17)) ((z_wr h 88 16 (h 88 17)) 88 15) (h 88 17)) ∧ (zby (z_wr h 88 16 (h 88 17)) ((z_wr h 88 16 (h 88 17)) 88 15) (h 88 17)) ≤ 122) → ¬ (48 ≤ (zby (z_wr h 88 16 (h 88 17)) ((z_wr h 88 16 (h 88 17)) 88 15) (h 88 17)) ∧ (zby (z_wr h 88 16 (h 88 17)) ((z_wr h 88 16 (h 88 17)) 88 15) (h 88 17)) ≤ 57) → ¬ zmk (zby (z_wr h 88 16 (h 88 17)) ((z_wr h 88 16 (h 88 17)) 88 15) (h 88 17)) = -1 → Q (.inl none) G (z_wr (z_wr (z_wr h 88 16 (h 88 17)) 88 17 ((h 88 17) + 1)) 88 18 4))
    (u4 : ¬ (h 88 17) = (h 88 15) → ¬ (97 ≤ (zby (z_wr h 88 16 (h 88 17)) ((z_wr h 88 16 (h 88 17)) 88 15) (h 88 17)) ∧ (zby (z_wr h 88 16 (h 88 17)) ((z_wr h 88 16 (h 88 17)) 88 15) (h 88 17)) ≤ 122) → ¬ (48 ≤ (zby (z_wr h 88 16 (h 88 17)) ((z_wr h 88 16 (h 88 17)) 88 15) (h 88 17)) ∧ (zby (z_wr h 88 16 (h 88 17)) ((z_wr h 88 16 (h 88 17)) 88 15) (h 88 17)) ≤ 57) → ¬ (¬ zmk (zby (z_wr h 88 16 (h 88 17)) ((z_wr h 88 16 (h 88 17)) 88 15) (h 88 17)) = -1) → (zby (z_wr h 88 16 (h 88 17)) ((z_wr h 88 16 (h 88 17)) 88 15) (h 88 17)) = 123 → Q (.inl none) G (z_wr (z_wr (z_wr h 88 16 (h 88 17)) 88 17 ((h 88 17) + 1)) 88 18 3))
    (u5 : ¬ (h 88 17) = (h 88 15) → ¬ (97 ≤ (zby (z_wr h 88 16 (h 88 17)) ((z_wr h 88 16 (h 88 17)) 88 15) (h 88 17)) ∧ (zby (z_wr h 88 16 (h 88 17)) ((z_wr h 88 16 (h 88 17)) 88 15) (h 88 17)) ≤ 122) → ¬ (48 ≤ (zby (z_wr h 88 16 (h 88 17)) ((z_wr h 88 16 (h 88 17)) 88 15) (h 88 17)) ∧ (zby (z_wr h 88 16 (h 88 17)) ((z_wr h 88 16 (h 88 17)) 88 15) (h 88 17)) ≤ 57) → ¬ (¬ zmk (zby (z_wr h 88 16 (h 88 17)) ((z_wr h 88 16 (h 88 17)) 88 15) (h 88 17)) = -1) → ¬ ((zby (z_wr h 88 16 (h 88 17)) ((z_wr h 88 16 (h 88 17)) 88 15) (h 88 17)) = 123) → (zby (z_wr h 88 16 (h 88 17)) ((z_wr h 88 16 (h 88 17)) 88 15) (h 88 17)) = 125 → Q (.inl none) G (z_wr (z_wr (z_wr h 88 16 (h 88 17)) 88 17 ((h 88 17) + 1)) 88 18 3))
    (u6 : ¬ (h 88 17) = (h 88 15) → ¬ (97 ≤ (zby (z_wr h 88 16 (h 88 17)) ((z_wr h 88 16 (h 88 17)) 88 15) (h 88 17)) ∧ (zby (z_wr h 88 16 (h 88 17)) ((z_wr h 88 16 (h 88 17)) 88 15) (h 88 17)) ≤ 122) → ¬ (48 ≤ (zby (z_wr h 88 16 (h 88 17)) ((z_wr h 88 16 (h 88 17)) 88 15) (h 88 17)) ∧ (zby (z_wr h 88 16 (h 88 17)) ((z_wr h 88 16 (h 88 17)) 88 15) (h 88 17)) ≤ 57) → ¬ (¬ zmk (zby (z_wr h 88 16 (h 88 17)) ((z_wr h 88 16 (h 88 17)) 88 15) (h 88 17)) = -1) → ¬ ((zby (z_wr h 88 16 (h 88 17)) ((z_wr h 88 16 (h 88 17)) 88 15) (h 88 17)) = 123) → ¬ ((zby (z_wr h 88 16 (h 88 17)) ((z_wr h 88 16 (h 88 17)) 88 15) (h 88 17)) = 125) → ¬ (zby (z_wr h 88 16 (h 88 17)) ((z_wr h 88 16 (h 88 17)) 88 15) (h 88 17)) = 59 → Q (.inl none) G (z_wr (z_wr (z_wr h 88 16 (h 88 17)) 88 17 ((h 88 17) + 1)) 88 18 5))
    (u7 : ¬ (h 88 17) = (h 88 15) → ¬ (97 ≤ (zby (z_wr h 88 16 (h 88 17)) ((z_wr h 88 16 (h 88 17)) 88 15) (h 88 17)) ∧ (zby (z_wr h 88 16 (h 88 17)) ((z_wr h 88 16 (h 88 17)) 88 15) (h 88 17)) ≤ 122) → ¬ (48 ≤ (zby (z_wr h 88 16 (h 88 17)) ((z_wr h 88 16 (h 88 17)) 88 15) (h 88 17)) ∧ (zby (z_wr h 88 16 (h 88 17)) ((z_wr h 88 16 (h 88 17)) 88 15) (h 88 17)) ≤ 57) → ¬ (¬ zmk (zby (z_wr h 88 16 (h 88 17)) ((z_wr h 88 16 (h 88 17)) 88 15) (h 88 17)) = -1) → ¬ ((zby (z_wr h 88 16 (h 88 17)) ((z_wr h 88 16 (h 88 17)) 88 15) (h 88 17)) = 123) → ¬ ((zby (z_wr h 88 16 (h 88 17)) ((z_wr h 88 16 (h 88 17)) 88 15) (h 88 17)) = 125) → ¬ (¬ (zby (z_wr h 88 16 (h 88 17)) ((z_wr h 88 16 (h 88 17)) 88 15) (h 88 17)) = 59) → Q (.inl none) G (z_wr (z_wr (z_wr h 88 16 (h 88 17)) 88 17 ((h 88 17) + 1)) 88 18 3))
    (u8 : ¬ (¬ (h 88 17) = (h 88 15)) → Q (.inl none) G (z_wr (z_wr h 88 16 (h 88 17)) 88 18 0)) :
    z_Y D M_X13_scan d 52 [(0, 2, 88)] [] G h Q := by
  intro hl0
  refine z_aload_n (q := 53) 0 dX13_scan_52 rfl rfl ?_
  refine z_aload_n (q := 54) 0 dX13_scan_53 rfl rfl ?_
  refine z_gf (q := 57) (ki := 17) (v := (0, (h 88 17))) fX13_242 rfl rfl (hl0.i 88 (by decide) rfl) dX13_scan_54 rfl ?_
  refine z_pf (q := 60) (ki := 16) fX13_258 rfl (z_sv0 rfl) (hl0.i 88 (by decide) rfl) dX13_scan_57 rfl ?_
  have hl1 := hl0.wr (v := (h 88 17)) (hl0.i 88 (by decide) rfl) (i := 16) (by decide)
  refine z_aload_n (q := 61) 0 dX13_scan_60 rfl rfl ?_
  refine z_aload_n (q := 62) 0 dX13_scan_61 rfl rfl ?_
  refine z_gf (q := 65) (ki := 16) (v := (0, (h 88 17))) fX13_258 rfl (z_ldi rfl w_s) (hl1.i 88 (by decide) rfl) dX13_scan_62 rfl ?_
  have e1 := a_X13_byteAt (D := D) (G := G) (h := (z_wr h 88 16 (h 88 17))) (d := d - 1) (by omega) (h 88 17) p1 p2 p3 p4
  refine z_goV (q := 68) (av := [(0, (h 88 17))]) (rest := []) cb11 (hl1.i 88 (by decide) rfl) (z_toi) hl1 (z_Ei.K e1 (by omega) ?_) mo_X13_byteAt np_X13_byteAt k1323 k1325 k45 rfl (nle rfl) dX13_scan_65 rfl
  refine z_istore_n (q := 69) (L' := [(0, 2, 88), (1, 0, (zby (z_wr h 88 16 (h 88 17)) ((z_wr h 88 16 (h 88 17)) 88 15) (h 88 17)))]) dX13_scan_68 rfl (by decide) rfl ?_
  refine z_aload_n (q := 70) 0 dX13_scan_69 rfl rfl ?_
  refine z_gf (q := 73) (ki := 16) (v := (0, (h 88 17))) fX13_258 rfl (z_ldi rfl w_s) (hl1.i 88 (by decide) rfl) dX13_scan_70 rfl ?_
  refine z_aload_n (q := 74) 0 dX13_scan_73 rfl rfl ?_
  refine z_gf (q := 77) (ki := 15) (v := (0, (h 88 15))) fX13_236 rfl (z_ldi rfl (w_nj (by decide))) (hl1.i 88 (by decide) rfl) dX13_scan_74 rfl ?_
  refine z_icmp_ne (q := 80) (t := 86) p1 p5 dX13_scan_77 (by decide) rfl (fun c1 => ?_) (fun c1 => ?_)
  · refine z_aload_n (q := 87) 0 dX13_scan_86 rfl rfl ?_
    refine z_dup (q := 88) (by decide) dX13_scan_87 rfl ?_
    refine z_gf (q := 91) (ki := 17) (v := (0, (h 88 17))) fX13_242 rfl (z_ldi rfl (w_nj (by decide))) (hl1.i 88 (by decide) rfl) dX13_scan_88 rfl ?_
    refine z_iconst (q := 92) dX13_scan_91 rfl ?_
    refine z_iadd (q := 93) dX13_scan_92 rfl ?_
    refine z_pf (q := 96) (ki := 17) fX13_242 rfl (z_sv0 rfl) (hl1.i 88 (by decide) rfl) dX13_scan_93 rfl ?_
    have hl2 := hl1.wr (v := ((h 88 17) + 1)) (hl1.i 88 (by decide) rfl) (i := 17) (by decide)
    refine z_iload_n (q := 97) 1 dX13_scan_96 rfl rfl ?_
    have e2 := a_X13_isLetter (D := D) (G := G) (h := (z_wr (z_wr h 88 16 (h 88 17)) 88 17 ((h 88 17) + 1))) (d := d - 1) (by omega) (zby (z_wr h 88 16 (h 88 17)) ((z_wr h 88 16 (h 88 17)) 88 15) (h 88 17)) (p6 c1)
    refine z_goS (q := 100) (av := [(0, (zby (z_wr h 88 16 (h 88 17)) ((z_wr h 88 16 (h 88 17)) 88 15) (h 88 17)))]) (rest := []) (z_toi) hl2 (z_Ei.K e2 (by omega) ?_) mo_X13_isLetter np_X13_isLetter k1328 k1329 rfl (nle rfl) dX13_scan_97 rfl
    by_cases c2 : 97 ≤ (zby (z_wr h 88 16 (h 88 17)) ((z_wr h 88 16 (h 88 17)) 88 15) (h 88 17)) ∧ (zby (z_wr h 88 16 (h 88 17)) ((z_wr h 88 16 (h 88 17)) 88 15) (h 88 17)) ≤ 122
    · rw [z_b1 c2]
      refine z_if_eq (q := 103) (t := 138) ⟨by decide, by decide⟩ dX13_scan_100 (by decide) rfl (fun c => absurd c (by decide)) (fun _ => ?_)
      refine z_sub (L' := [(0, 2, 88)]) [0] rfl ?_
      exact u1 c1 c2 hl2
    · rw [z_b0 c2]
      refine z_if_eq (q := 103) (t := 138) ⟨by decide, by decide⟩ dX13_scan_100 (by decide) rfl (fun _ => ?_) (fun c => absurd c (by decide))
      refine z_aload_n (q := 139) 0 dX13_scan_138 rfl rfl ?_
      refine z_iload_n (q := 140) 1 dX13_scan_139 rfl rfl ?_
      have e3 := a_X13_isDigit (D := D) (G := G) (h := (z_wr (z_wr h 88 16 (h 88 17)) 88 17 ((h 88 17) + 1))) (d := d - 1) (by omega) (zby (z_wr h 88 16 (h 88 17)) ((z_wr h 88 16 (h 88 17)) 88 15) (h 88 17)) (p6 c1)
      refine z_goS (q := 143) (av := [(0, (zby (z_wr h 88 16 (h 88 17)) ((z_wr h 88 16 (h 88 17)) 88 15) (h 88 17)))]) (rest := [(2, 88)]) (z_toi) hl2 (z_Ei.K e3 (by omega) ?_) mo_X13_isDigit np_X13_isDigit k1331 k1332 rfl (nle rfl) dX13_scan_140 rfl
      by_cases c3 : 48 ≤ (zby (z_wr h 88 16 (h 88 17)) ((z_wr h 88 16 (h 88 17)) 88 15) (h 88 17)) ∧ (zby (z_wr h 88 16 (h 88 17)) ((z_wr h 88 16 (h 88 17)) 88 15) (h 88 17)) ≤ 57
      · rw [z_b1 c3]
        refine z_if_eq (q := 146) (t := 150) ⟨by decide, by decide⟩ dX13_scan_143 (by decide) rfl (fun c => absurd c (by decide)) (fun _ => ?_)
        refine z_iconst (q := 147) dX13_scan_146 rfl ?_
        refine z_goto (t := 184) dX13_scan_147 (by decide) ?_
        refine z_pf (q := 187) (ki := 18) fX13_261 rfl (z_sv0 rfl) (hl2.i 88 (by decide) rfl) dX13_scan_184 rfl ?_
        have hl3 := hl2.wr (v := 2) (hl2.i 88 (by decide) rfl) (i := 18) (by decide)
        exact z_vret rfl dX13_scan_187 ⟨hl3, u2 c1 c2 c3⟩
      · rw [z_b0 c3]
        refine z_if_eq (q := 146) (t := 150) ⟨by decide, by decide⟩ dX13_scan_143 (by decide) rfl (fun _ => ?_) (fun c => absurd c (by decide))
        refine z_iload_n (q := 151) 1 dX13_scan_150 rfl rfl ?_
        have e4 := a_X13_isMark (D := D) (G := G) (h := (z_wr (z_wr h 88 16 (h 88 17)) 88 17 ((h 88 17) + 1))) (d := d - 1) (by omega) (zby (z_wr h 88 16 (h 88 17)) ((z_wr h 88 16 (h 88 17)) 88 15) (h 88 17)) (p6 c1)
        refine z_goS (q := 154) (av := [(0, (zby (z_wr h 88 16 (h 88 17)) ((z_wr h 88 16 (h 88 17)) 88 15) (h 88 17)))]) (rest := [(2, 88)]) (z_toi) hl2 (z_Ei.K e4 (by omega) ?_) mo_X13_isMark np_X13_isMark k1334 k1335 rfl (nle rfl) dX13_scan_151 rfl
        by_cases c4 : ¬ zmk (zby (z_wr h 88 16 (h 88 17)) ((z_wr h 88 16 (h 88 17)) 88 15) (h 88 17)) = -1
        · rw [z_b1 c4]
          refine z_if_eq (q := 157) (t := 161) ⟨by decide, by decide⟩ dX13_scan_154 (by decide) rfl (fun c => absurd c (by decide)) (fun _ => ?_)
          refine z_iconst (q := 158) dX13_scan_157 rfl ?_
          refine z_goto (t := 184) dX13_scan_158 (by decide) ?_
          refine z_pf (q := 187) (ki := 18) fX13_261 rfl (z_sv0 rfl) (hl2.i 88 (by decide) rfl) dX13_scan_184 rfl ?_
          have hl3 := hl2.wr (v := 4) (hl2.i 88 (by decide) rfl) (i := 18) (by decide)
          exact z_vret rfl dX13_scan_187 ⟨hl3, u3 c1 c2 c3 c4⟩
        · rw [z_b0 c4]
          refine z_if_eq (q := 157) (t := 161) ⟨by decide, by decide⟩ dX13_scan_154 (by decide) rfl (fun _ => ?_) (fun c => absurd c (by decide))
          refine z_iload_n (q := 162) 1 dX13_scan_161 rfl rfl ?_
          refine z_bipush (q := 164) dX13_scan_162 rfl (by decide) ?_
          refine z_icmp_eq (q := 167) (t := 179) (p6 c1) ⟨by decide, by decide⟩ dX13_scan_164 (by decide) rfl (fun c5 => ?_) (fun c5 => ?_)
          · refine z_iconst (q := 180) dX13_scan_179 rfl ?_
            refine z_goto (t := 184) dX13_scan_180 (by decide) ?_
            refine z_pf (q := 187) (ki := 18) fX13_261 rfl (z_sv0 rfl) (hl2.i 88 (by decide) rfl) dX13_scan_184 rfl ?_
            have hl3 := hl2.wr (v := 3) (hl2.i 88 (by decide) rfl) (i := 18) (by decide)
            exact z_vret rfl dX13_scan_187 ⟨hl3, u4 c1 c2 c3 c4 c5⟩
          · refine z_iload_n (q := 168) 1 dX13_scan_167 rfl rfl ?_
            refine z_bipush (q := 170) dX13_scan_168 rfl (by decide) ?_
            refine z_icmp_eq (q := 173) (t := 179) (p6 c1) ⟨by decide, by decide⟩ dX13_scan_170 (by decide) rfl (fun c6 => ?_) (fun c6 => ?_)
            · refine z_iconst (q := 180) dX13_scan_179 rfl ?_
              refine z_goto (t := 184) dX13_scan_180 (by decide) ?_
              refine z_pf (q := 187) (ki := 18) fX13_261 rfl (z_sv0 rfl) (hl2.i 88 (by decide) rfl) dX13_scan_184 rfl ?_
              have hl3 := hl2.wr (v := 3) (hl2.i 88 (by decide) rfl) (i := 18) (by decide)
              exact z_vret rfl dX13_scan_187 ⟨hl3, u5 c1 c2 c3 c4 c5 c6⟩
            · refine z_iload_n (q := 174) 1 dX13_scan_173 rfl rfl ?_
              refine z_bipush (q := 176) dX13_scan_174 rfl (by decide) ?_
              refine z_icmp_ne (q := 179) (t := 183) (p6 c1) ⟨by decide, by decide⟩ dX13_scan_176 (by decide) rfl (fun c7 => ?_) (fun c7 => ?_)
              · refine z_iconst (q := 184) dX13_scan_183 rfl ?_
                refine z_pf (q := 187) (ki := 18) fX13_261 rfl (z_sv0 rfl) (hl2.i 88 (by decide) rfl) dX13_scan_184 rfl ?_
                have hl3 := hl2.wr (v := 5) (hl2.i 88 (by decide) rfl) (i := 18) (by decide)
                exact z_vret rfl dX13_scan_187 ⟨hl3, u6 c1 c2 c3 c4 c5 c6 c7⟩
              · refine z_iconst (q := 180) dX13_scan_179 rfl ?_
                refine z_goto (t := 184) dX13_scan_180 (by decide) ?_
                refine z_pf (q := 187) (ki := 18) fX13_261 rfl (z_sv0 rfl) (hl2.i 88 (by decide) rfl) dX13_scan_184 rfl ?_
                have hl3 := hl2.wr (v := 3) (hl2.i 88 (by decide) rfl) (i := 18) (by decide)
                exact z_vret rfl dX13_scan_187 ⟨hl3, u7 c1 c2 c3 c4 c5 c6 c7⟩
  · refine z_aload_n (q := 81) 0 dX13_scan_80 rfl rfl ?_
    refine z_iconst (q := 82) dX13_scan_81 rfl ?_
    refine z_pf (q := 85) (ki := 18) fX13_261 rfl (z_sv0 rfl) (hl1.i 88 (by decide) rfl) dX13_scan_82 rfl ?_
    have hl2 := hl1.wr (v := 0) (hl1.i 88 (by decide) rfl) (i := 18) (by decide)
    exact z_vret rfl dX13_scan_85 ⟨hl2, u8 c1⟩
theorem b_X13_scan_39 {D : zD} {d : Nat} {G : zG} {h : zH} {Q : zO → zG → zH → Prop}
    (u1 : z_Y D M_X13_scan d 0 [(0, 2, 88)] [] G (z_wr h 88 17 ((h 88 17) + 1)) Q) :
    z_Y D M_X13_scan d 39 [(0, 2, 88)] [] G h Q := by
  intro hl0
  refine z_aload_n (q := 40) 0 dX13_scan_39 rfl rfl ?_
  refine z_dup (q := 41) (by decide) dX13_scan_40 rfl ?_
  refine z_gf (q := 44) (ki := 17) (v := (0, (h 88 17))) fX13_242 rfl rfl (hl0.i 88 (by decide) rfl) dX13_scan_41 rfl ?_
  refine z_iconst (q := 45) dX13_scan_44 rfl ?_
  refine z_iadd (q := 46) dX13_scan_45 rfl ?_
  refine z_pf (q := 49) (ki := 17) fX13_242 rfl (z_sv0 rfl) (hl0.i 88 (by decide) rfl) dX13_scan_46 rfl ?_
  have hl1 := hl0.wr (v := ((h 88 17) + 1)) (hl0.i 88 (by decide) rfl) (i := 17) (by decide)
  refine z_goto (t := 0) dX13_scan_49 (by decide) ?_
  exact u1 hl1
theorem b_X13_scan_103 {D : zD} {d : Nat} {G : zG} {h : zH} {Q : zO → zG → zH → Prop} (hd : 2 ≤ d) (p1 : z_in (h 88 17)) (p2 : z_in (h 88 15)) (p3 : 0 ≤ (h 88 17)) (p4 : (h 88 15) ≤ 1000) (p5 : z_in (zby h (h 88 15) (h 88 17)))
    (u1 : 97 ≤ (zby h (h 88 15) (h 88 17)) ∧ (zby h (h 88 15) (h 88 17)) ≤ 122 → z_Y D M_X13_scan d 103 [(0, 2, 88)] [] G (z_wr h 88 17 ((h 88 17) + 1)) Q)
    (u2 : ¬ (97 ≤ (zby h (h 88 15) (h 88 17)) ∧ (zby h (h 88 15) (h 88 17)) ≤ 122) → Q (.inl none) G (z_wr h 88 18 1)) :
    z_Y D M_X13_scan d 103 [(0, 2, 88)] [] G h Q := by
  intro hl0
  refine z_aload_n (q := 104) 0 dX13_scan_103 rfl rfl ?_
  refine z_aload_n (q := 105) 0 dX13_scan_104 rfl rfl ?_
  refine z_gf (q := 108) (ki := 17) (v := (0, (h 88 17))) fX13_242 rfl rfl (hl0.i 88 (by decide) rfl) dX13_scan_105 rfl ?_
  have e1 := a_X13_byteAt (D := D) (G := G) (h := h) (d := d - 1) (by omega) (h 88 17) p1 p2 p3 p4
  refine z_goV (q := 111) (av := [(0, (h 88 17))]) (rest := []) cb11 (hl0.i 88 (by decide) rfl) (z_toi) hl0 (z_Ei.K e1 (by omega) ?_) mo_X13_byteAt np_X13_byteAt k1323 k1325 k45 rfl (nle rfl) dX13_scan_108 rfl
  have e2 := a_X13_isLetter (D := D) (G := G) (h := h) (d := d - 1) (by omega) (zby h (h 88 15) (h 88 17)) p5
  refine z_goS (q := 114) (av := [(0, (zby h (h 88 15) (h 88 17)))]) (rest := []) (z_toi) hl0 (z_Ei.K e2 (by omega) ?_) mo_X13_isLetter np_X13_isLetter k1328 k1329 rfl (nle rfl) dX13_scan_111 rfl
  by_cases c1 : 97 ≤ (zby h (h 88 15) (h 88 17)) ∧ (zby h (h 88 15) (h 88 17)) ≤ 122
  · rw [z_b1 c1]
    refine z_if_eq (q := 117) (t := 130) ⟨by decide, by decide⟩ dX13_scan_114 (by decide) rfl (fun c => absurd c (by decide)) (fun _ => ?_)
    refine z_aload_n (q := 118) 0 dX13_scan_117 rfl rfl ?_
    refine z_dup (q := 119) (by decide) dX13_scan_118 rfl ?_
    refine z_gf (q := 122) (ki := 17) (v := (0, (h 88 17))) fX13_242 rfl rfl (hl0.i 88 (by decide) rfl) dX13_scan_119 rfl ?_
    refine z_iconst (q := 123) dX13_scan_122 rfl ?_
    refine z_iadd (q := 124) dX13_scan_123 rfl ?_
    refine z_pf (q := 127) (ki := 17) fX13_242 rfl (z_sv0 rfl) (hl0.i 88 (by decide) rfl) dX13_scan_124 rfl ?_
    have hl1 := hl0.wr (v := ((h 88 17) + 1)) (hl0.i 88 (by decide) rfl) (i := 17) (by decide)
    refine z_goto (t := 103) dX13_scan_127 (by decide) ?_
    exact u1 c1 hl1
  · rw [z_b0 c1]
    refine z_if_eq (q := 117) (t := 130) ⟨by decide, by decide⟩ dX13_scan_114 (by decide) rfl (fun _ => ?_) (fun c => absurd c (by decide))
    refine z_aload_n (q := 131) 0 dX13_scan_130 rfl rfl ?_
    refine z_iconst (q := 132) dX13_scan_131 rfl ?_
    refine z_pf (q := 135) (ki := 18) fX13_261 rfl (z_sv0 rfl) (hl0.i 88 (by decide) rfl) dX13_scan_132 rfl ?_
    have hl1 := hl0.wr (v := 1) (hl0.i 88 (by decide) rfl) (i := 18) (by decide)
    refine z_goto (t := 187) dX13_scan_135 (by decide) ?_
    exact z_vret rfl dX13_scan_187 ⟨hl1, u2 c1⟩
theorem b_X13_needSign_0 {D : zD} {d : Nat} {G : zG} {h : zH} {Q : zO → zG → zH → Prop} {x1 : Int} (hd : 2 ≤ d) (p1 : z_in x1) (p2 : z_in (h 88 18)) (p3 : (h 88 18) = 3 → 0 ≤ (h 88 16) ∧ (h 88 16) < 1000)
    (u1 : (h 88 18) = 3 ∧ w8 (h 100 (h 88 16)) = x1 → z_Kv D M_X13_scan d [(2, 88)] G h (fun G' h' => z_Y D M_X13_needSign d 22 [] [] G' h' Q))
    (u2 : ¬ ((h 88 18) = 3 ∧ w8 (h 100 (h 88 16)) = x1) → z_Ka D M_X13_wrong d [(2, 88), (0, 1), (0, (h 88 16))] G h (fun r G' h' => z_Y D M_X13_needSign d 17 [] [(2, r)] G' h' Q)) :
    z_Y D M_X13_needSign d 0 [(0, 2, 88), (1, 0, x1)] [] G h Q := by
  intro hl0
  refine z_aload_n (q := 1) 0 dX13_needSign_0 rfl rfl ?_
  refine z_iload_n (q := 2) 1 dX13_needSign_1 rfl rfl ?_
  have e1 := a_X13_isSign (D := D) (G := G) (h := h) (d := d - 1) (by omega) x1 p1 p2 p3
  refine z_goV (q := 5) (av := [(0, x1)]) (rest := []) cb11 (hl0.i 88 (by decide) rfl) (z_toi) hl0 (z_Ei.K e1 (by omega) ?_) mo_X13_isSign np_X13_isSign k1367 k1369 k51 rfl (nle rfl) dX13_needSign_2 rfl
  by_cases c1 : (h 88 18) = 3 ∧ w8 (h 100 (h 88 16)) = x1
  · rw [z_b1 c1]
    refine z_if_ne (q := 8) (t := 18) ⟨by decide, by decide⟩ dX13_needSign_5 (by decide) rfl (fun _ => ?_) (fun c => absurd c (by decide))
    refine z_aload_n (q := 19) 0 dX13_needSign_18 rfl rfl ?_
    refine z_sub (L' := []) [] rfl ?_
    exact z_goV (q := 22) (av := []) (rest := []) cb11 (hl0.i 88 (by decide) rfl) z_tov hl0 (u1 c1) mo_X13_scan np_X13_scan k1359 k1361 k49 rfl (nle rfl) dX13_needSign_19 rfl
  · rw [z_b0 c1]
    refine z_if_ne (q := 8) (t := 18) ⟨by decide, by decide⟩ dX13_needSign_5 (by decide) rfl (fun c => absurd c (by decide)) (fun _ => ?_)
    refine z_aload_n (q := 9) 0 dX13_needSign_8 rfl rfl ?_
    refine z_iconst (q := 10) dX13_needSign_9 rfl ?_
    refine z_aload_n (q := 11) 0 dX13_needSign_10 rfl rfl ?_
    refine z_gf (q := 14) (ki := 16) (v := (0, (h 88 16))) fX13_258 rfl rfl (hl0.i 88 (by decide) rfl) dX13_needSign_11 rfl ?_
    refine z_sub (L' := []) [] rfl ?_
    exact z_goV (q := 17) (av := [(0, 1), (0, (h 88 16))]) (rest := []) cb11 (hl0.i 88 (by decide) rfl) z_toa hl0 (u2 c1) mo_X13_wrong np_X13_wrong k1337 k1339 k46 rfl (nle rfl) dX13_needSign_14 rfl
theorem b_X13_needSign_22 {D : zD} {d : Nat} {G : zG} {h : zH} {Q : zO → zG → zH → Prop}
    (u1 : Q (.inl none) G h) :
    z_Y D M_X13_needSign d 22 [] [] G h Q := by
  intro hl0
  exact z_vret rfl dX13_needSign_22 ⟨hl0, u1⟩
theorem b_X13_needSign_17 {D : zD} {d : Nat} {G : zG} {h : zH} {Q : zO → zG → zH → Prop} {s0 : Int} (p1 : ¬ s0 = -1)
    (u1 : Q (.inr s0) G h) :
    z_Y D M_X13_needSign d 17 [] [(2, s0)] G h Q := by
  intro hl0
  exact z_throw p1 dX13_needSign_17 (z_Y.out (by decide) u1 hl0)
theorem b_X13_digit_0 {D : zD} {d : Nat} {G : zG} {h : zH} {Q : zO → zG → zH → Prop} {x1 x2 : Int} (hd : 2 ≤ d) (p1 : z_in (h 88 18)) (p2 : (h 88 18) = 2 → 0 ≤ (h 88 16)) (p3 : (h 88 18) = 2 → (h 88 16) < 1000) (p4 : (h 88 18) = 2 → z_in ((w8 (h 100 (h 88 16))) - 48)) (p5 : (h 88 18) = 2 → z_in x1) (p6 : (h 88 18) = 2 → z_in x2) (p7 : (h 88 18) = 2 → z_in64 ((w8 (h 100 (h 88 16))) - 48)) (p8 : (h 88 18) = 2 → z_in64 x1) (p9 : (h 88 18) = 2 → z_in64 x2)
    (u1 : (h 88 18) = 2 → x1 ≤ ((w8 (h 100 (h 88 16))) - 48) ∧ ((w8 (h 100 (h 88 16))) - 48) ≤ x2 → z_Kv D M_X13_scan d [(2, 88)] G h (fun G' h' => z_Y D M_X13_digit d 57 [(3, 0, ((w8 (h 100 (h 88 16))) - 48))] [] G' h' Q))
    (u2 : (h 88 18) = 2 → ¬ (x1 ≤ ((w8 (h 100 (h 88 16))) - 48) ∧ ((w8 (h 100 (h 88 16))) - 48) ≤ x2) → z_Ka D M_X13_wrong d [(2, 88), (0, 2), (0, (h 88 16))] G h (fun r G' h' => z_Y D M_X13_digit d 52 [] [(2, r)] G' h' Q))
    (u3 : ¬ ((h 88 18) = 2) → z_Ka D M_X13_wrong d [(2, 88), (0, 1), (0, (h 88 16))] G h (fun r G' h' => z_Y D M_X13_digit d 17 [] [(2, r)] G' h' Q)) :
    z_Y D M_X13_digit d 0 [(0, 2, 88), (1, 0, x1), (2, 0, x2)] [] G h Q := by
  intro hl0
  refine z_aload_n (q := 1) 0 dX13_digit_0 rfl rfl ?_
  refine z_gf (q := 4) (ki := 18) (v := (0, (h 88 18))) fX13_261 rfl rfl (hl0.i 88 (by decide) rfl) dX13_digit_1 rfl ?_
  refine z_iconst (q := 5) dX13_digit_4 rfl ?_
  refine z_icmp_eq (q := 8) (t := 18) p1 ⟨by decide, by decide⟩ dX13_digit_5 (by decide) rfl (fun c1 => ?_) (fun c1 => ?_)
  · refine z_aload_n (q := 19) 0 dX13_digit_18 rfl rfl ?_
    refine z_gf (q := 22) (ki := 13) (v := (2, 100)) fX13_48 rfl (z_ldr rfl (hl0.ref 92 rfl)) (hl0.i 88 (by decide) rfl) dX13_digit_19 rfl ?_
    refine z_aload_n (q := 23) 0 dX13_digit_22 rfl rfl ?_
    refine z_gf (q := 26) (ki := 16) (v := (0, (h 88 16))) fX13_258 rfl rfl (hl0.i 88 (by decide) rfl) dX13_digit_23 rfl ?_
    refine z_bale (q := 27) (v := (h 100 (h 88 16))) (hl0.a 100 (by decide) rfl) (p2 c1) (p3 c1) rfl dX13_digit_26 rfl ?_
    refine z_bipush (q := 29) dX13_digit_27 rfl (by decide) ?_
    refine z_isub (q := 30) dX13_digit_29 rfl ?_
    refine z_istore_n (q := 31) (L' := [(0, 2, 88), (1, 0, x1), (2, 0, x2), (3, 0, ((w8 (h 100 (h 88 16))) - 48))]) dX13_digit_30 rfl (by decide) rfl ?_
    refine z_iload_n (q := 32) 3 dX13_digit_31 rfl rfl ?_
    refine z_i2l (q := 33) (p4 c1) dX13_digit_32 rfl ?_
    refine z_iload_n (q := 34) 1 dX13_digit_33 rfl rfl ?_
    refine z_i2l (q := 35) (p5 c1) dX13_digit_34 rfl ?_
    refine z_iload_n (q := 36) 2 dX13_digit_35 rfl rfl ?_
    refine z_i2l (q := 37) (p6 c1) dX13_digit_36 rfl ?_
    have e1 := a_X13_in (D := D) (G := G) (h := h) (d := d - 1) (by omega) ((w8 (h 100 (h 88 16))) - 48) x1 x2 (p7 c1) (p8 c1) (p9 c1)
    refine z_goS (q := 40) (av := [(1, ((w8 (h 100 (h 88 16))) - 48)), (1, x1), (1, x2)]) (rest := []) (z_toi) hl0 (z_Ei.K e1 (by omega) ?_) mo_X13_in np_X13_in k1300 k1301 rfl (nle rfl) dX13_digit_37 rfl
    by_cases c2 : x1 ≤ ((w8 (h 100 (h 88 16))) - 48) ∧ ((w8 (h 100 (h 88 16))) - 48) ≤ x2
    · rw [z_b1 c2]
      refine z_if_ne (q := 43) (t := 53) ⟨by decide, by decide⟩ dX13_digit_40 (by decide) rfl (fun _ => ?_) (fun c => absurd c (by decide))
      refine z_aload_n (q := 54) 0 dX13_digit_53 rfl rfl ?_
      refine z_sub (L' := [(3, 0, ((w8 (h 100 (h 88 16))) - 48))]) [3] rfl ?_
      exact z_goV (q := 57) (av := []) (rest := []) cb11 (hl0.i 88 (by decide) rfl) z_tov hl0 (u1 c1 c2) mo_X13_scan np_X13_scan k1359 k1361 k49 rfl (nle rfl) dX13_digit_54 rfl
    · rw [z_b0 c2]
      refine z_if_ne (q := 43) (t := 53) ⟨by decide, by decide⟩ dX13_digit_40 (by decide) rfl (fun c => absurd c (by decide)) (fun _ => ?_)
      refine z_aload_n (q := 44) 0 dX13_digit_43 rfl rfl ?_
      refine z_iconst (q := 45) dX13_digit_44 rfl ?_
      refine z_aload_n (q := 46) 0 dX13_digit_45 rfl rfl ?_
      refine z_gf (q := 49) (ki := 16) (v := (0, (h 88 16))) fX13_258 rfl rfl (hl0.i 88 (by decide) rfl) dX13_digit_46 rfl ?_
      refine z_sub (L' := []) [] rfl ?_
      exact z_goV (q := 52) (av := [(0, 2), (0, (h 88 16))]) (rest := []) cb11 (hl0.i 88 (by decide) rfl) z_toa hl0 (u2 c1 c2) mo_X13_wrong np_X13_wrong k1337 k1339 k46 rfl (nle rfl) dX13_digit_49 rfl
  · refine z_aload_n (q := 9) 0 dX13_digit_8 rfl rfl ?_
    refine z_iconst (q := 10) dX13_digit_9 rfl ?_
    refine z_aload_n (q := 11) 0 dX13_digit_10 rfl rfl ?_
    refine z_gf (q := 14) (ki := 16) (v := (0, (h 88 16))) fX13_258 rfl rfl (hl0.i 88 (by decide) rfl) dX13_digit_11 rfl ?_
    refine z_sub (L' := []) [] rfl ?_
    exact z_goV (q := 17) (av := [(0, 1), (0, (h 88 16))]) (rest := []) cb11 (hl0.i 88 (by decide) rfl) z_toa hl0 (u3 c1) mo_X13_wrong np_X13_wrong k1337 k1339 k46 rfl (nle rfl) dX13_digit_14 rfl
theorem b_X13_digit_57 {D : zD} {d : Nat} {G : zG} {h : zH} {Q : zO → zG → zH → Prop} {x3 : Int}
    (u1 : Q (.inl (some (0, x3))) G h) :
    z_Y D M_X13_digit d 57 [(3, 0, x3)] [] G h Q := by
  intro hl0
  refine z_iload_n (q := 58) 0 dX13_digit_57 rfl rfl ?_
  exact z_iret rfl dX13_digit_58 ⟨hl0, u1⟩
theorem b_X13_digit_52 {D : zD} {d : Nat} {G : zG} {h : zH} {Q : zO → zG → zH → Prop} {s0 : Int} (p1 : ¬ s0 = -1)
    (u1 : Q (.inr s0) G h) :
    z_Y D M_X13_digit d 52 [] [(2, s0)] G h Q := by
  intro hl0
  exact z_throw p1 dX13_digit_52 (z_Y.out (by decide) u1 hl0)
theorem b_X13_digit_17 {D : zD} {d : Nat} {G : zG} {h : zH} {Q : zO → zG → zH → Prop} {s0 : Int} (p1 : ¬ s0 = -1)
    (u1 : Q (.inr s0) G h) :
    z_Y D M_X13_digit d 17 [] [(2, s0)] G h Q := by
  intro hl0
  exact z_throw p1 dX13_digit_17 (z_Y.out (by decide) u1 hl0)
theorem b_X13_mark_0 {D : zD} {d : Nat} {G : zG} {h : zH} {Q : zO → zG → zH → Prop} (p1 : z_in (h 88 18)) (p2 : (h 88 18) = 4 → 0 ≤ (h 88 16)) (p3 : (h 88 18) = 4 → (h 88 16) < 1000)
    (u1 : (h 88 18) = 4 → z_Kv D M_X13_scan d [(2, 88)] G h (fun G' h' => z_Y D M_X13_mark d 32 [(1, 0, (w8 (h 100 (h 88 16))))] [] G' h' Q))
    (u2 : ¬ ((h 88 18) = 4) → z_Ka D M_X13_wrong d [(2, 88), (0, 1), (0, (h 88 16))] G h (fun r G' h' => z_Y D M_X13_mark d 17 [] [(2, r)] G' h' Q)) :
    z_Y D M_X13_mark d 0 [(0, 2, 88)] [] G h Q := by
  intro hl0
  refine z_aload_n (q := 1) 0 dX13_mark_0 rfl rfl ?_
  refine z_gf (q := 4) (ki := 18) (v := (0, (h 88 18))) fX13_261 rfl rfl (hl0.i 88 (by decide) rfl) dX13_mark_1 rfl ?_
  refine z_iconst (q := 5) dX13_mark_4 rfl ?_
  refine z_icmp_eq (q := 8) (t := 18) p1 ⟨by decide, by decide⟩ dX13_mark_5 (by decide) rfl (fun c1 => ?_) (fun c1 => ?_)
  · refine z_aload_n (q := 19) 0 dX13_mark_18 rfl rfl ?_
    refine z_gf (q := 22) (ki := 13) (v := (2, 100)) fX13_48 rfl (z_ldr rfl (hl0.ref 92 rfl)) (hl0.i 88 (by decide) rfl) dX13_mark_19 rfl ?_
    refine z_aload_n (q := 23) 0 dX13_mark_22 rfl rfl ?_
    refine z_gf (q := 26) (ki := 16) (v := (0, (h 88 16))) fX13_258 rfl rfl (hl0.i 88 (by decide) rfl) dX13_mark_23 rfl ?_
    refine z_bale (q := 27) (v := (h 100 (h 88 16))) (hl0.a 100 (by decide) rfl) (p2 c1) (p3 c1) rfl dX13_mark_26 rfl ?_
    refine z_istore_n (q := 28) (L' := [(0, 2, 88), (1, 0, (w8 (h 100 (h 88 16))))]) dX13_mark_27 rfl (by decide) rfl ?_
    refine z_aload_n (q := 29) 0 dX13_mark_28 rfl rfl ?_
    refine z_sub (L' := [(1, 0, (w8 (h 100 (h 88 16))))]) [1] rfl ?_
    exact z_goV (q := 32) (av := []) (rest := []) cb11 (hl0.i 88 (by decide) rfl) z_tov hl0 (u1 c1) mo_X13_scan np_X13_scan k1359 k1361 k49 rfl (nle rfl) dX13_mark_29 rfl
  · refine z_aload_n (q := 9) 0 dX13_mark_8 rfl rfl ?_
    refine z_iconst (q := 10) dX13_mark_9 rfl ?_
    refine z_aload_n (q := 11) 0 dX13_mark_10 rfl rfl ?_
    refine z_gf (q := 14) (ki := 16) (v := (0, (h 88 16))) fX13_258 rfl rfl (hl0.i 88 (by decide) rfl) dX13_mark_11 rfl ?_
    refine z_sub (L' := []) [] rfl ?_
    exact z_goV (q := 17) (av := [(0, 1), (0, (h 88 16))]) (rest := []) cb11 (hl0.i 88 (by decide) rfl) z_toa hl0 (u2 c1) mo_X13_wrong np_X13_wrong k1337 k1339 k46 rfl (nle rfl) dX13_mark_14 rfl
theorem b_X13_mark_32 {D : zD} {d : Nat} {G : zG} {h : zH} {Q : zO → zG → zH → Prop} {x1 : Int} (p1 : z_in x1)
    (u1 : ¬ x1 = 45 → ¬ x1 = 58 → ¬ x1 = 47 → Q (.inl (some (0, 3))) G h)
    (u2 : ¬ x1 = 45 → ¬ x1 = 58 → ¬ (¬ x1 = 47) → Q (.inl (some (0, 2))) G h)
    (u3 : ¬ x1 = 45 → ¬ (¬ x1 = 58) → Q (.inl (some (0, 1))) G h)
    (u4 : ¬ (¬ x1 = 45) → Q (.inl (some (0, 0))) G h) :
    z_Y D M_X13_mark d 32 [(1, 0, x1)] [] G h Q := by
  intro hl0
  refine z_iload_n (q := 33) 0 dX13_mark_32 rfl rfl ?_
  refine z_bipush (q := 35) dX13_mark_33 rfl (by decide) ?_
  refine z_icmp_ne (q := 38) (t := 42) p1 ⟨by decide, by decide⟩ dX13_mark_35 (by decide) rfl (fun c1 => ?_) (fun c1 => ?_)
  · refine z_iload_n (q := 43) 0 dX13_mark_42 rfl rfl ?_
    refine z_bipush (q := 45) dX13_mark_43 rfl (by decide) ?_
    refine z_icmp_ne (q := 48) (t := 52) p1 ⟨by decide, by decide⟩ dX13_mark_45 (by decide) rfl (fun c2 => ?_) (fun c2 => ?_)
    · refine z_iload_n (q := 53) 0 dX13_mark_52 rfl rfl ?_
      refine z_bipush (q := 55) dX13_mark_53 rfl (by decide) ?_
      refine z_icmp_ne (q := 58) (t := 62) p1 ⟨by decide, by decide⟩ dX13_mark_55 (by decide) rfl (fun c3 => ?_) (fun c3 => ?_)
      · refine z_iconst (q := 63) dX13_mark_62 rfl ?_
        exact z_iret rfl dX13_mark_63 ⟨hl0, u1 c1 c2 c3⟩
      · refine z_iconst (q := 59) dX13_mark_58 rfl ?_
        refine z_goto (t := 63) dX13_mark_59 (by decide) ?_
        exact z_iret rfl dX13_mark_63 ⟨hl0, u2 c1 c2 c3⟩
    · refine z_iconst (q := 49) dX13_mark_48 rfl ?_
      refine z_goto (t := 63) dX13_mark_49 (by decide) ?_
      exact z_iret rfl dX13_mark_63 ⟨hl0, u3 c1 c2⟩
  · refine z_iconst (q := 39) dX13_mark_38 rfl ?_
    refine z_goto (t := 63) dX13_mark_39 (by decide) ?_
    exact z_iret rfl dX13_mark_63 ⟨hl0, u4 c1⟩
theorem b_X13_mark_17 {D : zD} {d : Nat} {G : zG} {h : zH} {Q : zO → zG → zH → Prop} {s0 : Int} (p1 : ¬ s0 = -1)
    (u1 : Q (.inr s0) G h) :
    z_Y D M_X13_mark d 17 [] [(2, s0)] G h Q := by
  intro hl0
  exact z_throw p1 dX13_mark_17 (z_Y.out (by decide) u1 hl0)
theorem b_X13_readWay_0 {D : zD} {d : Nat} {G : zG} {h : zH} {Q : zO → zG → zH → Prop} (hd : 2 ≤ d) (p1 : z_in (h 88 18)) (p2 : ¬ ((h 88 18) = 0) → (h 88 18) = 3 → 0 ≤ (h 88 16) ∧ (h 88 16) < 1000)
    (u1 : (h 88 18) = 0 → Q (.inl none) G h)
    (u2 : ¬ ((h 88 18) = 0) → (h 88 18) = 3 ∧ w8 (h 100 (h 88 16)) = 125 → Q (.inl none) G h)
    (u3 : ¬ ((h 88 18) = 0) → ¬ ((h 88 18) = 3 ∧ w8 (h 100 (h 88 16)) = 125) → z_Ki D M_X13_stepAtHand d [(2, 88)] G h (fun r G' h' => z_Y D M_X13_readWay d 20 [(0, 2, 88)] [(0, r)] G' h' Q)) :
    z_Y D M_X13_readWay d 0 [(0, 2, 88)] [] G h Q := by
  intro hl0
  refine z_aload_n (q := 1) 0 dX13_readWay_0 rfl rfl ?_
  refine z_gf (q := 4) (ki := 18) (v := (0, (h 88 18))) fX13_261 rfl rfl (hl0.i 88 (by decide) rfl) dX13_readWay_1 rfl ?_
  refine z_if_eq (q := 7) (t := 56) p1 dX13_readWay_4 (by decide) rfl (fun c1 => ?_) (fun c1 => ?_)
  · exact z_vret rfl dX13_readWay_56 ⟨hl0, u1 c1⟩
  · refine z_aload_n (q := 8) 0 dX13_readWay_7 rfl rfl ?_
    refine z_bipush (q := 10) dX13_readWay_8 rfl (by decide) ?_
    have e1 := a_X13_isSign (D := D) (G := G) (h := h) (d := d - 1) (by omega) 125 ⟨by decide, by decide⟩ p1 (p2 c1)
    refine z_goV (q := 13) (av := [(0, 125)]) (rest := []) cb11 (hl0.i 88 (by decide) rfl) (z_toi) hl0 (z_Ei.K e1 (by omega) ?_) mo_X13_isSign np_X13_isSign k1367 k1369 k51 rfl (nle rfl) dX13_readWay_10 rfl
    by_cases c2 : (h 88 18) = 3 ∧ w8 (h 100 (h 88 16)) = 125
    · rw [z_b1 c2]
      refine z_if_ne (q := 16) (t := 56) ⟨by decide, by decide⟩ dX13_readWay_13 (by decide) rfl (fun _ => ?_) (fun c => absurd c (by decide))
      exact z_vret rfl dX13_readWay_56 ⟨hl0, u2 c1 c2⟩
    · rw [z_b0 c2]
      refine z_if_ne (q := 16) (t := 56) ⟨by decide, by decide⟩ dX13_readWay_13 (by decide) rfl (fun c => absurd c (by decide)) (fun _ => ?_)
      refine z_aload_n (q := 17) 0 dX13_readWay_16 rfl rfl ?_
      exact z_goV (q := 20) (av := []) (rest := []) cb11 (hl0.i 88 (by decide) rfl) z_toi hl0 (u3 c1 c2) mo_X13_stepAtHand np_X13_stepAtHand k1371 k1373 k52 rfl (nle rfl) dX13_readWay_17 rfl
theorem b_X13_readWay_20 {D : zD} {d : Nat} {G : zG} {h : zH} {Q : zO → zG → zH → Prop} {s0 : Int} (p1 : z_in s0)
    (u1 : ¬ s0 = 0 → ¬ s0 = 15 → z_KT D M_X13_readWay M_X13_readStep d 50 53 [(0, 2, 88)] [] [(2, 88), (0, s0)] G h Q)
    (u2 : ¬ s0 = 0 → ¬ (¬ s0 = 15) → z_KT D M_X13_readWay M_X13_readRepeat d 42 45 [(0, 2, 88)] [] [(2, 88)] G h Q)
    (u3 : ¬ (¬ s0 = 0) → z_Ka D M_X13_wrong d [(2, 88), (0, 1), (0, (h 88 16))] G h (fun r G' h' => z_Y D M_X13_readWay d 34 [] [(2, r)] G' h' Q)) :
    z_Y D M_X13_readWay d 20 [(0, 2, 88)] [(0, s0)] G h Q := by
  intro hl0
  refine z_istore_n (q := 21) (L' := [(0, 2, 88), (1, 0, s0)]) dX13_readWay_20 rfl (by decide) rfl ?_
  refine z_iload_n (q := 22) 1 dX13_readWay_21 rfl rfl ?_
  refine z_if_ne (q := 25) (t := 35) p1 dX13_readWay_22 (by decide) rfl (fun c1 => ?_) (fun c1 => ?_)
  · refine z_iload_n (q := 36) 1 dX13_readWay_35 rfl rfl ?_
    refine z_bipush (q := 38) dX13_readWay_36 rfl (by decide) ?_
    refine z_icmp_ne (q := 41) (t := 48) p1 ⟨by decide, by decide⟩ dX13_readWay_38 (by decide) rfl (fun c2 => ?_) (fun c2 => ?_)
    · refine z_aload_n (q := 49) 0 dX13_readWay_48 rfl rfl ?_
      refine z_iload_n (q := 50) 1 dX13_readWay_49 rfl rfl ?_
      refine z_sub (L' := [(0, 2, 88)]) [0] rfl ?_
      exact z_goVT (q := 53) (av := [(0, s0)]) (rest := []) cb11 (hl0.i 88 (by decide) rfl) hl0 (u1 c1 c2) mo_X13_readStep np_X13_readStep k1437 k1439 k55 rfl (nle rfl) dX13_readWay_50 rfl
    · refine z_aload_n (q := 42) 0 dX13_readWay_41 rfl rfl ?_
      refine z_sub (L' := [(0, 2, 88)]) [0] rfl ?_
      exact z_goVT (q := 45) (av := []) (rest := []) cb11 (hl0.i 88 (by decide) rfl) hl0 (u2 c1 c2) mo_X13_readRepeat np_X13_readRepeat k1429 k1431 k53 rfl (nle rfl) dX13_readWay_42 rfl
  · refine z_aload_n (q := 26) 0 dX13_readWay_25 rfl rfl ?_
    refine z_iconst (q := 27) dX13_readWay_26 rfl ?_
    refine z_aload_n (q := 28) 0 dX13_readWay_27 rfl rfl ?_
    refine z_gf (q := 31) (ki := 16) (v := (0, (h 88 16))) fX13_258 rfl rfl (hl0.i 88 (by decide) rfl) dX13_readWay_28 rfl ?_
    refine z_sub (L' := []) [] rfl ?_
    exact z_goV (q := 34) (av := [(0, 1), (0, (h 88 16))]) (rest := []) cb11 (hl0.i 88 (by decide) rfl) z_toa hl0 (u3 c1) mo_X13_wrong np_X13_wrong k1337 k1339 k46 rfl (nle rfl) dX13_readWay_31 rfl
theorem b_X13_readWay_53 {D : zD} {d : Nat} {G : zG} {h : zH} {Q : zO → zG → zH → Prop}
    (u1 : z_Y D M_X13_readWay d 0 [(0, 2, 88)] [] G h Q) :
    z_Y D M_X13_readWay d 53 [(0, 2, 88)] [] G h Q := by
  intro hl0
  refine z_goto (t := 0) dX13_readWay_53 (by decide) ?_
  exact u1 hl0
theorem b_X13_readWay_45 {D : zD} {d : Nat} {G : zG} {h : zH} {Q : zO → zG → zH → Prop}
    (u1 : z_Y D M_X13_readWay d 0 [(0, 2, 88)] [] G h Q) :
    z_Y D M_X13_readWay d 45 [(0, 2, 88)] [] G h Q := by
  intro hl0
  refine z_goto (t := 53) dX13_readWay_45 (by decide) ?_
  refine z_goto (t := 0) dX13_readWay_53 (by decide) ?_
  exact u1 hl0
theorem b_X13_readWay_34 {D : zD} {d : Nat} {G : zG} {h : zH} {Q : zO → zG → zH → Prop} {s0 : Int} (p1 : ¬ s0 = -1)
    (u1 : Q (.inr s0) G h) :
    z_Y D M_X13_readWay d 34 [] [(2, s0)] G h Q := by
  intro hl0
  exact z_throw p1 dX13_readWay_34 (z_Y.out (by decide) u1 hl0)
theorem b_X13_readRepeat_0 {D : zD} {d : Nat} {G : zG} {h : zH} {Q : zO → zG → zH → Prop}
    (u1 : z_Kv D M_X13_scan d [(2, 88)] G h (fun G' h' => z_Y D M_X13_readRepeat d 4 [(0, 2, 88)] [] G' h' Q)) :
    z_Y D M_X13_readRepeat d 0 [(0, 2, 88)] [] G h Q := by
  intro hl0
  refine z_aload_n (q := 1) 0 dX13_readRepeat_0 rfl rfl ?_
  exact z_goV (q := 4) (av := []) (rest := []) cb11 (hl0.i 88 (by decide) rfl) z_tov hl0 (u1) mo_X13_scan np_X13_scan k1359 k1361 k49 rfl (nle rfl) dX13_readRepeat_1 rfl
theorem b_X13_readRepeat_4 {D : zD} {d : Nat} {G : zG} {h : zH} {Q : zO → zG → zH → Prop}
    (u1 : z_KT D M_X13_readRepeat M_X13_digit d 8 11 [(0, 2, 88)] [] [(2, 88), (0, 1), (0, 6)] G h Q) :
    z_Y D M_X13_readRepeat d 4 [(0, 2, 88)] [] G h Q := by
  intro hl0
  refine z_aload_n (q := 5) 0 dX13_readRepeat_4 rfl rfl ?_
  refine z_iconst (q := 6) dX13_readRepeat_5 rfl ?_
  refine z_bipush (q := 8) dX13_readRepeat_6 rfl (by decide) ?_
  exact z_goVT (q := 11) (av := [(0, 1), (0, 6)]) (rest := []) cb11 (hl0.i 88 (by decide) rfl) hl0 (u1) mo_X13_digit np_X13_digit k1433 k1435 k54 rfl (nle rfl) dX13_readRepeat_8 rfl
theorem b_X13_readRepeat_11 {D : zD} {d : Nat} {G : zG} {h : zH} {Q : zO → zG → zH → Prop} {s0 : Int} (hd : 2 ≤ d) (p1 : z_in (h 88 18)) (p2 : (h 88 18) = 3 → 0 ≤ (h 88 16) ∧ (h 88 16) < 1000) (p3 : (h 88 18) = 3 ∧ w8 (h 100 (h 88 16)) = 123 → z_in (h 88 19))
    (u1 : (h 88 18) = 3 ∧ w8 (h 100 (h 88 16)) = 123 → ¬ (h 88 19) = 3 → z_Kv D M_X13_scan d [(2, 88)] G (z_wr h 88 19 ((h 88 19) + 1)) (fun G' h' => z_Y D M_X13_readRepeat d 63 [(0, 2, 88), (1, 0, s0)] [] G' h' Q))
    (u2 : (h 88 18) = 3 ∧ w8 (h 100 (h 88 16)) = 123 → ¬ (¬ (h 88 19) = 3) → z_Ka D M_X13_wrong d [(2, 88), (0, 3), (0, (h 88 16))] G h (fun r G' h' => z_Y D M_X13_readRepeat d 48 [] [(2, r)] G' h' Q))
    (u3 : ¬ ((h 88 18) = 3 ∧ w8 (h 100 (h 88 16)) = 123) → z_Ka D M_X13_wrong d [(2, 88), (0, 1), (0, (h 88 16))] G h (fun r G' h' => z_Y D M_X13_readRepeat d 30 [] [(2, r)] G' h' Q)) :
    z_Y D M_X13_readRepeat d 11 [(0, 2, 88)] [(0, s0)] G h Q := by
  intro hl0
  refine z_istore_n (q := 12) (L' := [(0, 2, 88), (1, 0, s0)]) dX13_readRepeat_11 rfl (by decide) rfl ?_
  refine z_aload_n (q := 13) 0 dX13_readRepeat_12 rfl rfl ?_
  refine z_bipush (q := 15) dX13_readRepeat_13 rfl (by decide) ?_
  have e1 := a_X13_isSign (D := D) (G := G) (h := h) (d := d - 1) (by omega) 123 ⟨by decide, by decide⟩ p1 p2
  refine z_goV (q := 18) (av := [(0, 123)]) (rest := []) cb11 (hl0.i 88 (by decide) rfl) (z_toi) hl0 (z_Ei.K e1 (by omega) ?_) mo_X13_isSign np_X13_isSign k1367 k1369 k51 rfl (nle rfl) dX13_readRepeat_15 rfl
  by_cases c1 : (h 88 18) = 3 ∧ w8 (h 100 (h 88 16)) = 123
  · rw [z_b1 c1]
    refine z_if_ne (q := 21) (t := 31) ⟨by decide, by decide⟩ dX13_readRepeat_18 (by decide) rfl (fun _ => ?_) (fun c => absurd c (by decide))
    refine z_aload_n (q := 32) 0 dX13_readRepeat_31 rfl rfl ?_
    refine z_gf (q := 35) (ki := 19) (v := (0, (h 88 19))) fX13_297 rfl rfl (hl0.i 88 (by decide) rfl) dX13_readRepeat_32 rfl ?_
    refine z_iconst (q := 36) dX13_readRepeat_35 rfl ?_
    refine z_icmp_ne (q := 39) (t := 49) (p3 c1) ⟨by decide, by decide⟩ dX13_readRepeat_36 (by decide) rfl (fun c2 => ?_) (fun c2 => ?_)
    · refine z_aload_n (q := 50) 0 dX13_readRepeat_49 rfl rfl ?_
      refine z_dup (q := 51) (by decide) dX13_readRepeat_50 rfl ?_
      refine z_gf (q := 54) (ki := 19) (v := (0, (h 88 19))) fX13_297 rfl rfl (hl0.i 88 (by decide) rfl) dX13_readRepeat_51 rfl ?_
      refine z_iconst (q := 55) dX13_readRepeat_54 rfl ?_
      refine z_iadd (q := 56) dX13_readRepeat_55 rfl ?_
      refine z_pf (q := 59) (ki := 19) fX13_297 rfl (z_sv0 rfl) (hl0.i 88 (by decide) rfl) dX13_readRepeat_56 rfl ?_
      have hl1 := hl0.wr (v := ((h 88 19) + 1)) (hl0.i 88 (by decide) rfl) (i := 19) (by decide)
      refine z_aload_n (q := 60) 0 dX13_readRepeat_59 rfl rfl ?_
      exact z_goV (q := 63) (av := []) (rest := []) cb11 (hl1.i 88 (by decide) rfl) z_tov hl1 (u1 c1 c2) mo_X13_scan np_X13_scan k1359 k1361 k49 rfl (nle rfl) dX13_readRepeat_60 rfl
    · refine z_aload_n (q := 40) 0 dX13_readRepeat_39 rfl rfl ?_
      refine z_iconst (q := 41) dX13_readRepeat_40 rfl ?_
      refine z_aload_n (q := 42) 0 dX13_readRepeat_41 rfl rfl ?_
      refine z_gf (q := 45) (ki := 16) (v := (0, (h 88 16))) fX13_258 rfl rfl (hl0.i 88 (by decide) rfl) dX13_readRepeat_42 rfl ?_
      refine z_sub (L' := []) [] rfl ?_
      exact z_goV (q := 48) (av := [(0, 3), (0, (h 88 16))]) (rest := []) cb11 (hl0.i 88 (by decide) rfl) z_toa hl0 (u2 c1 c2) mo_X13_wrong np_X13_wrong k1337 k1339 k46 rfl (nle rfl) dX13_readRepeat_45 rfl
  · rw [z_b0 c1]
    refine z_if_ne (q := 21) (t := 31) ⟨by decide, by decide⟩ dX13_readRepeat_18 (by decide) rfl (fun c => absurd c (by decide)) (fun _ => ?_)
    refine z_aload_n (q := 22) 0 dX13_readRepeat_21 rfl rfl ?_
    refine z_iconst (q := 23) dX13_readRepeat_22 rfl ?_
    refine z_aload_n (q := 24) 0 dX13_readRepeat_23 rfl rfl ?_
    refine z_gf (q := 27) (ki := 16) (v := (0, (h 88 16))) fX13_258 rfl rfl (hl0.i 88 (by decide) rfl) dX13_readRepeat_24 rfl ?_
    refine z_sub (L' := []) [] rfl ?_
    exact z_goV (q := 30) (av := [(0, 1), (0, (h 88 16))]) (rest := []) cb11 (hl0.i 88 (by decide) rfl) z_toa hl0 (u3 c1) mo_X13_wrong np_X13_wrong k1337 k1339 k46 rfl (nle rfl) dX13_readRepeat_27 rfl
theorem b_X13_readRepeat_63 {D : zD} {d : Nat} {G : zG} {h : zH} {Q : zO → zG → zH → Prop} {x1 : Int}
    (u1 : z_KT D M_X13_readRepeat M_X13_readWay d 72 75 [(0, 2, 88), (1, 0, x1), (2, 0, (h 95 8))] [] [(2, 88)] G h Q) :
    z_Y D M_X13_readRepeat d 63 [(0, 2, 88), (1, 0, x1)] [] G h Q := by
  intro hl0
  refine z_aload_n (q := 64) 0 dX13_readRepeat_63 rfl rfl ?_
  refine z_gf (q := 67) (ki := 8) (v := (2, 95)) fX13_29 rfl (z_ldr rfl (hl0.ref 87 rfl)) (hl0.i 88 (by decide) rfl) dX13_readRepeat_64 rfl ?_
  refine z_bipush (q := 69) dX13_readRepeat_67 rfl (by decide) ?_
  refine z_iale (q := 70) (v := (h 95 8)) (hl0.a 95 (by decide) rfl) (by decide) (by decide) rfl dX13_readRepeat_69 rfl ?_
  refine z_istore_n (q := 71) (L' := [(0, 2, 88), (1, 0, x1), (2, 0, (h 95 8))]) dX13_readRepeat_70 rfl (by decide) rfl ?_
  refine z_aload_n (q := 72) 0 dX13_readRepeat_71 rfl rfl ?_
  exact z_goVT (q := 75) (av := []) (rest := []) cb11 (hl0.i 88 (by decide) rfl) hl0 (u1) mo_X13_readWay np_X13_readWay k1363 k1365 k50 rfl (nle rfl) dX13_readRepeat_72 rfl
theorem b_X13_readRepeat_48 {D : zD} {d : Nat} {G : zG} {h : zH} {Q : zO → zG → zH → Prop} {s0 : Int} (p1 : ¬ s0 = -1)
    (u1 : Q (.inr s0) G h) :
    z_Y D M_X13_readRepeat d 48 [] [(2, s0)] G h Q := by
  intro hl0
  exact z_throw p1 dX13_readRepeat_48 (z_Y.out (by decide) u1 hl0)
theorem b_X13_readRepeat_30 {D : zD} {d : Nat} {G : zG} {h : zH} {Q : zO → zG → zH → Prop} {s0 : Int} (p1 : ¬ s0 = -1)
    (u1 : Q (.inr s0) G h) :
    z_Y D M_X13_readRepeat d 30 [] [(2, s0)] G h Q := by
  intro hl0
  exact z_throw p1 dX13_readRepeat_30 (z_Y.out (by decide) u1 hl0)
theorem b_X13_readRepeat_75 {D : zD} {d : Nat} {G : zG} {h : zH} {Q : zO → zG → zH → Prop} {x1 x2 : Int} (hd : 2 ≤ d) (p1 : z_in (h 88 18)) (p2 : (h 88 18) = 3 → 0 ≤ (h 88 16) ∧ (h 88 16) < 1000) (p3 : (h 88 18) = 3 ∧ w8 (h 100 (h 88 16)) = 125 → z_in (x2 + (x1 * ((h 95 8) - x2))))
    (u1 : (h 88 18) = 3 ∧ w8 (h 100 (h 88 16)) = 125 → (x2 + (x1 * ((h 95 8) - x2))) ≤ 12 → z_Y D M_X13_readRepeat d 127 [(0, 2, 88), (1, 0, x1), (2, 0, x2), (3, 0, ((h 95 8) - x2)), (4, 0, ((h 95 8) - x2))] [] G h Q)
    (u2 : (h 88 18) = 3 ∧ w8 (h 100 (h 88 16)) = 125 → ¬ ((x2 + (x1 * ((h 95 8) - x2))) ≤ 12) → z_Ka D M_X13_wrong d [(2, 88), (0, 3), (0, (h 88 16))] G h (fun r G' h' => z_Y D M_X13_readRepeat d 123 [] [(2, r)] G' h' Q))
    (u3 : ¬ ((h 88 18) = 3 ∧ w8 (h 100 (h 88 16)) = 125) → z_Ka D M_X13_wrong d [(2, 88), (0, 1), (0, (h 88 16))] G h (fun r G' h' => z_Y D M_X13_readRepeat d 93 [] [(2, r)] G' h' Q)) :
    z_Y D M_X13_readRepeat d 75 [(0, 2, 88), (1, 0, x1), (2, 0, x2)] [] G h Q := by
  intro hl0
  refine z_aload_n (q := 76) 0 dX13_readRepeat_75 rfl rfl ?_
  refine z_bipush (q := 78) dX13_readRepeat_76 rfl (by decide) ?_
  have e1 := a_X13_isSign (D := D) (G := G) (h := h) (d := d - 1) (by omega) 125 ⟨by decide, by decide⟩ p1 p2
  refine z_goV (q := 81) (av := [(0, 125)]) (rest := []) cb11 (hl0.i 88 (by decide) rfl) (z_toi) hl0 (z_Ei.K e1 (by omega) ?_) mo_X13_isSign np_X13_isSign k1367 k1369 k51 rfl (nle rfl) dX13_readRepeat_78 rfl
  by_cases c1 : (h 88 18) = 3 ∧ w8 (h 100 (h 88 16)) = 125
  · rw [z_b1 c1]
    refine z_if_ne (q := 84) (t := 94) ⟨by decide, by decide⟩ dX13_readRepeat_81 (by decide) rfl (fun _ => ?_) (fun c => absurd c (by decide))
    refine z_aload_n (q := 95) 0 dX13_readRepeat_94 rfl rfl ?_
    refine z_gf (q := 98) (ki := 8) (v := (2, 95)) fX13_29 rfl (z_ldr rfl (hl0.ref 87 rfl)) (hl0.i 88 (by decide) rfl) dX13_readRepeat_95 rfl ?_
    refine z_bipush (q := 100) dX13_readRepeat_98 rfl (by decide) ?_
    refine z_iale (q := 101) (v := (h 95 8)) (hl0.a 95 (by decide) rfl) (by decide) (by decide) rfl dX13_readRepeat_100 rfl ?_
    refine z_iload_n (q := 102) 2 dX13_readRepeat_101 rfl rfl ?_
    refine z_isub (q := 103) dX13_readRepeat_102 rfl ?_
    refine z_istore_n (q := 104) (L' := [(0, 2, 88), (1, 0, x1), (2, 0, x2), (3, 0, ((h 95 8) - x2))]) dX13_readRepeat_103 rfl (by decide) rfl ?_
    refine z_iload_n (q := 105) 2 dX13_readRepeat_104 rfl rfl ?_
    refine z_iload_n (q := 106) 1 dX13_readRepeat_105 rfl rfl ?_
    refine z_iload_n (q := 107) 3 dX13_readRepeat_106 rfl rfl ?_
    refine z_imul (q := 108) dX13_readRepeat_107 rfl ?_
    refine z_iadd (q := 109) dX13_readRepeat_108 rfl ?_
    refine z_bipush (q := 111) dX13_readRepeat_109 rfl (by decide) ?_
    refine z_icmp_le (q := 114) (t := 124) (p3 c1) ⟨by decide, by decide⟩ dX13_readRepeat_111 (by decide) rfl (fun c2 => ?_) (fun c2 => ?_)
    · refine z_iload_n (q := 125) 3 dX13_readRepeat_124 rfl rfl ?_
      refine z_istore (q := 127) (L' := [(0, 2, 88), (1, 0, x1), (2, 0, x2), (3, 0, ((h 95 8) - x2)), (4, 0, ((h 95 8) - x2))]) dX13_readRepeat_125 rfl (by decide) rfl ?_
      exact u1 c1 c2 hl0
    · refine z_aload_n (q := 115) 0 dX13_readRepeat_114 rfl rfl ?_
      refine z_iconst (q := 116) dX13_readRepeat_115 rfl ?_
      refine z_aload_n (q := 117) 0 dX13_readRepeat_116 rfl rfl ?_
      refine z_gf (q := 120) (ki := 16) (v := (0, (h 88 16))) fX13_258 rfl rfl (hl0.i 88 (by decide) rfl) dX13_readRepeat_117 rfl ?_
      refine z_sub (L' := []) [] rfl ?_
      exact z_goV (q := 123) (av := [(0, 3), (0, (h 88 16))]) (rest := []) cb11 (hl0.i 88 (by decide) rfl) z_toa hl0 (u2 c1 c2) mo_X13_wrong np_X13_wrong k1337 k1339 k46 rfl (nle rfl) dX13_readRepeat_120 rfl
  · rw [z_b0 c1]
    refine z_if_ne (q := 84) (t := 94) ⟨by decide, by decide⟩ dX13_readRepeat_81 (by decide) rfl (fun c => absurd c (by decide)) (fun _ => ?_)
    refine z_aload_n (q := 85) 0 dX13_readRepeat_84 rfl rfl ?_
    refine z_iconst (q := 86) dX13_readRepeat_85 rfl ?_
    refine z_aload_n (q := 87) 0 dX13_readRepeat_86 rfl rfl ?_
    refine z_gf (q := 90) (ki := 16) (v := (0, (h 88 16))) fX13_258 rfl rfl (hl0.i 88 (by decide) rfl) dX13_readRepeat_87 rfl ?_
    refine z_sub (L' := []) [] rfl ?_
    exact z_goV (q := 93) (av := [(0, 1), (0, (h 88 16))]) (rest := []) cb11 (hl0.i 88 (by decide) rfl) z_toa hl0 (u3 c1) mo_X13_wrong np_X13_wrong k1337 k1339 k46 rfl (nle rfl) dX13_readRepeat_90 rfl
theorem b_X13_readRepeat_127 {D : zD} {d : Nat} {G : zG} {h : zH} {Q : zO → zG → zH → Prop} {x1 x2 x3 x4 : Int} (p1 : z_in x4) (p2 : z_in (x1 * x3)) (p3 : ¬ ((x1 * x3) ≤ x4) → 0 ≤ (((96 + x2) + x4) - x3)) (p4 : ¬ ((x1 * x3) ≤ x4) → (((96 + x2) + x4) - x3) < 108) (p5 : ¬ ((x1 * x3) ≤ x4) → 0 ≤ ((96 + x2) + x4)) (p6 : ¬ ((x1 * x3) ≤ x4) → ((96 + x2) + x4) < 108)
    (u1 : (x1 * x3) ≤ x4 → z_Kv D M_X13_scan d [(2, 88)] G (z_wr (z_wr h 95 8 (x2 + (x1 * x3))) 88 19 ((h 88 19) - 1)) (fun G' h' => z_Y D M_X13_readRepeat d 245 [] [] G' h' Q))
    (u2 : ¬ ((x1 * x3) ≤ x4) → z_Y D M_X13_readRepeat d 127 [(0, 2, 88), (1, 0, x1), (2, 0, x2), (3, 0, x3), (4, 0, (x4 + 1))] [] G (z_wr (z_wr (z_wr h 96 ((96 + x2) + x4) (h 96 (((96 + x2) + x4) - x3))) 97 ((96 + x2) + x4) (h 97 (((96 + x2) + x4) - x3))) 98 ((96 + x2) + x4) (h 98 (((96 + x2) + x4) - x3))) Q) :
    z_Y D M_X13_readRepeat d 127 [(0, 2, 88), (1, 0, x1), (2, 0, x2), (3, 0, x3), (4, 0, x4)] [] G h Q := by
  intro hl0
  refine z_iload (q := 129) 4 dX13_readRepeat_127 rfl rfl ?_
  refine z_iload_n (q := 130) 1 dX13_readRepeat_129 rfl rfl ?_
  refine z_iload_n (q := 131) 3 dX13_readRepeat_130 rfl rfl ?_
  refine z_imul (q := 132) dX13_readRepeat_131 rfl ?_
  refine z_icmp_ge (q := 135) (t := 219) p1 p2 dX13_readRepeat_132 (by decide) rfl (fun c1 => ?_) (fun c1 => ?_)
  · refine z_aload_n (q := 220) 0 dX13_readRepeat_219 rfl rfl ?_
    refine z_gf (q := 223) (ki := 8) (v := (2, 95)) fX13_29 rfl (z_ldr rfl (hl0.ref 87 rfl)) (hl0.i 88 (by decide) rfl) dX13_readRepeat_220 rfl ?_
    refine z_bipush (q := 225) dX13_readRepeat_223 rfl (by decide) ?_
    refine z_iload_n (q := 226) 2 dX13_readRepeat_225 rfl rfl ?_
    refine z_iload_n (q := 227) 1 dX13_readRepeat_226 rfl rfl ?_
    refine z_iload_n (q := 228) 3 dX13_readRepeat_227 rfl rfl ?_
    refine z_imul (q := 229) dX13_readRepeat_228 rfl ?_
    refine z_iadd (q := 230) dX13_readRepeat_229 rfl ?_
    refine z_isn (q := 231) (hl0.i 95 (by decide) rfl) (hl0.n 95 (by decide) rfl) (by decide) (by decide) dX13_readRepeat_230 rfl ?_
    have hl1 := hl0.wr (v := (x2 + (x1 * x3))) (hl0.i 95 (by decide) rfl) (i := 8) rfl
    refine z_aload_n (q := 232) 0 dX13_readRepeat_231 rfl rfl ?_
    refine z_dup (q := 233) (by decide) dX13_readRepeat_232 rfl ?_
    refine z_gf (q := 236) (ki := 19) (v := (0, (h 88 19))) fX13_297 rfl (z_ldi rfl (w_nj (by decide))) (hl1.i 88 (by decide) rfl) dX13_readRepeat_233 rfl ?_
    refine z_iconst (q := 237) dX13_readRepeat_236 rfl ?_
    refine z_isub (q := 238) dX13_readRepeat_237 rfl ?_
    refine z_pf (q := 241) (ki := 19) fX13_297 rfl (z_sv0 rfl) (hl1.i 88 (by decide) rfl) dX13_readRepeat_238 rfl ?_
    have hl2 := hl1.wr (v := ((h 88 19) - 1)) (hl1.i 88 (by decide) rfl) (i := 19) (by decide)
    refine z_aload_n (q := 242) 0 dX13_readRepeat_241 rfl rfl ?_
    refine z_sub (L' := []) [] rfl ?_
    exact z_goV (q := 245) (av := []) (rest := []) cb11 (hl2.i 88 (by decide) rfl) z_tov hl2 (u1 c1) mo_X13_scan np_X13_scan k1359 k1361 k49 rfl (nle rfl) dX13_readRepeat_242 rfl
  · refine z_aload_n (q := 136) 0 dX13_readRepeat_135 rfl rfl ?_
    refine z_gf (q := 139) (ki := 9) (v := (2, 96)) fX13_32 rfl (z_ldr rfl (hl0.ref 88 rfl)) (hl0.i 88 (by decide) rfl) dX13_readRepeat_136 rfl ?_
    refine z_bipush (q := 141) dX13_readRepeat_139 rfl (by decide) ?_
    refine z_iload_n (q := 142) 2 dX13_readRepeat_141 rfl rfl ?_
    refine z_iadd (q := 143) dX13_readRepeat_142 rfl ?_
    refine z_iload (q := 145) 4 dX13_readRepeat_143 rfl rfl ?_
    refine z_iadd (q := 146) dX13_readRepeat_145 rfl ?_
    refine z_aload_n (q := 147) 0 dX13_readRepeat_146 rfl rfl ?_
    refine z_gf (q := 150) (ki := 9) (v := (2, 96)) fX13_32 rfl (z_ldr rfl (hl0.ref 88 rfl)) (hl0.i 88 (by decide) rfl) dX13_readRepeat_147 rfl ?_
    refine z_bipush (q := 152) dX13_readRepeat_150 rfl (by decide) ?_
    refine z_iload_n (q := 153) 2 dX13_readRepeat_152 rfl rfl ?_
    refine z_iadd (q := 154) dX13_readRepeat_153 rfl ?_
    refine z_iload (q := 156) 4 dX13_readRepeat_154 rfl rfl ?_
    refine z_iadd (q := 157) dX13_readRepeat_156 rfl ?_
    refine z_iload_n (q := 158) 3 dX13_readRepeat_157 rfl rfl ?_
    refine z_isub (q := 159) dX13_readRepeat_158 rfl ?_
    refine z_iale (q := 160) (v := (h 96 (((96 + x2) + x4) - x3))) (hl0.a 96 (by decide) rfl) (p3 c1) (p4 c1) rfl dX13_readRepeat_159 rfl ?_
    refine z_isn (q := 161) (hl0.i 96 (by decide) rfl) (hl0.n 96 (by decide) rfl) (p5 c1) (p6 c1) dX13_readRepeat_160 rfl ?_
    have hl1 := hl0.wr (v := (h 96 (((96 + x2) + x4) - x3))) (hl0.i 96 (by decide) rfl) (i := ((96 + x2) + x4)) rfl
    refine z_aload_n (q := 162) 0 dX13_readRepeat_161 rfl rfl ?_
    refine z_gf (q := 165) (ki := 10) (v := (2, 97)) fX13_35 rfl (z_ldr rfl (hl1.ref 89 rfl)) (hl1.i 88 (by decide) rfl) dX13_readRepeat_162 rfl ?_
    refine z_bipush (q := 167) dX13_readRepeat_165 rfl (by decide) ?_
    refine z_iload_n (q := 168) 2 dX13_readRepeat_167 rfl rfl ?_
    refine z_iadd (q := 169) dX13_readRepeat_168 rfl ?_
    refine z_iload (q := 171) 4 dX13_readRepeat_169 rfl rfl ?_
    refine z_iadd (q := 172) dX13_readRepeat_171 rfl ?_
    refine z_aload_n (q := 173) 0 dX13_readRepeat_172 rfl rfl ?_
    refine z_gf (q := 176) (ki := 10) (v := (2, 97)) fX13_35 rfl (z_ldr rfl (hl1.ref 89 rfl)) (hl1.i 88 (by decide) rfl) dX13_readRepeat_173 rfl ?_
    refine z_bipush (q := 178) dX13_readRepeat_176 rfl (by decide) ?_
    refine z_iload_n (q := 179) 2 dX13_readRepeat_178 rfl rfl ?_
    refine z_iadd (q := 180) dX13_readRepeat_179 rfl ?_
    refine z_iload (q := 182) 4 dX13_readRepeat_180 rfl rfl ?_
    refine z_iadd (q := 183) dX13_readRepeat_182 rfl ?_
    refine z_iload_n (q := 184) 3 dX13_readRepeat_183 rfl rfl ?_
    refine z_isub (q := 185) dX13_readRepeat_184 rfl ?_
    refine z_iale (q := 186) (v := (h 97 (((96 + x2) + x4) - x3))) (hl1.a 97 (by decide) rfl) (p3 c1) (p4 c1) (w_na (by decide)) dX13_readRepeat_185 rfl ?_
    refine z_isn (q := 187) (hl1.i 97 (by decide) rfl) (hl1.n 97 (by decide) rfl) (p5 c1) (p6 c1) dX13_readRepeat_186 rfl ?_
    have hl2 := hl1.wr (v := (h 97 (((96 + x2) + x4) - x3))) (hl1.i 97 (by decide) rfl) (i := ((96 + x2) + x4)) rfl
    refine z_aload_n (q := 188) 0 dX13_readRepeat_187 rfl rfl ?_
    refine z_gf (q := 191) (ki := 11) (v := (2, 98)) fX13_38 rfl (z_ldr rfl (hl2.ref 90 rfl)) (hl2.i 88 (by decide) rfl) dX13_readRepeat_188 rfl ?_
    refine z_bipush (q := 193) dX13_readRepeat_191 rfl (by decide) ?_
    refine z_iload_n (q := 194) 2 dX13_readRepeat_193 rfl rfl ?_
    refine z_iadd (q := 195) dX13_readRepeat_194 rfl ?_
    refine z_iload (q := 197) 4 dX13_readRepeat_195 rfl rfl ?_
    refine z_iadd (q := 198) dX13_readRepeat_197 rfl ?_
    refine z_aload_n (q := 199) 0 dX13_readRepeat_198 rfl rfl ?_
    refine z_gf (q := 202) (ki := 11) (v := (2, 98)) fX13_38 rfl (z_ldr rfl (hl2.ref 90 rfl)) (hl2.i 88 (by decide) rfl) dX13_readRepeat_199 rfl ?_
    refine z_bipush (q := 204) dX13_readRepeat_202 rfl (by decide) ?_
    refine z_iload_n (q := 205) 2 dX13_readRepeat_204 rfl rfl ?_
    refine z_iadd (q := 206) dX13_readRepeat_205 rfl ?_
    refine z_iload (q := 208) 4 dX13_readRepeat_206 rfl rfl ?_
    refine z_iadd (q := 209) dX13_readRepeat_208 rfl ?_
    refine z_iload_n (q := 210) 3 dX13_readRepeat_209 rfl rfl ?_
    refine z_isub (q := 211) dX13_readRepeat_210 rfl ?_
    refine z_iale (q := 212) (v := (h 98 (((96 + x2) + x4) - x3))) (hl2.a 98 (by decide) rfl) (p3 c1) (p4 c1) ((w_na (by decide)).trans (w_na (by decide))) dX13_readRepeat_211 rfl ?_
    refine z_isn (q := 213) (hl2.i 98 (by decide) rfl) (hl2.n 98 (by decide) rfl) (p5 c1) (p6 c1) dX13_readRepeat_212 rfl ?_
    have hl3 := hl2.wr (v := (h 98 (((96 + x2) + x4) - x3))) (hl2.i 98 (by decide) rfl) (i := ((96 + x2) + x4)) rfl
    refine z_iinc (q := 216) (L' := [(0, 2, 88), (1, 0, x1), (2, 0, x2), (3, 0, x3), (4, 0, (x4 + 1))]) 4 dX13_readRepeat_213 rfl rfl (by decide) rfl ?_
    refine z_goto (t := 127) dX13_readRepeat_216 (by decide) ?_
    exact u2 c1 hl3
theorem b_X13_readRepeat_123 {D : zD} {d : Nat} {G : zG} {h : zH} {Q : zO → zG → zH → Prop} {s0 : Int} (p1 : ¬ s0 = -1)
    (u1 : Q (.inr s0) G h) :
    z_Y D M_X13_readRepeat d 123 [] [(2, s0)] G h Q := by
  intro hl0
  exact z_throw p1 dX13_readRepeat_123 (z_Y.out (by decide) u1 hl0)
theorem b_X13_readRepeat_93 {D : zD} {d : Nat} {G : zG} {h : zH} {Q : zO → zG → zH → Prop} {s0 : Int} (p1 : ¬ s0 = -1)
    (u1 : Q (.inr s0) G h) :
    z_Y D M_X13_readRepeat d 93 [] [(2, s0)] G h Q := by
  intro hl0
  exact z_throw p1 dX13_readRepeat_93 (z_Y.out (by decide) u1 hl0)
theorem b_X13_readRepeat_245 {D : zD} {d : Nat} {G : zG} {h : zH} {Q : zO → zG → zH → Prop}
    (u1 : Q (.inl none) G h) :
    z_Y D M_X13_readRepeat d 245 [] [] G h Q := by
  intro hl0
  exact z_vret rfl dX13_readRepeat_245 ⟨hl0, u1⟩
theorem b_X13_readStep_0 {D : zD} {d : Nat} {G : zG} {h : zH} {Q : zO → zG → zH → Prop} {x1 : Int} (p1 : z_in (h 95 8)) (p2 : ¬ (h 95 8) = 12 → 0 ≤ (96 + (h 95 8))) (p3 : ¬ (h 95 8) = 12 → (96 + (h 95 8)) < 108)
    (u1 : ¬ (h 95 8) = 12 → z_Kv D M_X13_scan d [(2, 88)] G (z_wr (z_wr (z_wr (z_wr h 95 8 ((h 95 8) + 1)) 96 (96 + (h 95 8)) x1) 97 (96 + (h 95 8)) 0) 98 (96 + (h 95 8)) 0) (fun G' h' => z_Y D M_X13_readStep d 69 [(0, 2, 88), (1, 0, x1), (2, 0, (96 + (h 95 8)))] [] G' h' Q))
    (u2 : ¬ (¬ (h 95 8) = 12) → z_Ka D M_X13_wrong d [(2, 88), (0, 3), (0, (h 88 16))] G h (fun r G' h' => z_Y D M_X13_readStep d 21 [] [(2, r)] G' h' Q)) :
    z_Y D M_X13_readStep d 0 [(0, 2, 88), (1, 0, x1)] [] G h Q := by
  intro hl0
  refine z_aload_n (q := 1) 0 dX13_readStep_0 rfl rfl ?_
  refine z_gf (q := 4) (ki := 8) (v := (2, 95)) fX13_29 rfl (z_ldr rfl (hl0.ref 87 rfl)) (hl0.i 88 (by decide) rfl) dX13_readStep_1 rfl ?_
  refine z_bipush (q := 6) dX13_readStep_4 rfl (by decide) ?_
  refine z_iale (q := 7) (v := (h 95 8)) (hl0.a 95 (by decide) rfl) (by decide) (by decide) rfl dX13_readStep_6 rfl ?_
  refine z_bipush (q := 9) dX13_readStep_7 rfl (by decide) ?_
  refine z_icmp_ne (q := 12) (t := 22) p1 ⟨by decide, by decide⟩ dX13_readStep_9 (by decide) rfl (fun c1 => ?_) (fun c1 => ?_)
  · refine z_bipush (q := 24) dX13_readStep_22 rfl (by decide) ?_
    refine z_aload_n (q := 25) 0 dX13_readStep_24 rfl rfl ?_
    refine z_gf (q := 28) (ki := 8) (v := (2, 95)) fX13_29 rfl (z_ldr rfl (hl0.ref 87 rfl)) (hl0.i 88 (by decide) rfl) dX13_readStep_25 rfl ?_
    refine z_bipush (q := 30) dX13_readStep_28 rfl (by decide) ?_
    refine z_iale (q := 31) (v := (h 95 8)) (hl0.a 95 (by decide) rfl) (by decide) (by decide) rfl dX13_readStep_30 rfl ?_
    refine z_iadd (q := 32) dX13_readStep_31 rfl ?_
    refine z_istore_n (q := 33) (L' := [(0, 2, 88), (1, 0, x1), (2, 0, (96 + (h 95 8)))]) dX13_readStep_32 rfl (by decide) rfl ?_
    refine z_aload_n (q := 34) 0 dX13_readStep_33 rfl rfl ?_
    refine z_gf (q := 37) (ki := 8) (v := (2, 95)) fX13_29 rfl (z_ldr rfl (hl0.ref 87 rfl)) (hl0.i 88 (by decide) rfl) dX13_readStep_34 rfl ?_
    refine z_bipush (q := 39) dX13_readStep_37 rfl (by decide) ?_
    refine z_dup2 (q := 40) (by decide) (by decide) dX13_readStep_39 rfl ?_
    refine z_iale (q := 41) (v := (h 95 8)) (hl0.a 95 (by decide) rfl) (by decide) (by decide) rfl dX13_readStep_40 rfl ?_
    refine z_iconst (q := 42) dX13_readStep_41 rfl ?_
    refine z_iadd (q := 43) dX13_readStep_42 rfl ?_
    refine z_isn (q := 44) (hl0.i 95 (by decide) rfl) (hl0.n 95 (by decide) rfl) (by decide) (by decide) dX13_readStep_43 rfl ?_
    have hl1 := hl0.wr (v := ((h 95 8) + 1)) (hl0.i 95 (by decide) rfl) (i := 8) rfl
    refine z_aload_n (q := 45) 0 dX13_readStep_44 rfl rfl ?_
    refine z_gf (q := 48) (ki := 9) (v := (2, 96)) fX13_32 rfl (z_ldr rfl (hl1.ref 88 rfl)) (hl1.i 88 (by decide) rfl) dX13_readStep_45 rfl ?_
    refine z_iload_n (q := 49) 2 dX13_readStep_48 rfl rfl ?_
    refine z_iload_n (q := 50) 1 dX13_readStep_49 rfl rfl ?_
    refine z_isn (q := 51) (hl1.i 96 (by decide) rfl) (hl1.n 96 (by decide) rfl) (p2 c1) (p3 c1) dX13_readStep_50 rfl ?_
    have hl2 := hl1.wr (v := x1) (hl1.i 96 (by decide) rfl) (i := (96 + (h 95 8))) rfl
    refine z_aload_n (q := 52) 0 dX13_readStep_51 rfl rfl ?_
    refine z_gf (q := 55) (ki := 10) (v := (2, 97)) fX13_35 rfl (z_ldr rfl (hl2.ref 89 rfl)) (hl2.i 88 (by decide) rfl) dX13_readStep_52 rfl ?_
    refine z_iload_n (q := 56) 2 dX13_readStep_55 rfl rfl ?_
    refine z_iconst (q := 57) dX13_readStep_56 rfl ?_
    refine z_isn (q := 58) (hl2.i 97 (by decide) rfl) (hl2.n 97 (by decide) rfl) (p2 c1) (p3 c1) dX13_readStep_57 rfl ?_
    have hl3 := hl2.wr (v := 0) (hl2.i 97 (by decide) rfl) (i := (96 + (h 95 8))) rfl
    refine z_aload_n (q := 59) 0 dX13_readStep_58 rfl rfl ?_
    refine z_gf (q := 62) (ki := 11) (v := (2, 98)) fX13_38 rfl (z_ldr rfl (hl3.ref 90 rfl)) (hl3.i 88 (by decide) rfl) dX13_readStep_59 rfl ?_
    refine z_iload_n (q := 63) 2 dX13_readStep_62 rfl rfl ?_
    refine z_iconst (q := 64) dX13_readStep_63 rfl ?_
    refine z_isn (q := 65) (hl3.i 98 (by decide) rfl) (hl3.n 98 (by decide) rfl) (p2 c1) (p3 c1) dX13_readStep_64 rfl ?_
    have hl4 := hl3.wr (v := 0) (hl3.i 98 (by decide) rfl) (i := (96 + (h 95 8))) rfl
    refine z_aload_n (q := 66) 0 dX13_readStep_65 rfl rfl ?_
    exact z_goV (q := 69) (av := []) (rest := []) cb11 (hl4.i 88 (by decide) rfl) z_tov hl4 (u1 c1) mo_X13_scan np_X13_scan k1359 k1361 k49 rfl (nle rfl) dX13_readStep_66 rfl
  · refine z_aload_n (q := 13) 0 dX13_readStep_12 rfl rfl ?_
    refine z_iconst (q := 14) dX13_readStep_13 rfl ?_
    refine z_aload_n (q := 15) 0 dX13_readStep_14 rfl rfl ?_
    refine z_gf (q := 18) (ki := 16) (v := (0, (h 88 16))) fX13_258 rfl rfl (hl0.i 88 (by decide) rfl) dX13_readStep_15 rfl ?_
    refine z_sub (L' := []) [] rfl ?_
    exact z_goV (q := 21) (av := [(0, 3), (0, (h 88 16))]) (rest := []) cb11 (hl0.i 88 (by decide) rfl) z_toa hl0 (u2 c1) mo_X13_wrong np_X13_wrong k1337 k1339 k46 rfl (nle rfl) dX13_readStep_18 rfl
theorem b_X13_readStep_69 {D : zD} {d : Nat} {G : zG} {h : zH} {Q : zO → zG → zH → Prop} {x1 x2 : Int} (p1 : z_in x1)
    (u1 : x1 = 1 → z_Y D M_X13_readStep d 104 [(0, 2, 88), (1, 0, x1), (2, 0, x2)] [] G h Q)
    (u2 : ¬ (x1 = 1) → x1 = 7 → z_Y D M_X13_readStep d 104 [(0, 2, 88), (1, 0, x1), (2, 0, x2)] [] G h Q)
    (u3 : ¬ (x1 = 1) → ¬ (x1 = 7) → x1 = 9 → z_Y D M_X13_readStep d 104 [(0, 2, 88), (1, 0, x1), (2, 0, x2)] [] G h Q)
    (u4 : ¬ (x1 = 1) → ¬ (x1 = 7) → ¬ (x1 = 9) → x1 = 13 → z_Y D M_X13_readStep d 104 [(0, 2, 88), (1, 0, x1), (2, 0, x2)] [] G h Q)
    (u5 : ¬ (x1 = 1) → ¬ (x1 = 7) → ¬ (x1 = 9) → ¬ (x1 = 13) → z_KT D M_X13_readStep M_X13_digit d 100 103 [(0, 2, 88), (1, 0, x1), (2, 0, x2)] [(0, x2), (2, 97)] [(2, 88), (0, 0), (0, 5)] G h Q) :
    z_Y D M_X13_readStep d 69 [(0, 2, 88), (1, 0, x1), (2, 0, x2)] [] G h Q := by
  intro hl0
  refine z_iload_n (q := 70) 1 dX13_readStep_69 rfl rfl ?_
  refine z_iconst (q := 71) dX13_readStep_70 rfl ?_
  refine z_icmp_eq (q := 74) (t := 104) p1 ⟨by decide, by decide⟩ dX13_readStep_71 (by decide) rfl (fun c1 => ?_) (fun c1 => ?_)
  · exact u1 c1 hl0
  · refine z_iload_n (q := 75) 1 dX13_readStep_74 rfl rfl ?_
    refine z_bipush (q := 77) dX13_readStep_75 rfl (by decide) ?_
    refine z_icmp_eq (q := 80) (t := 104) p1 ⟨by decide, by decide⟩ dX13_readStep_77 (by decide) rfl (fun c2 => ?_) (fun c2 => ?_)
    · exact u2 c1 c2 hl0
    · refine z_iload_n (q := 81) 1 dX13_readStep_80 rfl rfl ?_
      refine z_bipush (q := 83) dX13_readStep_81 rfl (by decide) ?_
      refine z_icmp_eq (q := 86) (t := 104) p1 ⟨by decide, by decide⟩ dX13_readStep_83 (by decide) rfl (fun c3 => ?_) (fun c3 => ?_)
      · exact u3 c1 c2 c3 hl0
      · refine z_iload_n (q := 87) 1 dX13_readStep_86 rfl rfl ?_
        refine z_bipush (q := 89) dX13_readStep_87 rfl (by decide) ?_
        refine z_icmp_eq (q := 92) (t := 104) p1 ⟨by decide, by decide⟩ dX13_readStep_89 (by decide) rfl (fun c4 => ?_) (fun c4 => ?_)
        · exact u4 c1 c2 c3 c4 hl0
        · refine z_aload_n (q := 93) 0 dX13_readStep_92 rfl rfl ?_
          refine z_gf (q := 96) (ki := 10) (v := (2, 97)) fX13_35 rfl (z_ldr rfl (hl0.ref 89 rfl)) (hl0.i 88 (by decide) rfl) dX13_readStep_93 rfl ?_
          refine z_iload_n (q := 97) 2 dX13_readStep_96 rfl rfl ?_
          refine z_aload_n (q := 98) 0 dX13_readStep_97 rfl rfl ?_
          refine z_iconst (q := 99) dX13_readStep_98 rfl ?_
          refine z_iconst (q := 100) dX13_readStep_99 rfl ?_
          exact z_goVT (q := 103) (av := [(0, 0), (0, 5)]) (rest := [(0, x2), (2, 97)]) cb11 (hl0.i 88 (by decide) rfl) hl0 (u5 c1 c2 c3 c4) mo_X13_digit np_X13_digit k1433 k1435 k54 rfl (nle rfl) dX13_readStep_100 rfl
theorem b_X13_readStep_21 {D : zD} {d : Nat} {G : zG} {h : zH} {Q : zO → zG → zH → Prop} {s0 : Int} (p1 : ¬ s0 = -1)
    (u1 : Q (.inr s0) G h) :
    z_Y D M_X13_readStep d 21 [] [(2, s0)] G h Q := by
  intro hl0
  exact z_throw p1 dX13_readStep_21 (z_Y.out (by decide) u1 hl0)
theorem b_X13_readStep_104 {D : zD} {d : Nat} {G : zG} {h : zH} {Q : zO → zG → zH → Prop} {x1 x2 : Int} (p1 : z_in x1)
    (u1 : x1 = 3 → z_Y D M_X13_readStep d 114 [(0, 2, 88), (1, 0, x1), (2, 0, x2)] [] G h Q)
    (u2 : ¬ (x1 = 3) → ¬ x1 = 5 → z_Y D M_X13_readStep d 124 [(0, 2, 88), (1, 0, x1), (2, 0, x2)] [] G h Q)
    (u3 : ¬ (x1 = 3) → ¬ (¬ x1 = 5) → z_Y D M_X13_readStep d 114 [(0, 2, 88), (1, 0, x1), (2, 0, x2)] [] G h Q) :
    z_Y D M_X13_readStep d 104 [(0, 2, 88), (1, 0, x1), (2, 0, x2)] [] G h Q := by
  intro hl0
  refine z_iload_n (q := 105) 1 dX13_readStep_104 rfl rfl ?_
  refine z_iconst (q := 106) dX13_readStep_105 rfl ?_
  refine z_icmp_eq (q := 109) (t := 114) p1 ⟨by decide, by decide⟩ dX13_readStep_106 (by decide) rfl (fun c1 => ?_) (fun c1 => ?_)
  · exact u1 c1 hl0
  · refine z_iload_n (q := 110) 1 dX13_readStep_109 rfl rfl ?_
    refine z_iconst (q := 111) dX13_readStep_110 rfl ?_
    refine z_icmp_ne (q := 114) (t := 124) p1 ⟨by decide, by decide⟩ dX13_readStep_111 (by decide) rfl (fun c2 => ?_) (fun c2 => ?_)
    · exact u2 c1 c2 hl0
    · exact u3 c1 c2 hl0
theorem b_X13_readStep_103 {D : zD} {d : Nat} {G : zG} {h : zH} {Q : zO → zG → zH → Prop} {s1 s2 x1 x2 : Int} (p1 : 0 ≤ s1) (p2 : s1 < 108)
    (u1 : z_Y D M_X13_readStep d 104 [(0, 2, 88), (1, 0, x1), (2, 0, x2)] [] G (z_wr h 97 s1 s2) Q) :
    z_Y D M_X13_readStep d 103 [(0, 2, 88), (1, 0, x1), (2, 0, x2)] [(0, s2), (0, s1), (2, 97)] G h Q := by
  intro hl0
  refine z_isn (q := 104) (hl0.i 97 (by decide) rfl) (hl0.n 97 (by decide) rfl) p1 p2 dX13_readStep_103 rfl ?_
  have hl1 := hl0.wr (v := s2) (hl0.i 97 (by decide) rfl) (i := s1) rfl
  exact u1 hl1
theorem b_X13_readStep_114 {D : zD} {d : Nat} {G : zG} {h : zH} {Q : zO → zG → zH → Prop} {x1 x2 : Int}
    (u1 : z_KT D M_X13_readStep M_X13_mark d 120 123 [(0, 2, 88), (1, 0, x1), (2, 0, x2)] [(0, x2), (2, 98)] [(2, 88)] G h Q) :
    z_Y D M_X13_readStep d 114 [(0, 2, 88), (1, 0, x1), (2, 0, x2)] [] G h Q := by
  intro hl0
  refine z_aload_n (q := 115) 0 dX13_readStep_114 rfl rfl ?_
  refine z_gf (q := 118) (ki := 11) (v := (2, 98)) fX13_38 rfl (z_ldr rfl (hl0.ref 90 rfl)) (hl0.i 88 (by decide) rfl) dX13_readStep_115 rfl ?_
  refine z_iload_n (q := 119) 2 dX13_readStep_118 rfl rfl ?_
  refine z_aload_n (q := 120) 0 dX13_readStep_119 rfl rfl ?_
  exact z_goVT (q := 123) (av := []) (rest := [(0, x2), (2, 98)]) cb11 (hl0.i 88 (by decide) rfl) hl0 (u1) mo_X13_mark np_X13_mark k1441 k1443 k56 rfl (nle rfl) dX13_readStep_120 rfl
theorem b_X13_readStep_124 {D : zD} {d : Nat} {G : zG} {h : zH} {Q : zO → zG → zH → Prop} {x1 x2 : Int} (p1 : z_in x1)
    (u1 : ¬ x1 = 11 → z_Y D M_X13_readStep d 142 [(0, 2, 88)] [] G h Q)
    (u2 : ¬ (¬ x1 = 11) → z_KT D M_X13_readStep M_X13_digit d 138 141 [(0, 2, 88)] [(0, x2), (2, 98)] [(2, 88), (0, 0), (0, 5)] G h Q) :
    z_Y D M_X13_readStep d 124 [(0, 2, 88), (1, 0, x1), (2, 0, x2)] [] G h Q := by
  intro hl0
  refine z_iload_n (q := 125) 1 dX13_readStep_124 rfl rfl ?_
  refine z_bipush (q := 127) dX13_readStep_125 rfl (by decide) ?_
  refine z_icmp_ne (q := 130) (t := 142) p1 ⟨by decide, by decide⟩ dX13_readStep_127 (by decide) rfl (fun c1 => ?_) (fun c1 => ?_)
  · refine z_sub (L' := [(0, 2, 88)]) [0] rfl ?_
    exact u1 c1 hl0
  · refine z_aload_n (q := 131) 0 dX13_readStep_130 rfl rfl ?_
    refine z_gf (q := 134) (ki := 11) (v := (2, 98)) fX13_38 rfl (z_ldr rfl (hl0.ref 90 rfl)) (hl0.i 88 (by decide) rfl) dX13_readStep_131 rfl ?_
    refine z_iload_n (q := 135) 2 dX13_readStep_134 rfl rfl ?_
    refine z_aload_n (q := 136) 0 dX13_readStep_135 rfl rfl ?_
    refine z_iconst (q := 137) dX13_readStep_136 rfl ?_
    refine z_iconst (q := 138) dX13_readStep_137 rfl ?_
    refine z_sub (L' := [(0, 2, 88)]) [0] rfl ?_
    exact z_goVT (q := 141) (av := [(0, 0), (0, 5)]) (rest := [(0, x2), (2, 98)]) cb11 (hl0.i 88 (by decide) rfl) hl0 (u2 c1) mo_X13_digit np_X13_digit k1433 k1435 k54 rfl (nle rfl) dX13_readStep_138 rfl
theorem b_X13_readStep_123 {D : zD} {d : Nat} {G : zG} {h : zH} {Q : zO → zG → zH → Prop} {s1 s2 x1 x2 : Int} (p1 : 0 ≤ s1) (p2 : s1 < 108)
    (u1 : z_Y D M_X13_readStep d 124 [(0, 2, 88), (1, 0, x1), (2, 0, x2)] [] G (z_wr h 98 s1 s2) Q) :
    z_Y D M_X13_readStep d 123 [(0, 2, 88), (1, 0, x1), (2, 0, x2)] [(0, s2), (0, s1), (2, 98)] G h Q := by
  intro hl0
  refine z_isn (q := 124) (hl0.i 98 (by decide) rfl) (hl0.n 98 (by decide) rfl) p1 p2 dX13_readStep_123 rfl ?_
  have hl1 := hl0.wr (v := s2) (hl0.i 98 (by decide) rfl) (i := s1) rfl
  exact u1 hl1
theorem b_X13_readStep_142 {D : zD} {d : Nat} {G : zG} {h : zH} {Q : zO → zG → zH → Prop}
    (u1 : z_KT D M_X13_readStep M_X13_needSign d 145 148 [] [] [(2, 88), (0, 59)] G h Q) :
    z_Y D M_X13_readStep d 142 [(0, 2, 88)] [] G h Q := by
  intro hl0
  refine z_aload_n (q := 143) 0 dX13_readStep_142 rfl rfl ?_
  refine z_bipush (q := 145) dX13_readStep_143 rfl (by decide) ?_
  refine z_sub (L' := []) [] rfl ?_
  exact z_goVT (q := 148) (av := [(0, 59)]) (rest := []) cb11 (hl0.i 88 (by decide) rfl) hl0 (u1) mo_X13_needSign np_X13_needSign k1445 k1447 k57 rfl (nle rfl) dX13_readStep_145 rfl
theorem b_X13_readStep_141 {D : zD} {d : Nat} {G : zG} {h : zH} {Q : zO → zG → zH → Prop} {s1 s2 : Int} (p1 : 0 ≤ s1) (p2 : s1 < 108)
    (u1 : z_Y D M_X13_readStep d 142 [(0, 2, 88)] [] G (z_wr h 98 s1 s2) Q) :
    z_Y D M_X13_readStep d 141 [(0, 2, 88)] [(0, s2), (0, s1), (2, 98)] G h Q := by
  intro hl0
  refine z_isn (q := 142) (hl0.i 98 (by decide) rfl) (hl0.n 98 (by decide) rfl) p1 p2 dX13_readStep_141 rfl ?_
  have hl1 := hl0.wr (v := s2) (hl0.i 98 (by decide) rfl) (i := s1) rfl
  exact u1 hl1
theorem b_X13_readStep_148 {D : zD} {d : Nat} {G : zG} {h : zH} {Q : zO → zG → zH → Prop}
    (u1 : Q (.inl none) G h) :
    z_Y D M_X13_readStep d 148 [] [] G h Q := by
  intro hl0
  exact z_vret rfl dX13_readStep_148 ⟨hl0, u1⟩
theorem b_X13_way_0 {D : zD} {d : Nat} {G : zG} {h : zH} {Q : zO → zG → zH → Prop} {x1 : Int}
    (u1 : z_Kv D M_X13_begin d [(2, 88)] G h (fun G' h' => z_Y D M_X13_way d 14 [(0, 2, 88), (1, 0, x1), (2, 0, (h 88 20)), (3, 0, (h 88 21))] [] G' h' Q)) :
    z_Y D M_X13_way d 0 [(0, 2, 88), (1, 0, x1)] [] G h Q := by
  intro hl0
  refine z_aload_n (q := 1) 0 dX13_way_0 rfl rfl ?_
  refine z_gf (q := 4) (ki := 20) (v := (0, (h 88 20))) fX13_233 rfl rfl (hl0.i 88 (by decide) rfl) dX13_way_1 rfl ?_
  refine z_istore_n (q := 5) (L' := [(0, 2, 88), (1, 0, x1), (2, 0, (h 88 20))]) dX13_way_4 rfl (by decide) rfl ?_
  refine z_aload_n (q := 6) 0 dX13_way_5 rfl rfl ?_
  refine z_gf (q := 9) (ki := 21) (v := (0, (h 88 21))) fX13_52 rfl rfl (hl0.i 88 (by decide) rfl) dX13_way_6 rfl ?_
  refine z_istore_n (q := 10) (L' := [(0, 2, 88), (1, 0, x1), (2, 0, (h 88 20)), (3, 0, (h 88 21))]) dX13_way_9 rfl (by decide) rfl ?_
  refine z_aload_n (q := 11) 0 dX13_way_10 rfl rfl ?_
  exact z_goV (q := 14) (av := []) (rest := []) cb11 (hl0.i 88 (by decide) rfl) z_tov hl0 (u1) mo_X13_begin np_X13_begin k1307 k1309 k42 rfl (nle rfl) dX13_way_11 rfl
theorem b_X13_way_14 {D : zD} {d : Nat} {G : zG} {h : zH} {Q : zO → zG → zH → Prop} {x1 x2 x3 : Int} (hd : 3 ≤ d) (p1 : z_in x1)
    (u1 : 0 ≤ x1 ∧ x1 ≤ 7 → z_Kv D M_X13_scan d [(2, 88)] G (z_wr (z_wr h 95 8 0) 88 19 0) (fun G' h' => z_Y D M_X13_way d 51 [(0, 2, 88), (1, 0, x1)] [] G' h' Q))
    (u2 : ¬ (0 ≤ x1 ∧ x1 ≤ 7) → Q (.inl (some (0, (-2)))) G (z_wr (z_wr h 88 20 x2) 88 21 x3)) :
    z_Y D M_X13_way d 14 [(0, 2, 88), (1, 0, x1), (2, 0, x2), (3, 0, x3)] [] G h Q := by
  intro hl0
  refine z_iload_n (q := 15) 1 dX13_way_14 rfl rfl ?_
  have e1 := a_X13_isWay (D := D) (G := G) (h := h) (d := d - 1) (by omega) x1 p1
  refine z_goS (q := 18) (av := [(0, x1)]) (rest := []) (z_toi) hl0 (z_Ei.K e1 (by omega) ?_) mo_X13_isWay np_X13_isWay k1356 k1357 rfl (nle rfl) dX13_way_15 rfl
  by_cases c1 : 0 ≤ x1 ∧ x1 ≤ 7
  · rw [z_b1 c1]
    refine z_if_ne (q := 21) (t := 34) ⟨by decide, by decide⟩ dX13_way_18 (by decide) rfl (fun _ => ?_) (fun c => absurd c (by decide))
    refine z_aload_n (q := 35) 0 dX13_way_34 rfl rfl ?_
    refine z_gf (q := 38) (ki := 8) (v := (2, 95)) fX13_29 rfl (z_ldr rfl (hl0.ref 87 rfl)) (hl0.i 88 (by decide) rfl) dX13_way_35 rfl ?_
    refine z_bipush (q := 40) dX13_way_38 rfl (by decide) ?_
    refine z_iconst (q := 41) dX13_way_40 rfl ?_
    refine z_isn (q := 42) (hl0.i 95 (by decide) rfl) (hl0.n 95 (by decide) rfl) (by decide) (by decide) dX13_way_41 rfl ?_
    have hl1 := hl0.wr (v := 0) (hl0.i 95 (by decide) rfl) (i := 8) rfl
    refine z_aload_n (q := 43) 0 dX13_way_42 rfl rfl ?_
    refine z_iconst (q := 44) dX13_way_43 rfl ?_
    refine z_pf (q := 47) (ki := 19) fX13_297 rfl (z_sv0 rfl) (hl1.i 88 (by decide) rfl) dX13_way_44 rfl ?_
    have hl2 := hl1.wr (v := 0) (hl1.i 88 (by decide) rfl) (i := 19) (by decide)
    refine z_aload_n (q := 48) 0 dX13_way_47 rfl rfl ?_
    refine z_sub (L' := [(0, 2, 88), (1, 0, x1)]) [0, 1] rfl ?_
    exact z_goV (q := 51) (av := []) (rest := []) cb11 (hl2.i 88 (by decide) rfl) z_tov hl2 (u1 c1) mo_X13_scan np_X13_scan k1359 k1361 k49 rfl (nle rfl) dX13_way_48 rfl
  · rw [z_b0 c1]
    refine z_if_ne (q := 21) (t := 34) ⟨by decide, by decide⟩ dX13_way_18 (by decide) rfl (fun c => absurd c (by decide)) (fun _ => ?_)
    refine z_aload_n (q := 22) 0 dX13_way_21 rfl rfl ?_
    refine z_iload_n (q := 23) 2 dX13_way_22 rfl rfl ?_
    refine z_pf (q := 26) (ki := 20) fX13_233 rfl (z_sv0 rfl) (hl0.i 88 (by decide) rfl) dX13_way_23 rfl ?_
    have hl1 := hl0.wr (v := x2) (hl0.i 88 (by decide) rfl) (i := 20) (by decide)
    refine z_aload_n (q := 27) 0 dX13_way_26 rfl rfl ?_
    refine z_iload_n (q := 28) 3 dX13_way_27 rfl rfl ?_
    refine z_pf (q := 31) (ki := 21) fX13_52 rfl (z_sv0 rfl) (hl1.i 88 (by decide) rfl) dX13_way_28 rfl ?_
    have hl2 := hl1.wr (v := x3) (hl1.i 88 (by decide) rfl) (i := 21) (by decide)
    refine z_bipush (q := 33) dX13_way_31 rfl (by decide) ?_
    exact z_iret rfl dX13_way_33 ⟨hl2, u2 c1⟩
theorem b_X13_way_51 {D : zD} {d : Nat} {G : zG} {h : zH} {Q : zO → zG → zH → Prop} {x1 : Int}
    (u1 : z_KT D M_X13_way M_X13_readWay d 52 55 [(0, 2, 88), (1, 0, x1)] [] [(2, 88)] G h Q) :
    z_Y D M_X13_way d 51 [(0, 2, 88), (1, 0, x1)] [] G h Q := by
  intro hl0
  refine z_aload_n (q := 52) 0 dX13_way_51 rfl rfl ?_
  exact z_goVT (q := 55) (av := []) (rest := []) cb11 (hl0.i 88 (by decide) rfl) hl0 (u1) mo_X13_readWay np_X13_readWay k1363 k1365 k50 rfl (nle rfl) dX13_way_52 rfl
theorem b_X13_way_55 {D : zD} {d : Nat} {G : zG} {h : zH} {Q : zO → zG → zH → Prop} {x1 : Int} (p1 : z_in (h 88 18))
    (u1 : (h 88 18) = 0 → z_Kv D M_X13_takeWay d [(2, 88), (0, x1), (0, 8)] G h (fun G' h' => z_Y D M_X13_way d 86 [(0, 2, 88), (1, 0, x1)] [] G' h' Q))
    (u2 : ¬ ((h 88 18) = 0) → z_Ka D M_X13_wrong d [(2, 88), (0, 1), (0, (h 88 16))] G h (fun r G' h' => z_Y D M_X13_way d 71 [] [(2, r)] G' h' Q)) :
    z_Y D M_X13_way d 55 [(0, 2, 88), (1, 0, x1)] [] G h Q := by
  intro hl0
  refine z_aload_n (q := 56) 0 dX13_way_55 rfl rfl ?_
  refine z_gf (q := 59) (ki := 18) (v := (0, (h 88 18))) fX13_261 rfl rfl (hl0.i 88 (by decide) rfl) dX13_way_56 rfl ?_
  refine z_if_eq (q := 62) (t := 72) p1 dX13_way_59 (by decide) rfl (fun c1 => ?_) (fun c1 => ?_)
  · refine z_goto (t := 79) dX13_way_72 (by decide) ?_
    refine z_aload_n (q := 80) 0 dX13_way_79 rfl rfl ?_
    refine z_iload_n (q := 81) 1 dX13_way_80 rfl rfl ?_
    refine z_bipush (q := 83) dX13_way_81 rfl (by decide) ?_
    exact z_goV (q := 86) (av := [(0, x1), (0, 8)]) (rest := []) cb11 (hl0.i 88 (by decide) rfl) z_tov hl0 (u1 c1) mo_X13_takeWay np_X13_takeWay k1449 k1451 k58 rfl (nle rfl) dX13_way_83 rfl
  · refine z_aload_n (q := 63) 0 dX13_way_62 rfl rfl ?_
    refine z_iconst (q := 64) dX13_way_63 rfl ?_
    refine z_aload_n (q := 65) 0 dX13_way_64 rfl rfl ?_
    refine z_gf (q := 68) (ki := 16) (v := (0, (h 88 16))) fX13_258 rfl rfl (hl0.i 88 (by decide) rfl) dX13_way_65 rfl ?_
    refine z_sub (L' := []) [] rfl ?_
    exact z_goV (q := 71) (av := [(0, 1), (0, (h 88 16))]) (rest := []) cb11 (hl0.i 88 (by decide) rfl) z_toa hl0 (u2 c1) mo_X13_wrong np_X13_wrong k1337 k1339 k46 rfl (nle rfl) dX13_way_68 rfl
theorem b_X13_way_75 {D : zD} {d : Nat} {G : zG} {h : zH} {Q : zO → zG → zH → Prop} {s0 : Int}
    (u1 : Q (.inl (some (0, (-1)))) G h) :
    z_Y D M_X13_way d 75 [] [(2, s0)] G h Q := by
  intro hl0
  refine z_astore (q := 77) (L' := [(4, 2, s0)]) dX13_way_75 rfl (by decide) rfl ?_
  refine z_iconst (q := 78) dX13_way_77 rfl ?_
  exact z_iret rfl dX13_way_78 ⟨hl0, u1⟩
theorem b_X13_way_86 {D : zD} {d : Nat} {G : zG} {h : zH} {Q : zO → zG → zH → Prop} {x1 : Int} (p1 : 0 ≤ x1) (p2 : x1 < 9)
    (u1 : Q (.inl (some (0, (h 95 x1)))) G h) :
    z_Y D M_X13_way d 86 [(0, 2, 88), (1, 0, x1)] [] G h Q := by
  intro hl0
  refine z_aload_n (q := 87) 0 dX13_way_86 rfl rfl ?_
  refine z_gf (q := 90) (ki := 8) (v := (2, 95)) fX13_29 rfl (z_ldr rfl (hl0.ref 87 rfl)) (hl0.i 88 (by decide) rfl) dX13_way_87 rfl ?_
  refine z_iload_n (q := 91) 1 dX13_way_90 rfl rfl ?_
  refine z_iale (q := 92) (v := (h 95 x1)) (hl0.a 95 (by decide) rfl) p1 p2 rfl dX13_way_91 rfl ?_
  exact z_iret rfl dX13_way_92 ⟨hl0, u1⟩
theorem b_X13_way_71 {D : zD} {d : Nat} {G : zG} {h : zH} {Q : zO → zG → zH → Prop} {s0 : Int} (p1 : ¬ s0 = -1) (p2 : z_is G s0 10)
    (u1 : z_Y D M_X13_way d 75 [] [(2, s0)] G h Q) :
    z_Y D M_X13_way d 71 [] [(2, s0)] G h Q := by
  intro hl0
  exact z_throw p1 dX13_way_71 (z_Y.catch rfl (by decide) (by decide) (by decide) cb10 p2 k1097 (fun hl => z_sub (L' := []) [] rfl (u1 hl)) hl0)
theorem b_X13_table_0 {D : zD} {d : Nat} {G : zG} {h : zH} {Q : zO → zG → zH → Prop} {x1 : Int}
    (u1 : z_Kv D M_X13_begin d [(2, 88)] G h (fun G' h' => z_Y D M_X13_table d 14 [(0, 2, 88), (1, 0, x1), (2, 0, (h 88 20)), (3, 0, (h 88 21))] [] G' h' Q)) :
    z_Y D M_X13_table d 0 [(0, 2, 88), (1, 0, x1)] [] G h Q := by
  intro hl0
  refine z_aload_n (q := 1) 0 dX13_table_0 rfl rfl ?_
  refine z_gf (q := 4) (ki := 20) (v := (0, (h 88 20))) fX13_233 rfl rfl (hl0.i 88 (by decide) rfl) dX13_table_1 rfl ?_
  refine z_istore_n (q := 5) (L' := [(0, 2, 88), (1, 0, x1), (2, 0, (h 88 20))]) dX13_table_4 rfl (by decide) rfl ?_
  refine z_aload_n (q := 6) 0 dX13_table_5 rfl rfl ?_
  refine z_gf (q := 9) (ki := 21) (v := (0, (h 88 21))) fX13_52 rfl rfl (hl0.i 88 (by decide) rfl) dX13_table_6 rfl ?_
  refine z_istore_n (q := 10) (L' := [(0, 2, 88), (1, 0, x1), (2, 0, (h 88 20)), (3, 0, (h 88 21))]) dX13_table_9 rfl (by decide) rfl ?_
  refine z_aload_n (q := 11) 0 dX13_table_10 rfl rfl ?_
  exact z_goV (q := 14) (av := []) (rest := []) cb11 (hl0.i 88 (by decide) rfl) z_tov hl0 (u1) mo_X13_begin np_X13_begin k1307 k1309 k42 rfl (nle rfl) dX13_table_11 rfl
theorem b_X13_table_14 {D : zD} {d : Nat} {G : zG} {h : zH} {Q : zO → zG → zH → Prop} {x1 x2 x3 : Int} (hd : 3 ≤ d) (p1 : z_in x1)
    (u1 : 0 ≤ x1 ∧ x1 ≤ 7 → z_KT D M_X13_table M_X13_readTable d 35 38 [(0, 2, 88), (1, 0, x1)] [] [(2, 88)] G h Q)
    (u2 : ¬ (0 ≤ x1 ∧ x1 ≤ 7) → Q (.inl (some (0, (-2)))) G (z_wr (z_wr h 88 20 x2) 88 21 x3)) :
    z_Y D M_X13_table d 14 [(0, 2, 88), (1, 0, x1), (2, 0, x2), (3, 0, x3)] [] G h Q := by
  intro hl0
  refine z_iload_n (q := 15) 1 dX13_table_14 rfl rfl ?_
  have e1 := a_X13_isTable (D := D) (G := G) (h := h) (d := d - 1) (by omega) x1 p1
  refine z_goS (q := 18) (av := [(0, x1)]) (rest := []) (z_toi) hl0 (z_Ei.K e1 (by omega) ?_) mo_X13_isTable np_X13_isTable k1311 k1312 rfl (nle rfl) dX13_table_15 rfl
  by_cases c1 : 0 ≤ x1 ∧ x1 ≤ 7
  · rw [z_b1 c1]
    refine z_if_ne (q := 21) (t := 34) ⟨by decide, by decide⟩ dX13_table_18 (by decide) rfl (fun _ => ?_) (fun c => absurd c (by decide))
    refine z_aload_n (q := 35) 0 dX13_table_34 rfl rfl ?_
    refine z_sub (L' := [(0, 2, 88), (1, 0, x1)]) [0, 1] rfl ?_
    exact z_goVT (q := 38) (av := []) (rest := []) cb11 (hl0.i 88 (by decide) rfl) hl0 (u1 c1) mo_X13_readTable np_X13_readTable k1315 k1317 k43 rfl (nle rfl) dX13_table_35 rfl
  · rw [z_b0 c1]
    refine z_if_ne (q := 21) (t := 34) ⟨by decide, by decide⟩ dX13_table_18 (by decide) rfl (fun c => absurd c (by decide)) (fun _ => ?_)
    refine z_aload_n (q := 22) 0 dX13_table_21 rfl rfl ?_
    refine z_iload_n (q := 23) 2 dX13_table_22 rfl rfl ?_
    refine z_pf (q := 26) (ki := 20) fX13_233 rfl (z_sv0 rfl) (hl0.i 88 (by decide) rfl) dX13_table_23 rfl ?_
    have hl1 := hl0.wr (v := x2) (hl0.i 88 (by decide) rfl) (i := 20) (by decide)
    refine z_aload_n (q := 27) 0 dX13_table_26 rfl rfl ?_
    refine z_iload_n (q := 28) 3 dX13_table_27 rfl rfl ?_
    refine z_pf (q := 31) (ki := 21) fX13_52 rfl (z_sv0 rfl) (hl1.i 88 (by decide) rfl) dX13_table_28 rfl ?_
    have hl2 := hl1.wr (v := x3) (hl1.i 88 (by decide) rfl) (i := 21) (by decide)
    refine z_bipush (q := 33) dX13_table_31 rfl (by decide) ?_
    exact z_iret rfl dX13_table_33 ⟨hl2, u2 c1⟩
theorem b_X13_table_38 {D : zD} {d : Nat} {G : zG} {h : zH} {Q : zO → zG → zH → Prop} {x1 : Int}
    (u1 : z_Kv D M_X13_become d [(2, 88), (0, x1), (0, 10)] G h (fun G' h' => z_Y D M_X13_table d 52 [(0, 2, 88), (1, 0, x1)] [] G' h' Q)) :
    z_Y D M_X13_table d 38 [(0, 2, 88), (1, 0, x1)] [] G h Q := by
  intro hl0
  refine z_goto (t := 45) dX13_table_38 (by decide) ?_
  refine z_aload_n (q := 46) 0 dX13_table_45 rfl rfl ?_
  refine z_iload_n (q := 47) 1 dX13_table_46 rfl rfl ?_
  refine z_bipush (q := 49) dX13_table_47 rfl (by decide) ?_
  exact z_goV (q := 52) (av := [(0, x1), (0, 10)]) (rest := []) cb11 (hl0.i 88 (by decide) rfl) z_tov hl0 (u1) mo_X13_become np_X13_become k1348 k1350 k48 rfl (nle rfl) dX13_table_49 rfl
theorem b_X13_table_41 {D : zD} {d : Nat} {G : zG} {h : zH} {Q : zO → zG → zH → Prop} {s0 : Int}
    (u1 : Q (.inl (some (0, (-1)))) G h) :
    z_Y D M_X13_table d 41 [] [(2, s0)] G h Q := by
  intro hl0
  refine z_astore (q := 43) (L' := [(4, 2, s0)]) dX13_table_41 rfl (by decide) rfl ?_
  refine z_iconst (q := 44) dX13_table_43 rfl ?_
  exact z_iret rfl dX13_table_44 ⟨hl0, u1⟩
theorem b_X13_table_52 {D : zD} {d : Nat} {G : zG} {h : zH} {Q : zO → zG → zH → Prop} {x1 : Int} (p1 : 0 ≤ x1) (p2 : x1 < 12)
    (u1 : Q (.inl (some (0, (h 89 x1)))) G h) :
    z_Y D M_X13_table d 52 [(0, 2, 88), (1, 0, x1)] [] G h Q := by
  intro hl0
  refine z_aload_n (q := 53) 0 dX13_table_52 rfl rfl ?_
  refine z_gf (q := 56) (ki := 0) (v := (2, 89)) fX13_9 rfl (z_ldr rfl (hl0.ref 81 rfl)) (hl0.i 88 (by decide) rfl) dX13_table_53 rfl ?_
  refine z_iload_n (q := 57) 1 dX13_table_56 rfl rfl ?_
  refine z_iale (q := 58) (v := (h 89 x1)) (hl0.a 89 (by decide) rfl) p1 p2 rfl dX13_table_57 rfl ?_
  exact z_iret rfl dX13_table_58 ⟨hl0, u1⟩
theorem b_X11_way_0 {D : zD} {d : Nat} {G : zG} {h : zH} {Q : zO → zG → zH → Prop} {x1 : Int}
    (u1 : z_Ki D M_X11_emptyTape d [(2, 0)] G h (fun r G' h' => z_Y D M_X11_way d 4 [(0, 2, 0), (1, 0, x1)] [(0, r)] G' h' Q)) :
    z_Y D M_X11_way d 0 [(0, 2, 0), (1, 0, x1)] [] G h Q := by
  intro hl0
  refine z_aload_n (q := 1) 0 dX11_way_0 rfl rfl ?_
  exact z_goV (q := 4) (av := []) (rest := []) cb9 (hl0.i 0 (by decide) rfl) z_toi hl0 (u1) mo_X11_emptyTape np_X11_emptyTape k457 k459 k1 rfl (nle rfl) dX11_way_1 rfl
theorem b_X11_way_4 {D : zD} {d : Nat} {G : zG} {h : zH} {Q : zO → zG → zH → Prop} {s0 x1 : Int} (hd : 2 ≤ d) (p1 : z_in x1)
    (u1 : 0 ≤ x1 ∧ x1 ≤ 7 → z_Kv D M_X10_read d [(2, 7), (2, 3), (0, s0)] G h (fun G' h' => z_Y D M_X11_way d 27 [(0, 2, 0), (1, 0, x1)] [] G' h' Q))
    (u2 : ¬ (0 ≤ x1 ∧ x1 ≤ 7) → Q (.inl (some (0, (-2)))) G h) :
    z_Y D M_X11_way d 4 [(0, 2, 0), (1, 0, x1)] [(0, s0)] G h Q := by
  intro hl0
  refine z_istore_n (q := 5) (L' := [(0, 2, 0), (1, 0, x1), (2, 0, s0)]) dX11_way_4 rfl (by decide) rfl ?_
  refine z_iload_n (q := 6) 1 dX11_way_5 rfl rfl ?_
  have e1 := a_X11_onShelf (D := D) (G := G) (h := h) (d := d - 1) (by omega) x1 p1
  refine z_goS (q := 9) (av := [(0, x1)]) (rest := []) (z_toi) hl0 (z_Ei.K e1 (by omega) ?_) mo_X11_onShelf np_X11_onShelf k461 k462 rfl (nle rfl) dX11_way_6 rfl
  by_cases c1 : 0 ≤ x1 ∧ x1 ≤ 7
  · rw [z_b1 c1]
    refine z_if_ne (q := 12) (t := 15) ⟨by decide, by decide⟩ dX11_way_9 (by decide) rfl (fun _ => ?_) (fun c => absurd c (by decide))
    refine z_aload_n (q := 16) 0 dX11_way_15 rfl rfl ?_
    refine z_gf (q := 19) (ki := 7) (v := (2, 7)) fX11_45 rfl (z_ldr rfl (hl0.ref 10 rfl)) (hl0.i 0 (by decide) rfl) dX11_way_16 rfl ?_
    refine z_aload_n (q := 20) 0 dX11_way_19 rfl rfl ?_
    refine z_gf (q := 23) (ki := 2) (v := (2, 3)) fX11_21 rfl (z_ldr rfl (hl0.ref 2 rfl)) (hl0.i 0 (by decide) rfl) dX11_way_20 rfl ?_
    refine z_iload_n (q := 24) 2 dX11_way_23 rfl rfl ?_
    refine z_sub (L' := [(0, 2, 0), (1, 0, x1)]) [0, 1] rfl ?_
    exact z_goV (q := 27) (av := [(2, 3), (0, s0)]) (rest := []) cb8 (hl0.i 7 (by decide) rfl) z_tov hl0 (u1 c1) mo_X10_read np_X10_read k519 k520 k521 rfl (nle rfl) dX11_way_24 rfl
  · rw [z_b0 c1]
    refine z_if_ne (q := 12) (t := 15) ⟨by decide, by decide⟩ dX11_way_9 (by decide) rfl (fun c => absurd c (by decide)) (fun _ => ?_)
    refine z_bipush (q := 14) dX11_way_12 rfl (by decide) ?_
    exact z_iret rfl dX11_way_14 ⟨hl0, u2 c1⟩
theorem b_X11_way_27 {D : zD} {d : Nat} {G : zG} {h : zH} {Q : zO → zG → zH → Prop} {x1 : Int} (p1 : z_in (h 7 1)) (p2 : (h 7 1) = 0 → 0 ≤ x1) (p3 : (h 7 1) = 0 → x1 < 8)
    (u1 : (h 7 1) = 0 → z_Kv D M_X9_become d [(2, (58 + 4 * x1)), (2, 8)] G (z_wr (z_wr h 0 4 (h 7 1)) 0 5 (h 7 2)) (fun G' h' => z_Y D M_X11_way d 74 [(0, 2, 0), (1, 0, x1)] [] G' h' Q))
    (u2 : ¬ ((h 7 1) = 0) → Q (.inl (some (0, (-1)))) G (z_wr (z_wr h 0 4 (h 7 1)) 0 5 (h 7 2))) :
    z_Y D M_X11_way d 27 [(0, 2, 0), (1, 0, x1)] [] G h Q := by
  intro hl0
  refine z_aload_n (q := 28) 0 dX11_way_27 rfl rfl ?_
  refine z_aload_n (q := 29) 0 dX11_way_28 rfl rfl ?_
  refine z_gf (q := 32) (ki := 7) (v := (2, 7)) fX11_45 rfl (z_ldr rfl (hl0.ref 10 rfl)) (hl0.i 0 (by decide) rfl) dX11_way_29 rfl ?_
  refine z_gf (q := 35) (ki := 1) (v := (0, (h 7 1))) fX11_118 rfl rfl (hl0.i 7 (by decide) rfl) dX11_way_32 rfl ?_
  refine z_pf (q := 38) (ki := 4) fX11_29 rfl (z_sv0 rfl) (hl0.i 0 (by decide) rfl) dX11_way_35 rfl ?_
  have hl1 := hl0.wr (v := (h 7 1)) (hl0.i 0 (by decide) rfl) (i := 4) (by decide)
  refine z_aload_n (q := 39) 0 dX11_way_38 rfl rfl ?_
  refine z_aload_n (q := 40) 0 dX11_way_39 rfl rfl ?_
  refine z_gf (q := 43) (ki := 7) (v := (2, 7)) fX11_45 rfl (z_ldr rfl (hl1.ref 10 rfl)) (hl1.i 0 (by decide) rfl) dX11_way_40 rfl ?_
  refine z_gf (q := 46) (ki := 2) (v := (0, (h 7 2))) fX11_119 rfl (z_ldi rfl (w_nj (by decide))) (hl1.i 7 (by decide) rfl) dX11_way_43 rfl ?_
  refine z_pf (q := 49) (ki := 5) fX11_32 rfl (z_sv0 rfl) (hl1.i 0 (by decide) rfl) dX11_way_46 rfl ?_
  have hl2 := hl1.wr (v := (h 7 2)) (hl1.i 0 (by decide) rfl) (i := 5) (by decide)
  refine z_aload_n (q := 50) 0 dX11_way_49 rfl rfl ?_
  refine z_gf (q := 53) (ki := 4) (v := (0, (h 7 1))) fX11_29 rfl (z_ldi rfl ((w_nj (by decide)).trans w_s)) (hl2.i 0 (by decide) rfl) dX11_way_50 rfl ?_
  refine z_if_eq (q := 56) (t := 58) p1 dX11_way_53 (by decide) rfl (fun c1 => ?_) (fun c1 => ?_)
  · refine z_aload_n (q := 59) 0 dX11_way_58 rfl rfl ?_
    refine z_gf (q := 62) (ki := 1) (v := (2, 2)) fX11_17 rfl (z_ldr rfl (hl2.ref 1 rfl)) (hl2.i 0 (by decide) rfl) dX11_way_59 rfl ?_
    refine z_iload_n (q := 63) 1 dX11_way_62 rfl rfl ?_
    refine z_aale (q := 64) 55 (by decide) (by decide) (hl2.a 2 (by decide) rfl) (p2 c1) (p3 c1) (hl2.wy (p2 c1) (p3 c1)) dX11_way_63 rfl ?_
    refine z_aload_n (q := 65) 0 dX11_way_64 rfl rfl ?_
    refine z_gf (q := 68) (ki := 7) (v := (2, 7)) fX11_45 rfl (z_ldr rfl (hl2.ref 10 rfl)) (hl2.i 0 (by decide) rfl) dX11_way_65 rfl ?_
    refine z_gf (q := 71) (ki := 0) (v := (2, 8)) fX11_120 rfl (z_ldr rfl (hl2.ref 7 rfl)) (hl2.i 7 (by decide) rfl) dX11_way_68 rfl ?_
    exact z_goV (q := 74) (av := [(2, 8)]) (rest := []) cb7 (hl0.wyi (p2 c1) (p3 c1)) z_tov hl2 (u1 c1) mo_X9_become np_X9_become k657 k658 k659 rfl (nle rfl) dX11_way_71 rfl
  · refine z_iconst (q := 57) dX11_way_56 rfl ?_
    exact z_iret rfl dX11_way_57 ⟨hl2, u2 c1⟩
theorem b_X11_way_74 {D : zD} {d : Nat} {G : zG} {h : zH} {Q : zO → zG → zH → Prop} {x1 : Int} (p1 : 0 ≤ x1) (p2 : x1 < 8)
    (u1 : Q (.inl (some (0, (h (58 + 4 * x1) 1)))) G h) :
    z_Y D M_X11_way d 74 [(0, 2, 0), (1, 0, x1)] [] G h Q := by
  intro hl0
  refine z_aload_n (q := 75) 0 dX11_way_74 rfl rfl ?_
  refine z_gf (q := 78) (ki := 1) (v := (2, 2)) fX11_17 rfl (z_ldr rfl (hl0.ref 1 rfl)) (hl0.i 0 (by decide) rfl) dX11_way_75 rfl ?_
  refine z_iload_n (q := 79) 1 dX11_way_78 rfl rfl ?_
  refine z_aale (q := 80) 55 (by decide) (by decide) (hl0.a 2 (by decide) rfl) p1 p2 (hl0.wy p1 p2) dX11_way_79 rfl ?_
  refine z_gf (q := 83) (ki := 1) (v := (0, (h (58 + 4 * x1) 1))) fX11_125 rfl rfl (hl0.wyi p1 p2) dX11_way_80 rfl ?_
  exact z_iret rfl dX11_way_83 ⟨hl0, u1⟩
theorem b_X11_table_0 {D : zD} {d : Nat} {G : zG} {h : zH} {Q : zO → zG → zH → Prop} {x1 : Int}
    (u1 : z_Ki D M_X11_emptyTape d [(2, 0)] G h (fun r G' h' => z_Y D M_X11_table d 4 [(0, 2, 0), (1, 0, x1)] [(0, r)] G' h' Q)) :
    z_Y D M_X11_table d 0 [(0, 2, 0), (1, 0, x1)] [] G h Q := by
  intro hl0
  refine z_aload_n (q := 1) 0 dX11_table_0 rfl rfl ?_
  exact z_goV (q := 4) (av := []) (rest := []) cb9 (hl0.i 0 (by decide) rfl) z_toi hl0 (u1) mo_X11_emptyTape np_X11_emptyTape k457 k459 k1 rfl (nle rfl) dX11_table_1 rfl
theorem b_X11_table_4 {D : zD} {d : Nat} {G : zG} {h : zH} {Q : zO → zG → zH → Prop} {s0 x1 : Int} (hd : 2 ≤ d) (p1 : z_in x1)
    (u1 : 0 ≤ x1 ∧ x1 ≤ 7 → z_Kv D M_X5_read d [(2, 4), (2, 3), (0, s0)] G h (fun G' h' => z_Y D M_X11_table d 27 [(0, 2, 0), (1, 0, x1)] [] G' h' Q))
    (u2 : ¬ (0 ≤ x1 ∧ x1 ≤ 7) → Q (.inl (some (0, (-2)))) G h) :
    z_Y D M_X11_table d 4 [(0, 2, 0), (1, 0, x1)] [(0, s0)] G h Q := by
  intro hl0
  refine z_istore_n (q := 5) (L' := [(0, 2, 0), (1, 0, x1), (2, 0, s0)]) dX11_table_4 rfl (by decide) rfl ?_
  refine z_iload_n (q := 6) 1 dX11_table_5 rfl rfl ?_
  have e1 := a_X11_onShelf (D := D) (G := G) (h := h) (d := d - 1) (by omega) x1 p1
  refine z_goS (q := 9) (av := [(0, x1)]) (rest := []) (z_toi) hl0 (z_Ei.K e1 (by omega) ?_) mo_X11_onShelf np_X11_onShelf k461 k462 rfl (nle rfl) dX11_table_6 rfl
  by_cases c1 : 0 ≤ x1 ∧ x1 ≤ 7
  · rw [z_b1 c1]
    refine z_if_ne (q := 12) (t := 15) ⟨by decide, by decide⟩ dX11_table_9 (by decide) rfl (fun _ => ?_) (fun c => absurd c (by decide))
    refine z_aload_n (q := 16) 0 dX11_table_15 rfl rfl ?_
    refine z_gf (q := 19) (ki := 6) (v := (2, 4)) fX11_38 rfl (z_ldr rfl (hl0.ref 5 rfl)) (hl0.i 0 (by decide) rfl) dX11_table_16 rfl ?_
    refine z_aload_n (q := 20) 0 dX11_table_19 rfl rfl ?_
    refine z_gf (q := 23) (ki := 2) (v := (2, 3)) fX11_21 rfl (z_ldr rfl (hl0.ref 2 rfl)) (hl0.i 0 (by decide) rfl) dX11_table_20 rfl ?_
    refine z_iload_n (q := 24) 2 dX11_table_23 rfl rfl ?_
    refine z_sub (L' := [(0, 2, 0), (1, 0, x1)]) [0, 1] rfl ?_
    exact z_goV (q := 27) (av := [(2, 3), (0, s0)]) (rest := []) cb4 (hl0.i 4 (by decide) rfl) z_tov hl0 (u1 c1) mo_X5_read np_X5_read k464 k465 k466 rfl (nle rfl) dX11_table_24 rfl
  · rw [z_b0 c1]
    refine z_if_ne (q := 12) (t := 15) ⟨by decide, by decide⟩ dX11_table_9 (by decide) rfl (fun c => absurd c (by decide)) (fun _ => ?_)
    refine z_bipush (q := 14) dX11_table_12 rfl (by decide) ?_
    exact z_iret rfl dX11_table_14 ⟨hl0, u2 c1⟩
theorem b_X11_table_27 {D : zD} {d : Nat} {G : zG} {h : zH} {Q : zO → zG → zH → Prop} {x1 : Int} (hd : 2 ≤ d) (p1 : z_in (h 4 1)) (p2 : (h 4 1) = 0 → 0 ≤ x1) (p3 : (h 4 1) = 0 → x1 < 8) (p4 : (h 4 1) = 0 → 0 ≤ ((h 5 1) * (h 5 2))) (p5 : (h 4 1) = 0 → ((h 5 1) * (h 5 2)) ≤ 72)
    (u1 : (h 4 1) = 0 → Q (.inl (some (0, (h 5 1)))) G (z_cp (z_wr (z_wr (z_wr (z_wr h 0 4 (h 4 1)) 0 5 (h 4 2)) (56 + 4 * x1) 1 (h 5 1)) (56 + 4 * x1) 2 (h 5 2)) 6 0 ((56 + 4 * x1) + 1) 0 ((h 5 1) * (h 5 2))))
    (u2 : ¬ ((h 4 1) = 0) → Q (.inl (some (0, (-1)))) G (z_wr (z_wr h 0 4 (h 4 1)) 0 5 (h 4 2))) :
    z_Y D M_X11_table d 27 [(0, 2, 0), (1, 0, x1)] [] G h Q := by
  intro hl0
  refine z_aload_n (q := 28) 0 dX11_table_27 rfl rfl ?_
  refine z_aload_n (q := 29) 0 dX11_table_28 rfl rfl ?_
  refine z_gf (q := 32) (ki := 6) (v := (2, 4)) fX11_38 rfl (z_ldr rfl (hl0.ref 5 rfl)) (hl0.i 0 (by decide) rfl) dX11_table_29 rfl ?_
  refine z_gf (q := 35) (ki := 1) (v := (0, (h 4 1))) fX11_101 rfl rfl (hl0.i 4 (by decide) rfl) dX11_table_32 rfl ?_
  refine z_pf (q := 38) (ki := 4) fX11_29 rfl (z_sv0 rfl) (hl0.i 0 (by decide) rfl) dX11_table_35 rfl ?_
  have hl1 := hl0.wr (v := (h 4 1)) (hl0.i 0 (by decide) rfl) (i := 4) (by decide)
  refine z_aload_n (q := 39) 0 dX11_table_38 rfl rfl ?_
  refine z_aload_n (q := 40) 0 dX11_table_39 rfl rfl ?_
  refine z_gf (q := 43) (ki := 6) (v := (2, 4)) fX11_38 rfl (z_ldr rfl (hl1.ref 5 rfl)) (hl1.i 0 (by decide) rfl) dX11_table_40 rfl ?_
  refine z_gf (q := 46) (ki := 2) (v := (0, (h 4 2))) fX11_104 rfl (z_ldi rfl (w_nj (by decide))) (hl1.i 4 (by decide) rfl) dX11_table_43 rfl ?_
  refine z_pf (q := 49) (ki := 5) fX11_32 rfl (z_sv0 rfl) (hl1.i 0 (by decide) rfl) dX11_table_46 rfl ?_
  have hl2 := hl1.wr (v := (h 4 2)) (hl1.i 0 (by decide) rfl) (i := 5) (by decide)
  refine z_aload_n (q := 50) 0 dX11_table_49 rfl rfl ?_
  refine z_gf (q := 53) (ki := 4) (v := (0, (h 4 1))) fX11_29 rfl (z_ldi rfl ((w_nj (by decide)).trans w_s)) (hl2.i 0 (by decide) rfl) dX11_table_50 rfl ?_
  refine z_if_eq (q := 56) (t := 58) p1 dX11_table_53 (by decide) rfl (fun c1 => ?_) (fun c1 => ?_)
  · refine z_aload_n (q := 59) 0 dX11_table_58 rfl rfl ?_
    refine z_gf (q := 62) (ki := 0) (v := (2, 1)) fX11_11 rfl (z_ldr rfl (hl2.ref 0 rfl)) (hl2.i 0 (by decide) rfl) dX11_table_59 rfl ?_
    refine z_iload_n (q := 63) 1 dX11_table_62 rfl rfl ?_
    refine z_aale (q := 64) 54 (by decide) (by decide) (hl2.a 1 (by decide) rfl) (p2 c1) (p3 c1) (hl2.tb (p2 c1) (p3 c1)) dX11_table_63 rfl ?_
    refine z_aload_n (q := 65) 0 dX11_table_64 rfl rfl ?_
    refine z_gf (q := 68) (ki := 6) (v := (2, 4)) fX11_38 rfl (z_ldr rfl (hl2.ref 5 rfl)) (hl2.i 0 (by decide) rfl) dX11_table_65 rfl ?_
    refine z_gf (q := 71) (ki := 0) (v := (2, 5)) fX11_107 rfl (z_ldr rfl (hl2.ref 4 rfl)) (hl2.i 4 (by decide) rfl) dX11_table_68 rfl ?_
    have e1 := a_X4_become (D := D) (G := G) (h := (z_wr (z_wr h 0 4 (h 4 1)) 0 5 (h 4 2))) (d := d - 1) (by omega) (56 + 4 * x1) 5 (h 5 1) (h 5 2) (hl0.tbi (p2 c1) (p3 c1)) (hl2.i 5 (by decide) rfl) ((w_nj (by decide)).trans (w_nj (by decide))) ((w_nj (by decide)).trans (w_nj (by decide))) (p4 c1) (p5 c1)
    refine z_goV (q := 74) (av := [(2, 5)]) (rest := []) cb3 (hl0.tbi (p2 c1) (p3 c1)) (z_tov) hl2 (z_Ev.K e1 (by omega) ?_) mo_X4_become np_X4_become k508 k509 k510 rfl (nle rfl) dX11_table_71 rfl
    have hl3 : lay G (z_cp (z_wr (z_wr (z_wr (z_wr h 0 4 (h 4 1)) 0 5 (h 4 2)) (56 + 4 * x1) 1 (h 5 1)) (56 + 4 * x1) 2 (h 5 2)) 6 0 ((56 + 4 * x1) + 1) 0 ((h 5 1) * (h 5 2))) := e1.lay hl2
    refine z_aload_n (q := 75) 0 dX11_table_74 rfl rfl ?_
    refine z_gf (q := 78) (ki := 0) (v := (2, 1)) fX11_11 rfl (z_ldr rfl (hl3.ref 0 rfl)) (hl3.i 0 (by decide) rfl) dX11_table_75 rfl ?_
    refine z_iload_n (q := 79) 1 dX11_table_78 rfl rfl ?_
    refine z_aale (q := 80) 54 (by decide) (by decide) (hl3.a 1 (by decide) rfl) (p2 c1) (p3 c1) (hl3.tb (p2 c1) (p3 c1)) dX11_table_79 rfl ?_
    refine z_gf (q := 83) (ki := 1) (v := (0, (h 5 1))) fX11_114 rfl (z_ldi rfl ((c_na (z_isne (hl0.tbi (p2 c1) (p3 c1)) (hl2.ti (hl0.tbi (p2 c1) (p3 c1))) (by decide))).trans ((w_nj (by decide)).trans w_s))) (hl0.tbi (p2 c1) (p3 c1)) dX11_table_80 rfl ?_
    exact z_iret rfl dX11_table_83 ⟨hl3, u1 c1⟩
  · refine z_iconst (q := 57) dX11_table_56 rfl ?_
    exact z_iret rfl dX11_table_57 ⟨hl2, u2 c1⟩
