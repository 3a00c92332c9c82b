theorem b_X11_onShelf_0 {D : zD} {d : Nat} {G : zG} {h : zH} {Q : zO → zG → zH → Prop} {x0 : Int} (p1 : z_in x0)
    (u1 : x0 < 0 → Q (.inl (some (0, 0))) G h)
    (u2 : ¬ (x0 < 0) → 8 ≤ x0 → Q (.inl (some (0, 0))) G h)
    (u3 : ¬ (x0 < 0) → ¬ (8 ≤ x0) → Q (.inl (some (0, 1))) G h) :
    z_Y D M_X11_onShelf d 0 [(0, 0, x0)] [] G h Q := by
  intro hl0
  refine z_iload_n (q := 1) 0 dX11_onShelf_0 rfl rfl ?_
  refine z_if_lt (q := 4) (t := 14) p1 dX11_onShelf_1 (by decide) rfl (fun c1 => ?_) (fun c1 => ?_)
  · refine z_iconst (q := 15) dX11_onShelf_14 rfl ?_
    exact z_bret rfl (by decide) dX11_onShelf_15 ⟨hl0, u1 c1⟩
  · refine z_iload_n (q := 5) 0 dX11_onShelf_4 rfl rfl ?_
    refine z_bipush (q := 7) dX11_onShelf_5 rfl (by decide) ?_
    refine z_icmp_ge (q := 10) (t := 14) p1 ⟨by decide, by decide⟩ dX11_onShelf_7 (by decide) rfl (fun c2 => ?_) (fun c2 => ?_)
    · refine z_iconst (q := 15) dX11_onShelf_14 rfl ?_
      exact z_bret rfl (by decide) dX11_onShelf_15 ⟨hl0, u2 c1 c2⟩
    · refine z_iconst (q := 11) dX11_onShelf_10 rfl ?_
      refine z_goto (t := 15) dX11_onShelf_11 (by decide) ?_
      exact z_bret rfl (by decide) dX11_onShelf_15 ⟨hl0, u3 c1 c2⟩
theorem b_X5_rowIsShort_0 {D : zD} {d : Nat} {G : zG} {h : zH} {Q : zO → zG → zH → Prop} (p1 : z_in (h 4 3)) (p2 : ¬ ((h 4 3) ≤ 1) → z_in (h 4 4)) (p3 : ¬ ((h 4 3) ≤ 1) → z_in (h 4 5))
    (u1 : (h 4 3) ≤ 1 → Q (.inl (some (0, 0))) G h)
    (u2 : ¬ ((h 4 3) ≤ 1) → (h 4 5) ≤ (h 4 4) → Q (.inl (some (0, 0))) G h)
    (u3 : ¬ ((h 4 3) ≤ 1) → ¬ ((h 4 5) ≤ (h 4 4)) → Q (.inl (some (0, 1))) G h) :
    z_Y D M_X5_rowIsShort d 0 [(0, 2, 4)] [] G h Q := by
  intro hl0
  refine z_aload_n (q := 1) 0 dX5_rowIsShort_0 rfl rfl ?_
  refine z_gf (q := 4) (ki := 3) (v := (0, (h 4 3))) fX5_25 rfl rfl (hl0.i 4 (by decide) rfl) dX5_rowIsShort_1 rfl ?_
  refine z_iconst (q := 5) dX5_rowIsShort_4 rfl ?_
  refine z_icmp_le (q := 8) (t := 23) p1 ⟨by decide, by decide⟩ dX5_rowIsShort_5 (by decide) rfl (fun c1 => ?_) (fun c1 => ?_)
  · refine z_iconst (q := 24) dX5_rowIsShort_23 rfl ?_
    exact z_bret rfl (by decide) dX5_rowIsShort_24 ⟨hl0, u1 c1⟩
  · refine z_aload_n (q := 9) 0 dX5_rowIsShort_8 rfl rfl ?_
    refine z_gf (q := 12) (ki := 4) (v := (0, (h 4 4))) fX5_28 rfl rfl (hl0.i 4 (by decide) rfl) dX5_rowIsShort_9 rfl ?_
    refine z_aload_n (q := 13) 0 dX5_rowIsShort_12 rfl rfl ?_
    refine z_gf (q := 16) (ki := 5) (v := (0, (h 4 5))) fX5_31 rfl rfl (hl0.i 4 (by decide) rfl) dX5_rowIsShort_13 rfl ?_
    refine z_icmp_ge (q := 19) (t := 23) (p2 c1) (p3 c1) dX5_rowIsShort_16 (by decide) rfl (fun c2 => ?_) (fun c2 => ?_)
    · refine z_iconst (q := 24) dX5_rowIsShort_23 rfl ?_
      exact z_bret rfl (by decide) dX5_rowIsShort_24 ⟨hl0, u2 c1 c2⟩
    · refine z_iconst (q := 20) dX5_rowIsShort_19 rfl ?_
      refine z_goto (t := 24) dX5_rowIsShort_20 (by decide) ?_
      exact z_bret rfl (by decide) dX5_rowIsShort_24 ⟨hl0, u3 c1 c2⟩
section TrA
variable {D : zD} {d : Nat} {G : zG} {h : zH} {Q : zO → zG → zH → Prop}
theorem a_X11_onShelf (hd : 0 ≤ d) (x : Int) (hx : z_in x) : z_Ei D M_X11_onShelf d [(0, x)] G h (z_b (0 ≤ x ∧ x ≤ 7)) h :=
  z_begin mo_X11_onShelf rfl (nle rfl) (b_X11_onShelf_0 hx (fun c => ⟨by rw [z_b0 (by omega)], rfl, rfl⟩) (fun _ c => ⟨by rw [z_b0 (by omega)], rfl, rfl⟩) (fun _ c => ⟨by rw [z_b1 (by omega)], rfl, rfl⟩))
theorem a_X5_rowIsShort (hd : 0 ≤ d) (h3 : z_in (h 4 3)) (h4 : z_in (h 4 4)) (h5 : z_in (h 4 5)) : z_Ei D M_X5_rowIsShort d [(2, 4)] G h (z_b (1 < h 4 3 ∧ h 4 4 < h 4 5)) h :=
  z_begin mo_X5_rowIsShort rfl (nle rfl) (b_X5_rowIsShort_0 h3 (fun _ => h4) (fun _ => h5) (fun c => ⟨by rw [z_b0 (by omega)], rfl, rfl⟩) (fun _ c => ⟨by rw [z_b0 (by omega)], rfl, rfl⟩) (fun _ c => ⟨by rw [z_b1 (by omega)], rfl, rfl⟩))
end TrA
theorem b_X5_endCell_0 {D : zD} {d : Nat} {G : zG} {h : zH} {Q : zO → zG → zH → Prop} (p1 : z_in (h 4 6)) (p2 : ¬ (72 ≤ (h 4 6)) → 0 ≤ (h 4 6)) (p3 : ¬ (72 ≤ (h 4 6)) → (h 4 6) < 72)
    (u1 : 72 ≤ (h 4 6) → z_Y D M_X5_endCell d 35 [(0, 2, 4)] [] G h Q)
    (u2 : ¬ (72 ≤ (h 4 6)) → z_Y D M_X5_endCell d 35 [(0, 2, 4)] [] G (z_wr (z_wr h 6 (h 4 6) (h 4 8)) 4 6 ((h 4 6) + 1)) Q) :
    z_Y D M_X5_endCell d 0 [(0, 2, 4)] [] G h Q := by
  intro hl0
  refine z_aload_n (q := 1) 0 dX5_endCell_0 rfl rfl ?_
  refine z_gf (q := 4) (ki := 6) (v := (0, (h 4 6))) fX5_34 rfl rfl (hl0.i 4 (by decide) rfl) dX5_endCell_1 rfl ?_
  refine z_bipush (q := 6) dX5_endCell_4 rfl (by decide) ?_
  refine z_icmp_ge (q := 9) (t := 35) p1 ⟨by decide, by decide⟩ dX5_endCell_6 (by decide) rfl (fun c1 => ?_) (fun c1 => ?_)
  · exact u1 c1 hl0
  · refine z_aload_n (q := 10) 0 dX5_endCell_9 rfl rfl ?_
    refine z_gf (q := 13) (ki := 0) (v := (2, 5)) fX5_12 rfl (z_ldr rfl (hl0.ref 4 rfl)) (hl0.i 4 (by decide) rfl) dX5_endCell_10 rfl ?_
    refine z_gf (q := 16) (ki := 0) (v := (2, 6)) fX5_83 rfl (z_ldr rfl (hl0.ref 3 rfl)) (hl0.i 5 (by decide) rfl) dX5_endCell_13 rfl ?_
    refine z_aload_n (q := 17) 0 dX5_endCell_16 rfl rfl ?_
    refine z_gf (q := 20) (ki := 6) (v := (0, (h 4 6))) fX5_34 rfl rfl (hl0.i 4 (by decide) rfl) dX5_endCell_17 rfl ?_
    refine z_aload_n (q := 21) 0 dX5_endCell_20 rfl rfl ?_
    refine z_gf (q := 24) (ki := 8) (v := (1, (h 4 8))) fX5_42 rfl rfl (hl0.i 4 (by decide) rfl) dX5_endCell_21 rfl ?_
    refine z_lsn (q := 25) (hl0.i 6 (by decide) rfl) (hl0.n 6 (by decide) rfl) (p2 c1) (p3 c1) dX5_endCell_24 rfl ?_
    have hl1 := hl0.wr (v := (h 4 8)) (hl0.i 6 (by decide) rfl) (i := (h 4 6)) rfl
    refine z_aload_n (q := 26) 0 dX5_endCell_25 rfl rfl ?_
    refine z_dup (q := 27) (by decide) dX5_endCell_26 rfl ?_
    refine z_gf (q := 30) (ki := 6) (v := (0, (h 4 6))) fX5_34 rfl (z_ldi rfl (w_na (by decide))) (hl1.i 4 (by decide) rfl) dX5_endCell_27 rfl ?_
    refine z_iconst (q := 31) dX5_endCell_30 rfl ?_
    refine z_iadd (q := 32) dX5_endCell_31 rfl ?_
    refine z_pf (q := 35) (ki := 6) fX5_34 rfl (z_sv0 rfl) (hl1.i 4 (by decide) rfl) dX5_endCell_32 rfl ?_
    have hl2 := hl1.wr (v := ((h 4 6) + 1)) (hl1.i 4 (by decide) rfl) (i := 6) (by decide)
    exact u2 c1 hl2
theorem b_X5_endCell_35 {D : zD} {d : Nat} {G : zG} {h : zH} {Q : zO → zG → zH → Prop}
    (u1 : Q (.inl none) G (z_wr (z_wr h 4 8 0) 4 7 0)) :
    z_Y D M_X5_endCell d 35 [(0, 2, 4)] [] G h Q := by
  intro hl0
  refine z_aload_n (q := 36) 0 dX5_endCell_35 rfl rfl ?_
  refine z_lconst0 (q := 37) dX5_endCell_36 rfl ?_
  refine z_pf (q := 40) (ki := 8) fX5_42 rfl (z_sv1 rfl) (hl0.i 4 (by decide) rfl) dX5_endCell_37 rfl ?_
  have hl1 := hl0.wr (v := 0) (hl0.i 4 (by decide) rfl) (i := 8) (by decide)
  refine z_aload_n (q := 41) 0 dX5_endCell_40 rfl rfl ?_
  refine z_iconst (q := 42) dX5_endCell_41 rfl ?_
  refine z_pf (q := 45) (ki := 7) fX5_37 rfl (z_sv0 rfl) (hl1.i 4 (by decide) rfl) dX5_endCell_42 rfl ?_
  have hl2 := hl1.wr (v := 0) (hl1.i 4 (by decide) rfl) (i := 7) (by decide)
  exact z_vret rfl dX5_endCell_45 ⟨hl2, u1⟩
theorem b_X5_takeComma_0 {D : zD} {d : Nat} {G : zG} {h : zH} {Q : zO → zG → zH → Prop} (p1 : z_in (h 4 3)) (p2 : ¬ ((h 4 3) ≤ 1) → z_in (h 4 4)) (p3 : ¬ ((h 4 3) ≤ 1) → z_in (h 4 5))
    (u1 : (h 4 3) ≤ 1 → z_Y D M_X5_takeComma d 21 [(0, 2, 4)] [] G h Q)
    (u2 : ¬ ((h 4 3) ≤ 1) → ¬ (h 4 4) = (h 4 5) → z_Y D M_X5_takeComma d 21 [(0, 2, 4)] [] G h Q)
    (u3 : ¬ ((h 4 3) ≤ 1) → ¬ (¬ (h 4 4) = (h 4 5)) → Q (.inl (some (0, 3))) G h) :
    z_Y D M_X5_takeComma d 0 [(0, 2, 4)] [] G h Q := by
  intro hl0
  refine z_aload_n (q := 1) 0 dX5_takeComma_0 rfl rfl ?_
  refine z_gf (q := 4) (ki := 3) (v := (0, (h 4 3))) fX5_25 rfl rfl (hl0.i 4 (by decide) rfl) dX5_takeComma_1 rfl ?_
  refine z_iconst (q := 5) dX5_takeComma_4 rfl ?_
  refine z_icmp_le (q := 8) (t := 21) p1 ⟨by decide, by decide⟩ dX5_takeComma_5 (by decide) rfl (fun c1 => ?_) (fun c1 => ?_)
  · exact u1 c1 hl0
  · refine z_aload_n (q := 9) 0 dX5_takeComma_8 rfl rfl ?_
    refine z_gf (q := 12) (ki := 4) (v := (0, (h 4 4))) fX5_28 rfl rfl (hl0.i 4 (by decide) rfl) dX5_takeComma_9 rfl ?_
    refine z_aload_n (q := 13) 0 dX5_takeComma_12 rfl rfl ?_
    refine z_gf (q := 16) (ki := 5) (v := (0, (h 4 5))) fX5_31 rfl rfl (hl0.i 4 (by decide) rfl) dX5_takeComma_13 rfl ?_
    refine z_icmp_ne (q := 19) (t := 21) (p2 c1) (p3 c1) dX5_takeComma_16 (by decide) rfl (fun c2 => ?_) (fun c2 => ?_)
    · exact u2 c1 c2 hl0
    · refine z_iconst (q := 20) dX5_takeComma_19 rfl ?_
      exact z_iret rfl dX5_takeComma_20 ⟨hl0, u3 c1 c2⟩
theorem b_X5_takeComma_21 {D : zD} {d : Nat} {G : zG} {h : zH} {Q : zO → zG → zH → Prop} (p1 : z_in (h 4 4))
    (u1 : ¬ (h 4 4) = 6 → z_Kv D M_X5_endCell d [(2, 4)] G h (fun G' h' => z_Y D M_X5_takeComma d 36 [(0, 2, 4)] [] G' h' Q))
    (u2 : ¬ (¬ (h 4 4) = 6) → Q (.inl (some (0, 4))) G h) :
    z_Y D M_X5_takeComma d 21 [(0, 2, 4)] [] G h Q := by
  intro hl0
  refine z_aload_n (q := 22) 0 dX5_takeComma_21 rfl rfl ?_
  refine z_gf (q := 25) (ki := 4) (v := (0, (h 4 4))) fX5_28 rfl rfl (hl0.i 4 (by decide) rfl) dX5_takeComma_22 rfl ?_
  refine z_bipush (q := 27) dX5_takeComma_25 rfl (by decide) ?_
  refine z_icmp_ne (q := 30) (t := 32) p1 ⟨by decide, by decide⟩ dX5_takeComma_27 (by decide) rfl (fun c1 => ?_) (fun c1 => ?_)
  · refine z_aload_n (q := 33) 0 dX5_takeComma_32 rfl rfl ?_
    exact z_goV (q := 36) (av := []) (rest := []) cb4 (hl0.i 4 (by decide) rfl) z_tov hl0 (u1 c1) mo_X5_endCell np_X5_endCell k476 k478 k4 rfl (nle rfl) dX5_takeComma_33 rfl
  · refine z_iconst (q := 31) dX5_takeComma_30 rfl ?_
    exact z_iret rfl dX5_takeComma_31 ⟨hl0, u2 c1⟩
theorem b_X5_takeComma_36 {D : zD} {d : Nat} {G : zG} {h : zH} {Q : zO → zG → zH → Prop}
    (u1 : Q (.inl (some (0, 0))) G (z_wr h 4 4 ((h 4 4) + 1))) :
    z_Y D M_X5_takeComma d 36 [(0, 2, 4)] [] G h Q := by
  intro hl0
  refine z_aload_n (q := 37) 0 dX5_takeComma_36 rfl rfl ?_
  refine z_dup (q := 38) (by decide) dX5_takeComma_37 rfl ?_
  refine z_gf (q := 41) (ki := 4) (v := (0, (h 4 4))) fX5_28 rfl rfl (hl0.i 4 (by decide) rfl) dX5_takeComma_38 rfl ?_
  refine z_iconst (q := 42) dX5_takeComma_41 rfl ?_
  refine z_iadd (q := 43) dX5_takeComma_42 rfl ?_
  refine z_pf (q := 46) (ki := 4) fX5_28 rfl (z_sv0 rfl) (hl0.i 4 (by decide) rfl) dX5_takeComma_43 rfl ?_
  have hl1 := hl0.wr (v := ((h 4 4) + 1)) (hl0.i 4 (by decide) rfl) (i := 4) (by decide)
  refine z_iconst (q := 47) dX5_takeComma_46 rfl ?_
  exact z_iret rfl dX5_takeComma_47 ⟨hl1, u1⟩
theorem b_X5_takeSemicolon_0 {D : zD} {d : Nat} {G : zG} {h : zH} {Q : zO → zG → zH → Prop} (hd : 2 ≤ d) (p1 : z_in (h 4 3)) (p2 : z_in (h 4 4)) (p3 : z_in (h 4 5))
    (u1 : 1 < (h 4 3) ∧ (h 4 4) < (h 4 5) → Q (.inl (some (0, 3))) G h)
    (u2 : ¬ (1 < (h 4 3) ∧ (h 4 4) < (h 4 5)) → ¬ (h 4 3) = 12 → z_Kv D M_X5_endCell d [(2, 4)] G h (fun G' h' => z_Y D M_X5_takeSemicolon d 24 [(0, 2, 4)] [] G' h' Q))
    (u3 : ¬ (1 < (h 4 3) ∧ (h 4 4) < (h 4 5)) → ¬ (¬ (h 4 3) = 12) → Q (.inl (some (0, 4))) G h) :
    z_Y D M_X5_takeSemicolon d 0 [(0, 2, 4)] [] G h Q := by
  intro hl0
  refine z_aload_n (q := 1) 0 dX5_takeSemicolon_0 rfl rfl ?_
  have e1 := a_X5_rowIsShort (D := D) (G := G) (h := h) (d := d - 1) (by omega) p1 p2 p3
  refine z_goV (q := 4) (av := []) (rest := []) cb4 (hl0.i 4 (by decide) rfl) (z_toi) hl0 (z_Ei.K e1 (by omega) ?_) mo_X5_rowIsShort np_X5_rowIsShort k484 k486 k6 rfl (nle rfl) dX5_takeSemicolon_1 rfl
  by_cases c1 : 1 < (h 4 3) ∧ (h 4 4) < (h 4 5)
  · rw [z_b1 c1]
    refine z_if_eq (q := 7) (t := 9) ⟨by decide, by decide⟩ dX5_takeSemicolon_4 (by decide) rfl (fun c => absurd c (by decide)) (fun _ => ?_)
    refine z_iconst (q := 8) dX5_takeSemicolon_7 rfl ?_
    exact z_iret rfl dX5_takeSemicolon_8 ⟨hl0, u1 c1⟩
  · rw [z_b0 c1]
    refine z_if_eq (q := 7) (t := 9) ⟨by decide, by decide⟩ dX5_takeSemicolon_4 (by decide) rfl (fun _ => ?_) (fun c => absurd c (by decide))
    refine z_aload_n (q := 10) 0 dX5_takeSemicolon_9 rfl rfl ?_
    refine z_gf (q := 13) (ki := 3) (v := (0, (h 4 3))) fX5_25 rfl rfl (hl0.i 4 (by decide) rfl) dX5_takeSemicolon_10 rfl ?_
    refine z_bipush (q := 15) dX5_takeSemicolon_13 rfl (by decide) ?_
    refine z_icmp_ne (q := 18) (t := 20) p1 ⟨by decide, by decide⟩ dX5_takeSemicolon_15 (by decide) rfl (fun c2 => ?_) (fun c2 => ?_)
    · refine z_aload_n (q := 21) 0 dX5_takeSemicolon_20 rfl rfl ?_
      exact z_goV (q := 24) (av := []) (rest := []) cb4 (hl0.i 4 (by decide) rfl) z_tov hl0 (u2 c1 c2) mo_X5_endCell np_X5_endCell k476 k478 k4 rfl (nle rfl) dX5_takeSemicolon_21 rfl
    · refine z_iconst (q := 19) dX5_takeSemicolon_18 rfl ?_
      exact z_iret rfl dX5_takeSemicolon_19 ⟨hl0, u3 c1 c2⟩
theorem b_X5_takeSemicolon_24 {D : zD} {d : Nat} {G : zG} {h : zH} {Q : zO → zG → zH → Prop}
    (u1 : Q (.inl (some (0, 0))) G (z_wr (z_wr (z_wr h 4 5 (h 4 4)) 4 4 1) 4 3 ((h 4 3) + 1))) :
    z_Y D M_X5_takeSemicolon d 24 [(0, 2, 4)] [] G h Q := by
  intro hl0
  refine z_aload_n (q := 25) 0 dX5_takeSemicolon_24 rfl rfl ?_
  refine z_aload_n (q := 26) 0 dX5_takeSemicolon_25 rfl rfl ?_
  refine z_gf (q := 29) (ki := 4) (v := (0, (h 4 4))) fX5_28 rfl rfl (hl0.i 4 (by decide) rfl) dX5_takeSemicolon_26 rfl ?_
  refine z_pf (q := 32) (ki := 5) fX5_31 rfl (z_sv0 rfl) (hl0.i 4 (by decide) rfl) dX5_takeSemicolon_29 rfl ?_
  have hl1 := hl0.wr (v := (h 4 4)) (hl0.i 4 (by decide) rfl) (i := 5) (by decide)
  refine z_aload_n (q := 33) 0 dX5_takeSemicolon_32 rfl rfl ?_
  refine z_iconst (q := 34) dX5_takeSemicolon_33 rfl ?_
  refine z_pf (q := 37) (ki := 4) fX5_28 rfl (z_sv0 rfl) (hl1.i 4 (by decide) rfl) dX5_takeSemicolon_34 rfl ?_
  have hl2 := hl1.wr (v := 1) (hl1.i 4 (by decide) rfl) (i := 4) (by decide)
  refine z_aload_n (q := 38) 0 dX5_takeSemicolon_37 rfl rfl ?_
  refine z_dup (q := 39) (by decide) dX5_takeSemicolon_38 rfl ?_
  refine z_gf (q := 42) (ki := 3) (v := (0, (h 4 3))) fX5_25 rfl (z_ldi rfl ((w_nj (by decide)).trans (w_nj (by decide)))) (hl2.i 4 (by decide) rfl) dX5_takeSemicolon_39 rfl ?_
  refine z_iconst (q := 43) dX5_takeSemicolon_42 rfl ?_
  refine z_iadd (q := 44) dX5_takeSemicolon_43 rfl ?_
  refine z_pf (q := 47) (ki := 3) fX5_25 rfl (z_sv0 rfl) (hl2.i 4 (by decide) rfl) dX5_takeSemicolon_44 rfl ?_
  have hl3 := hl2.wr (v := ((h 4 3) + 1)) (hl2.i 4 (by decide) rfl) (i := 3) (by decide)
  refine z_iconst (q := 48) dX5_takeSemicolon_47 rfl ?_
  exact z_iret rfl dX5_takeSemicolon_48 ⟨hl3, u1⟩
theorem b_X5_takeCellByte_0 {D : zD} {d : Nat} {G : zG} {h : zH} {Q : zO → zG → zH → Prop} {x1 : Int} (p1 : z_in64 (h 4 8)) (p2 : ¬ ((h 4 8) = (-1)) → z_in x1) (p3 : ¬ ((h 4 8) = (-1)) → ¬ (¬ x1 = 63) → z_in (h 4 7))
    (u1 : (h 4 8) = (-1) → Q (.inl (some (0, 1))) G h)
    (u2 : ¬ ((h 4 8) = (-1)) → ¬ x1 = 63 → z_Y D M_X5_takeCellByte d 26 [(0, 2, 4), (1, 0, x1)] [] G h Q)
    (u3 : ¬ ((h 4 8) = (-1)) → ¬ (¬ x1 = 63) → (h 4 7) ≤ 0 → z_Y D M_X5_takeCellByte d 26 [(0, 2, 4), (1, 0, x1)] [] G h Q)
    (u4 : ¬ ((h 4 8) = (-1)) → ¬ (¬ x1 = 63) → ¬ ((h 4 7) ≤ 0) → Q (.inl (some (0, 1))) G h) :
    z_Y D M_X5_takeCellByte d 0 [(0, 2, 4), (1, 0, x1)] [] G h Q := by
  intro hl0
  refine z_aload_n (q := 1) 0 dX5_takeCellByte_0 rfl rfl ?_
  refine z_gf (q := 4) (ki := 8) (v := (1, (h 4 8))) fX5_42 rfl rfl (hl0.i 4 (by decide) rfl) dX5_takeCellByte_1 rfl ?_
  refine z_ldc2 (q := 7) (n := (-1)) k492 (by decide) dX5_takeCellByte_4 rfl ?_
  refine z_lcmp_eq (q := 11) (t := 24) p1 ⟨by decide, by decide⟩ dX5_takeCellByte_7 (rfl : _ = 8) dX5_takeCellByte_8 (by decide) rfl (fun c1 => ?_) (fun c1 => ?_)
  · refine z_iconst (q := 25) dX5_takeCellByte_24 rfl ?_
    exact z_iret rfl dX5_takeCellByte_25 ⟨hl0, u1 c1⟩
  · refine z_iload_n (q := 12) 1 dX5_takeCellByte_11 rfl rfl ?_
    refine z_bipush (q := 14) dX5_takeCellByte_12 rfl (by decide) ?_
    refine z_icmp_ne (q := 17) (t := 26) (p2 c1) ⟨by decide, by decide⟩ dX5_takeCellByte_14 (by decide) rfl (fun c2 => ?_) (fun c2 => ?_)
    · exact u2 c1 c2 hl0
    · refine z_aload_n (q := 18) 0 dX5_takeCellByte_17 rfl rfl ?_
      refine z_gf (q := 21) (ki := 7) (v := (0, (h 4 7))) fX5_37 rfl rfl (hl0.i 4 (by decide) rfl) dX5_takeCellByte_18 rfl ?_
      refine z_if_le (q := 24) (t := 26) (p3 c1 c2) dX5_takeCellByte_21 (by decide) rfl (fun c3 => ?_) (fun c3 => ?_)
      · exact u3 c1 c2 c3 hl0
      · refine z_iconst (q := 25) dX5_takeCellByte_24 rfl ?_
        exact z_iret rfl dX5_takeCellByte_25 ⟨hl0, u4 c1 c2 c3⟩
theorem b_X5_takeCellByte_26 {D : zD} {d : Nat} {G : zG} {h : zH} {Q : zO → zG → zH → Prop} {x1 : Int} (hd : 2 ≤ d) (p1 : z_in x1) (p2 : ¬ x1 = 63 → ¬ (97 ≤ x1 ∧ x1 ≤ 122) → ¬ (48 ≤ x1 ∧ x1 ≤ 57) → z_in (zmk x1))
    (u1 : ¬ x1 = 63 → 97 ≤ x1 ∧ x1 ≤ 122 → z_Y D M_X5_takeCellByte d 65 [(0, 2, 4), (1, 0, x1)] [] G h Q)
    (u2 : ¬ x1 = 63 → ¬ (97 ≤ x1 ∧ x1 ≤ 122) → 48 ≤ x1 ∧ x1 ≤ 57 → z_Y D M_X5_takeCellByte d 65 [(0, 2, 4), (1, 0, x1)] [] G h Q)
    (u3 : ¬ x1 = 63 → ¬ (97 ≤ x1 ∧ x1 ≤ 122) → ¬ (48 ≤ x1 ∧ x1 ≤ 57) → ¬ (zmk x1) = (-1) → z_Y D M_X5_takeCellByte d 65 [(0, 2, 4), (1, 0, x1)] [] G h Q)
    (u4 : ¬ x1 = 63 → ¬ (97 ≤ x1 ∧ x1 ≤ 122) → ¬ (48 ≤ x1 ∧ x1 ≤ 57) → ¬ (¬ (zmk x1) = (-1)) → Q (.inl (some (0, 1))) G h)
    (u5 : ¬ (¬ x1 = 63) → Q (.inl (some (0, 0))) G (z_wr h 4 8 (-1))) :
    z_Y D M_X5_takeCellByte d 26 [(0, 2, 4), (1, 0, x1)] [] G h Q := by
  intro hl0
  refine z_iload_n (q := 27) 1 dX5_takeCellByte_26 rfl rfl ?_
  refine z_bipush (q := 29) dX5_takeCellByte_27 rfl (by decide) ?_
  refine z_icmp_ne (q := 32) (t := 41) p1 ⟨by decide, by decide⟩ dX5_takeCellByte_29 (by decide) rfl (fun c1 => ?_) (fun c1 => ?_)
  · refine z_iload_n (q := 42) 1 dX5_takeCellByte_41 rfl rfl ?_
    have e1 := a_X6_isLetter (D := D) (G := G) (h := h) (d := d - 1) (by omega) x1 p1
    refine z_goS (q := 45) (av := [(0, x1)]) (rest := []) (z_toi) hl0 (z_Ei.K e1 (by omega) ?_) mo_X6_isLetter np_X6_isLetter k493 k494 rfl (nle rfl) dX5_takeCellByte_42 rfl
    by_cases c2 : 97 ≤ x1 ∧ x1 ≤ 122
    · rw [z_b1 c2]
      refine z_if_ne (q := 48) (t := 65) ⟨by decide, by decide⟩ dX5_takeCellByte_45 (by decide) rfl (fun _ => ?_) (fun c => absurd c (by decide))
      exact u1 c1 c2 hl0
    · rw [z_b0 c2]
      refine z_if_ne (q := 48) (t := 65) ⟨by decide, by decide⟩ dX5_takeCellByte_45 (by decide) rfl (fun c => absurd c (by decide)) (fun _ => ?_)
      refine z_iload_n (q := 49) 1 dX5_takeCellByte_48 rfl rfl ?_
      have e2 := a_X6_isDigit (D := D) (G := G) (h := h) (d := d - 1) (by omega) x1 p1
      refine z_goS (q := 52) (av := [(0, x1)]) (rest := []) (z_toi) hl0 (z_Ei.K e2 (by omega) ?_) mo_X6_isDigit np_X6_isDigit k496 k497 rfl (nle rfl) dX5_takeCellByte_49 rfl
      by_cases c3 : 48 ≤ x1 ∧ x1 ≤ 57
      · rw [z_b1 c3]
        refine z_if_ne (q := 55) (t := 65) ⟨by decide, by decide⟩ dX5_takeCellByte_52 (by decide) rfl (fun _ => ?_) (fun c => absurd c (by decide))
        exact u2 c1 c2 c3 hl0
      · rw [z_b0 c3]
        refine z_if_ne (q := 55) (t := 65) ⟨by decide, by decide⟩ dX5_takeCellByte_52 (by decide) rfl (fun c => absurd c (by decide)) (fun _ => ?_)
        refine z_iload_n (q := 56) 1 dX5_takeCellByte_55 rfl rfl ?_
        have e3 := a_X6_markOf (D := D) (G := G) (h := h) (d := d - 1) (by omega) x1 p1
        refine z_goS (q := 59) (av := [(0, x1)]) (rest := []) (z_toi) hl0 (z_Ei.K e3 (by omega) ?_) mo_X6_markOf np_X6_markOf k499 k500 rfl (nle rfl) dX5_takeCellByte_56 rfl
        refine z_iconst (q := 60) dX5_takeCellByte_59 rfl ?_
        refine z_icmp_ne (q := 63) (t := 65) (p2 c1 c2 c3) ⟨by decide, by decide⟩ dX5_takeCellByte_60 (by decide) rfl (fun c4 => ?_) (fun c4 => ?_)
        · exact u3 c1 c2 c3 c4 hl0
        · refine z_iconst (q := 64) dX5_takeCellByte_63 rfl ?_
          exact z_iret rfl dX5_takeCellByte_64 ⟨hl0, u4 c1 c2 c3 c4⟩
  · refine z_aload_n (q := 33) 0 dX5_takeCellByte_32 rfl rfl ?_
    refine z_ldc2 (q := 36) (n := (-1)) k492 (by decide) dX5_takeCellByte_33 rfl ?_
    refine z_pf (q := 39) (ki := 8) fX5_42 rfl (z_sv1 rfl) (hl0.i 4 (by decide) rfl) dX5_takeCellByte_36 rfl ?_
    have hl1 := hl0.wr (v := (-1)) (hl0.i 4 (by decide) rfl) (i := 8) (by decide)
    refine z_iconst (q := 40) dX5_takeCellByte_39 rfl ?_
    exact z_iret rfl dX5_takeCellByte_40 ⟨hl1, u5 c1⟩
theorem b_X5_takeCellByte_65 {D : zD} {d : Nat} {G : zG} {h : zH} {Q : zO → zG → zH → Prop} {x1 : Int} (p1 : z_in (h 4 7)) (p2 : ¬ (h 4 7) = 7 → z_in x1)
    (u1 : ¬ (h 4 7) = 7 → Q (.inl (some (0, 0))) G (z_wr (z_wr h 4 8 (z_lor (z_lshl (h 4 8) 8) x1)) 4 7 ((h 4 7) + 1)))
    (u2 : ¬ (¬ (h 4 7) = 7) → Q (.inl (some (0, 2))) G h) :
    z_Y D M_X5_takeCellByte d 65 [(0, 2, 4), (1, 0, x1)] [] G h Q := by
  intro hl0
  refine z_aload_n (q := 66) 0 dX5_takeCellByte_65 rfl rfl ?_
  refine z_gf (q := 69) (ki := 7) (v := (0, (h 4 7))) fX5_37 rfl rfl (hl0.i 4 (by decide) rfl) dX5_takeCellByte_66 rfl ?_
  refine z_bipush (q := 71) dX5_takeCellByte_69 rfl (by decide) ?_
  refine z_icmp_ne (q := 74) (t := 76) p1 ⟨by decide, by decide⟩ dX5_takeCellByte_71 (by decide) rfl (fun c1 => ?_) (fun c1 => ?_)
  · refine z_aload_n (q := 77) 0 dX5_takeCellByte_76 rfl rfl ?_
    refine z_aload_n (q := 78) 0 dX5_takeCellByte_77 rfl rfl ?_
    refine z_gf (q := 81) (ki := 8) (v := (1, (h 4 8))) fX5_42 rfl rfl (hl0.i 4 (by decide) rfl) dX5_takeCellByte_78 rfl ?_
    refine z_bipush (q := 83) dX5_takeCellByte_81 rfl (by decide) ?_
    refine z_r_lshl (q := 84) dX5_takeCellByte_83 rfl ?_
    refine z_iload_n (q := 85) 1 dX5_takeCellByte_84 rfl rfl ?_
    refine z_i2l (q := 86) (p2 c1) dX5_takeCellByte_85 rfl ?_
    refine z_r_lor (q := 87) dX5_takeCellByte_86 rfl ?_
    refine z_pf (q := 90) (ki := 8) fX5_42 rfl (z_sv1 rfl) (hl0.i 4 (by decide) rfl) dX5_takeCellByte_87 rfl ?_
    have hl1 := hl0.wr (v := (z_lor (z_lshl (h 4 8) 8) x1)) (hl0.i 4 (by decide) rfl) (i := 8) (by decide)
    refine z_aload_n (q := 91) 0 dX5_takeCellByte_90 rfl rfl ?_
    refine z_dup (q := 92) (by decide) dX5_takeCellByte_91 rfl ?_
    refine z_gf (q := 95) (ki := 7) (v := (0, (h 4 7))) fX5_37 rfl (z_ldi rfl (w_nj (by decide))) (hl1.i 4 (by decide) rfl) dX5_takeCellByte_92 rfl ?_
    refine z_iconst (q := 96) dX5_takeCellByte_95 rfl ?_
    refine z_iadd (q := 97) dX5_takeCellByte_96 rfl ?_
    refine z_pf (q := 100) (ki := 7) fX5_37 rfl (z_sv0 rfl) (hl1.i 4 (by decide) rfl) dX5_takeCellByte_97 rfl ?_
    have hl2 := hl1.wr (v := ((h 4 7) + 1)) (hl1.i 4 (by decide) rfl) (i := 7) (by decide)
    refine z_iconst (q := 101) dX5_takeCellByte_100 rfl ?_
    exact z_iret rfl dX5_takeCellByte_101 ⟨hl2, u1 c1⟩
  · refine z_iconst (q := 75) dX5_takeCellByte_74 rfl ?_
    exact z_iret rfl dX5_takeCellByte_75 ⟨hl0, u2 c1⟩
theorem b_X5_takeByte_0 {D : zD} {d : Nat} {G : zG} {h : zH} {Q : zO → zG → zH → Prop} {x1 : Int} (p1 : z_in x1)
    (u1 : ¬ x1 = 44 → ¬ x1 = 59 → z_Ki D M_X5_takeCellByte d [(2, 4), (0, x1)] G h (fun r G' h' => z_Y D M_X5_takeByte d 27 [] [(0, r)] G' h' Q))
    (u2 : ¬ x1 = 44 → ¬ (¬ x1 = 59) → z_Ki D M_X5_takeSemicolon d [(2, 4)] G h (fun r G' h' => z_Y D M_X5_takeByte d 21 [] [(0, r)] G' h' Q))
    (u3 : ¬ (¬ x1 = 44) → z_Ki D M_X5_takeComma d [(2, 4)] G h (fun r G' h' => z_Y D M_X5_takeByte d 10 [] [(0, r)] G' h' Q)) :
    z_Y D M_X5_takeByte d 0 [(0, 2, 4), (1, 0, x1)] [] G h Q := by
  intro hl0
  refine z_iload_n (q := 1) 1 dX5_takeByte_0 rfl rfl ?_
  refine z_bipush (q := 3) dX5_takeByte_1 rfl (by decide) ?_
  refine z_icmp_ne (q := 6) (t := 11) p1 ⟨by decide, by decide⟩ dX5_takeByte_3 (by decide) rfl (fun c1 => ?_) (fun c1 => ?_)
  · refine z_iload_n (q := 12) 1 dX5_takeByte_11 rfl rfl ?_
    refine z_bipush (q := 14) dX5_takeByte_12 rfl (by decide) ?_
    refine z_icmp_ne (q := 17) (t := 22) p1 ⟨by decide, by decide⟩ dX5_takeByte_14 (by decide) rfl (fun c2 => ?_) (fun c2 => ?_)
    · refine z_aload_n (q := 23) 0 dX5_takeByte_22 rfl rfl ?_
      refine z_iload_n (q := 24) 1 dX5_takeByte_23 rfl rfl ?_
      refine z_sub (L' := []) [] rfl ?_
      exact z_goV (q := 27) (av := [(0, x1)]) (rest := []) cb4 (hl0.i 4 (by decide) rfl) z_toi hl0 (u1 c1 c2) mo_X5_takeCellByte np_X5_takeCellByte k488 k490 k7 rfl (nle rfl) dX5_takeByte_24 rfl
    · refine z_aload_n (q := 18) 0 dX5_takeByte_17 rfl rfl ?_
      refine z_sub (L' := []) [] rfl ?_
      exact z_goV (q := 21) (av := []) (rest := []) cb4 (hl0.i 4 (by decide) rfl) z_toi hl0 (u2 c1 c2) mo_X5_takeSemicolon np_X5_takeSemicolon k480 k482 k5 rfl (nle rfl) dX5_takeByte_18 rfl
  · refine z_aload_n (q := 7) 0 dX5_takeByte_6 rfl rfl ?_
    refine z_sub (L' := []) [] rfl ?_
    exact z_goV (q := 10) (av := []) (rest := []) cb4 (hl0.i 4 (by decide) rfl) z_toi hl0 (u3 c1) mo_X5_takeComma np_X5_takeComma k472 k474 k3 rfl (nle rfl) dX5_takeByte_7 rfl
theorem b_X5_takeByte_27 {D : zD} {d : Nat} {G : zG} {h : zH} {Q : zO → zG → zH → Prop} {s0 : Int}
    (u1 : Q (.inl (some (0, s0))) G h) :
    z_Y D M_X5_takeByte d 27 [] [(0, s0)] G h Q := by
  intro hl0
  exact z_iret rfl dX5_takeByte_27 ⟨hl0, u1⟩
theorem b_X5_takeByte_21 {D : zD} {d : Nat} {G : zG} {h : zH} {Q : zO → zG → zH → Prop} {s0 : Int}
    (u1 : Q (.inl (some (0, s0))) G h) :
    z_Y D M_X5_takeByte d 21 [] [(0, s0)] G h Q := by
  intro hl0
  exact z_iret rfl dX5_takeByte_21 ⟨hl0, u1⟩
theorem b_X5_takeByte_10 {D : zD} {d : Nat} {G : zG} {h : zH} {Q : zO → zG → zH → Prop} {s0 : Int}
    (u1 : Q (.inl (some (0, s0))) G h) :
    z_Y D M_X5_takeByte d 10 [] [(0, s0)] G h Q := by
  intro hl0
  exact z_iret rfl dX5_takeByte_10 ⟨hl0, u1⟩
theorem b_X5_read_0 {D : zD} {d : Nat} {G : zG} {h : zH} {Q : zO → zG → zH → Prop} {x1 x2 : Int}
    (u1 : z_Y D M_X5_read d 32 [(0, 2, 4), (1, 2, x1), (2, 0, x2), (3, 0, 0)] [] G (z_wr (z_wr (z_wr (z_wr (z_wr (z_wr h 4 3 1) 4 4 1) 4 5 0) 4 6 0) 4 7 0) 4 8 0) Q) :
    z_Y D M_X5_read d 0 [(0, 2, 4), (1, 2, x1), (2, 0, x2)] [] G h Q := by
  intro hl0
  refine z_aload_n (q := 1) 0 dX5_read_0 rfl rfl ?_
  refine z_iconst (q := 2) dX5_read_1 rfl ?_
  refine z_pf (q := 5) (ki := 3) fX5_25 rfl (z_sv0 rfl) (hl0.i 4 (by decide) rfl) dX5_read_2 rfl ?_
  have hl1 := hl0.wr (v := 1) (hl0.i 4 (by decide) rfl) (i := 3) (by decide)
  refine z_aload_n (q := 6) 0 dX5_read_5 rfl rfl ?_
  refine z_iconst (q := 7) dX5_read_6 rfl ?_
  refine z_pf (q := 10) (ki := 4) fX5_28 rfl (z_sv0 rfl) (hl1.i 4 (by decide) rfl) dX5_read_7 rfl ?_
  have hl2 := hl1.wr (v := 1) (hl1.i 4 (by decide) rfl) (i := 4) (by decide)
  refine z_aload_n (q := 11) 0 dX5_read_10 rfl rfl ?_
  refine z_iconst (q := 12) dX5_read_11 rfl ?_
  refine z_pf (q := 15) (ki := 5) fX5_31 rfl (z_sv0 rfl) (hl2.i 4 (by decide) rfl) dX5_read_12 rfl ?_
  have hl3 := hl2.wr (v := 0) (hl2.i 4 (by decide) rfl) (i := 5) (by decide)
  refine z_aload_n (q := 16) 0 dX5_read_15 rfl rfl ?_
  refine z_iconst (q := 17) dX5_read_16 rfl ?_
  refine z_pf (q := 20) (ki := 6) fX5_34 rfl (z_sv0 rfl) (hl3.i 4 (by decide) rfl) dX5_read_17 rfl ?_
  have hl4 := hl3.wr (v := 0) (hl3.i 4 (by decide) rfl) (i := 6) (by decide)
  refine z_aload_n (q := 21) 0 dX5_read_20 rfl rfl ?_
  refine z_iconst (q := 22) dX5_read_21 rfl ?_
  refine z_pf (q := 25) (ki := 7) fX5_37 rfl (z_sv0 rfl) (hl4.i 4 (by decide) rfl) dX5_read_22 rfl ?_
  have hl5 := hl4.wr (v := 0) (hl4.i 4 (by decide) rfl) (i := 7) (by decide)
  refine z_aload_n (q := 26) 0 dX5_read_25 rfl rfl ?_
  refine z_lconst0 (q := 27) dX5_read_26 rfl ?_
  refine z_pf (q := 30) (ki := 8) fX5_42 rfl (z_sv1 rfl) (hl5.i 4 (by decide) rfl) dX5_read_27 rfl ?_
  have hl6 := hl5.wr (v := 0) (hl5.i 4 (by decide) rfl) (i := 8) (by decide)
  refine z_iconst (q := 31) dX5_read_30 rfl ?_
  refine z_istore_n (q := 32) (L' := [(0, 2, 4), (1, 2, x1), (2, 0, x2), (3, 0, 0)]) dX5_read_31 rfl (by decide) rfl ?_
  exact u1 hl6
theorem b_X5_read_32 {D : zD} {d : Nat} {G : zG} {h : zH} {Q : zO → zG → zH → Prop} {x1 x2 x3 : Int} (p1 : z_in x3) (p2 : z_in x2) (p3 : ¬ (x2 ≤ x3) → z_is G x1 52) (p4 : ¬ (x2 ≤ x3) → z_in (G.2.2.2 x1)) (p5 : ¬ (x2 ≤ x3) → ¬ ((G.2.2.2 x1) ≤ x3) → 0 ≤ x3) (p6 : ¬ (x2 ≤ x3) → ¬ ((G.2.2.2 x1) ≤ x3) → x3 < (G.2.2.2 x1))
    (u1 : x2 ≤ x3 → z_Y D M_X5_read d 77 [(0, 2, 4), (2, 0, x2)] [] G h Q)
    (u2 : ¬ (x2 ≤ x3) → (G.2.2.2 x1) ≤ x3 → z_Y D M_X5_read d 77 [(0, 2, 4), (2, 0, x2)] [] G h Q)
    (u3 : ¬ (x2 ≤ x3) → ¬ ((G.2.2.2 x1) ≤ x3) → z_Ki D M_X5_takeByte d [(2, 4), (0, (z_iand (w8 (h x1 x3)) 255))] G h (fun r G' h' => z_Y D M_X5_read d 55 [(0, 2, 4), (1, 2, x1), (2, 0, x2), (3, 0, x3)] [(0, r), (2, 4)] G' h' Q)) :
    z_Y D M_X5_read d 32 [(0, 2, 4), (1, 2, x1), (2, 0, x2), (3, 0, x3)] [] G h Q := by
  intro hl0
  refine z_iload_n (q := 33) 3 dX5_read_32 rfl rfl ?_
  refine z_iload_n (q := 34) 2 dX5_read_33 rfl rfl ?_
  refine z_icmp_ge (q := 37) (t := 77) p1 p2 dX5_read_34 (by decide) rfl (fun c1 => ?_) (fun c1 => ?_)
  · refine z_sub (L' := [(0, 2, 4), (2, 0, x2)]) [0, 2] rfl ?_
    exact u1 c1 hl0
  · refine z_iload_n (q := 38) 3 dX5_read_37 rfl rfl ?_
    refine z_aload_n (q := 39) 1 dX5_read_38 rfl rfl ?_
    refine z_alen (q := 40) 52 (by decide) (by decide) (z_ati (p3 c1)) dX5_read_39 rfl ?_
    refine z_icmp_ge (q := 43) (t := 77) p1 (p4 c1) dX5_read_40 (by decide) rfl (fun c2 => ?_) (fun c2 => ?_)
    · refine z_sub (L' := [(0, 2, 4), (2, 0, x2)]) [0, 2] rfl ?_
      exact u2 c1 c2 hl0
    · refine z_aload_n (q := 44) 0 dX5_read_43 rfl rfl ?_
      refine z_aload_n (q := 45) 0 dX5_read_44 rfl rfl ?_
      refine z_aload_n (q := 46) 1 dX5_read_45 rfl rfl ?_
      refine z_iload_n (q := 47) 3 dX5_read_46 rfl rfl ?_
      refine z_bale (q := 48) (v := (h x1 x3)) (z_ati (p3 c1)) (p5 c1 c2) (p6 c1 c2) rfl dX5_read_47 rfl ?_
      refine z_sipush (q := 51) dX5_read_48 rfl (by decide) ?_
      refine z_r_iand (q := 52) dX5_read_51 rfl ?_
      exact z_goV (q := 55) (av := [(0, (z_iand (w8 (h x1 x3)) 255))]) (rest := [(2, 4)]) cb4 (hl0.i 4 (by decide) rfl) z_toi hl0 (u3 c1 c2) mo_X5_takeByte np_X5_takeByte k468 k470 k2 rfl (nle rfl) dX5_read_52 rfl
theorem b_X5_read_77 {D : zD} {d : Nat} {G : zG} {h : zH} {Q : zO → zG → zH → Prop} {x2 : Int} (hd : 2 ≤ d) (p1 : z_in (h 4 3)) (p2 : z_in (h 4 4)) (p3 : z_in (h 4 5))
    (u1 : 1 < (h 4 3) ∧ (h 4 4) < (h 4 5) → z_Y D M_X5_read d 90 [(0, 2, 4), (2, 0, x2)] [(0, 3), (2, 4)] G h Q)
    (u2 : ¬ (1 < (h 4 3) ∧ (h 4 4) < (h 4 5)) → z_Y D M_X5_read d 90 [(0, 2, 4), (2, 0, x2)] [(0, 0), (2, 4)] G h Q) :
    z_Y D M_X5_read d 77 [(0, 2, 4), (2, 0, x2)] [] G h Q := by
  intro hl0
  refine z_aload_n (q := 78) 0 dX5_read_77 rfl rfl ?_
  refine z_aload_n (q := 79) 0 dX5_read_78 rfl rfl ?_
  have e1 := a_X5_rowIsShort (D := D) (G := G) (h := h) (d := d - 1) (by omega) p1 p2 p3
  refine z_goV (q := 82) (av := []) (rest := [(2, 4)]) cb4 (hl0.i 4 (by decide) rfl) (z_toi) hl0 (z_Ei.K e1 (by omega) ?_) mo_X5_rowIsShort np_X5_rowIsShort k484 k486 k6 rfl (nle rfl) dX5_read_79 rfl
  by_cases c1 : 1 < (h 4 3) ∧ (h 4 4) < (h 4 5)
  · rw [z_b1 c1]
    refine z_if_eq (q := 85) (t := 89) ⟨by decide, by decide⟩ dX5_read_82 (by decide) rfl (fun c => absurd c (by decide)) (fun _ => ?_)
    refine z_iconst (q := 86) dX5_read_85 rfl ?_
    refine z_goto (t := 90) dX5_read_86 (by decide) ?_
    exact u1 c1 hl0
  · rw [z_b0 c1]
    refine z_if_eq (q := 85) (t := 89) ⟨by decide, by decide⟩ dX5_read_82 (by decide) rfl (fun _ => ?_) (fun c => absurd c (by decide))
    refine z_iconst (q := 90) dX5_read_89 rfl ?_
    exact u2 c1 hl0
theorem b_X5_read_55 {D : zD} {d : Nat} {G : zG} {h : zH} {Q : zO → zG → zH → Prop} {s1 x1 x2 x3 : Int} (p1 : z_in s1)
    (u1 : s1 = 0 → z_Y D M_X5_read d 32 [(0, 2, 4), (1, 2, x1), (2, 0, x2), (3, 0, (x3 + 1))] [] G (z_wr h 4 1 s1) Q)
    (u2 : ¬ (s1 = 0) → Q (.inl none) G (z_wr (z_wr h 4 1 s1) 4 2 x3)) :
    z_Y D M_X5_read d 55 [(0, 2, 4), (1, 2, x1), (2, 0, x2), (3, 0, x3)] [(0, s1), (2, 4)] G h Q := by
  intro hl0
  refine z_pf (q := 58) (ki := 1) fX5_18 rfl (z_sv0 rfl) (hl0.i 4 (by decide) rfl) dX5_read_55 rfl ?_
  have hl1 := hl0.wr (v := s1) (hl0.i 4 (by decide) rfl) (i := 1) (by decide)
  refine z_aload_n (q := 59) 0 dX5_read_58 rfl rfl ?_
  refine z_gf (q := 62) (ki := 1) (v := (0, s1)) fX5_18 rfl (z_ldi rfl w_s) (hl1.i 4 (by decide) rfl) dX5_read_59 rfl ?_
  refine z_if_eq (q := 65) (t := 71) p1 dX5_read_62 (by decide) rfl (fun c1 => ?_) (fun c1 => ?_)
  · refine z_iinc (q := 74) (L' := [(0, 2, 4), (1, 2, x1), (2, 0, x2), (3, 0, (x3 + 1))]) 3 dX5_read_71 rfl rfl (by decide) rfl ?_
    refine z_goto (t := 32) dX5_read_74 (by decide) ?_
    exact u1 c1 hl1
  · refine z_aload_n (q := 66) 0 dX5_read_65 rfl rfl ?_
    refine z_iload_n (q := 67) 3 dX5_read_66 rfl rfl ?_
    refine z_pf (q := 70) (ki := 2) fX5_22 rfl (z_sv0 rfl) (hl1.i 4 (by decide) rfl) dX5_read_67 rfl ?_
    have hl2 := hl1.wr (v := x3) (hl1.i 4 (by decide) rfl) (i := 2) (by decide)
    exact z_vret rfl dX5_read_70 ⟨hl2, u2 c1⟩
theorem b_X5_read_90 {D : zD} {d : Nat} {G : zG} {h : zH} {Q : zO → zG → zH → Prop} {s1 x2 : Int} (p1 : z_in s1)
    (u1 : ¬ s1 = 0 → z_Y D M_X5_read d 106 [(0, 2, 4)] [(0, x2), (2, 4)] G (z_wr h 4 1 s1) Q)
    (u2 : ¬ (¬ s1 = 0) → z_Y D M_X5_read d 106 [(0, 2, 4)] [(0, (-1)), (2, 4)] G (z_wr h 4 1 s1) Q) :
    z_Y D M_X5_read d 90 [(0, 2, 4), (2, 0, x2)] [(0, s1), (2, 4)] G h Q := by
  intro hl0
  refine z_pf (q := 93) (ki := 1) fX5_18 rfl (z_sv0 rfl) (hl0.i 4 (by decide) rfl) dX5_read_90 rfl ?_
  have hl1 := hl0.wr (v := s1) (hl0.i 4 (by decide) rfl) (i := 1) (by decide)
  refine z_aload_n (q := 94) 0 dX5_read_93 rfl rfl ?_
  refine z_aload_n (q := 95) 0 dX5_read_94 rfl rfl ?_
  refine z_gf (q := 98) (ki := 1) (v := (0, s1)) fX5_18 rfl (z_ldi rfl w_s) (hl1.i 4 (by decide) rfl) dX5_read_95 rfl ?_
  refine z_if_ne (q := 101) (t := 105) p1 dX5_read_98 (by decide) rfl (fun c1 => ?_) (fun c1 => ?_)
  · refine z_iload_n (q := 106) 1 dX5_read_105 rfl rfl ?_
    refine z_sub (L' := [(0, 2, 4)]) [0] rfl ?_
    exact u1 c1 hl1
  · refine z_iconst (q := 102) dX5_read_101 rfl ?_
    refine z_goto (t := 106) dX5_read_102 (by decide) ?_
    refine z_sub (L' := [(0, 2, 4)]) [0] rfl ?_
    exact u2 c1 hl1
theorem b_X5_read_106 {D : zD} {d : Nat} {G : zG} {h : zH} {Q : zO → zG → zH → Prop} {s1 : Int} (p1 : z_in (h 4 1))
    (u1 : ¬ (h 4 1) = 0 → Q (.inl none) G (z_wr h 4 2 s1))
    (u2 : ¬ (¬ (h 4 1) = 0) → z_Kv D M_X5_endCell d [(2, 4)] G (z_wr h 4 2 s1) (fun G' h' => z_Y D M_X5_read d 120 [(0, 2, 4)] [] G' h' Q)) :
    z_Y D M_X5_read d 106 [(0, 2, 4)] [(0, s1), (2, 4)] G h Q := by
  intro hl0
  refine z_pf (q := 109) (ki := 2) fX5_22 rfl (z_sv0 rfl) (hl0.i 4 (by decide) rfl) dX5_read_106 rfl ?_
  have hl1 := hl0.wr (v := s1) (hl0.i 4 (by decide) rfl) (i := 2) (by decide)
  refine z_aload_n (q := 110) 0 dX5_read_109 rfl rfl ?_
  refine z_gf (q := 113) (ki := 1) (v := (0, (h 4 1))) fX5_18 rfl (z_ldi rfl (w_nj (by decide))) (hl1.i 4 (by decide) rfl) dX5_read_110 rfl ?_
  refine z_if_ne (q := 116) (t := 136) p1 dX5_read_113 (by decide) rfl (fun c1 => ?_) (fun c1 => ?_)
  · exact z_vret rfl dX5_read_136 ⟨hl1, u1 c1⟩
  · refine z_aload_n (q := 117) 0 dX5_read_116 rfl rfl ?_
    exact z_goV (q := 120) (av := []) (rest := []) cb4 (hl1.i 4 (by decide) rfl) z_tov hl1 (u2 c1) mo_X5_endCell np_X5_endCell k476 k478 k4 rfl (nle rfl) dX5_read_117 rfl
theorem b_X5_read_120 {D : zD} {d : Nat} {G : zG} {h : zH} {Q : zO → zG → zH → Prop} (hd : 2 ≤ d) (p1 : z_in (h 4 3)) (p2 : z_in (h 4 4))
    (u1 : (1 ≤ (h 4 3) ∧ (h 4 3) ≤ 12) ∧ 1 ≤ (h 4 4) ∧ (h 4 4) ≤ 6 → Q (.inl none) G (z_wr (z_wr h 5 1 (h 4 3)) 5 2 (h 4 4)))
    (u2 : ¬ ((1 ≤ (h 4 3) ∧ (h 4 3) ≤ 12) ∧ 1 ≤ (h 4 4) ∧ (h 4 4) ≤ 6) → Q (.inl none) G h) :
    z_Y D M_X5_read d 120 [(0, 2, 4)] [] G h Q := by
  intro hl0
  refine z_aload_n (q := 121) 0 dX5_read_120 rfl rfl ?_
  refine z_gf (q := 124) (ki := 0) (v := (2, 5)) fX5_12 rfl (z_ldr rfl (hl0.ref 4 rfl)) (hl0.i 4 (by decide) rfl) dX5_read_121 rfl ?_
  refine z_aload_n (q := 125) 0 dX5_read_124 rfl rfl ?_
  refine z_gf (q := 128) (ki := 3) (v := (0, (h 4 3))) fX5_25 rfl rfl (hl0.i 4 (by decide) rfl) dX5_read_125 rfl ?_
  refine z_aload_n (q := 129) 0 dX5_read_128 rfl rfl ?_
  refine z_gf (q := 132) (ki := 4) (v := (0, (h 4 4))) fX5_28 rfl rfl (hl0.i 4 (by decide) rfl) dX5_read_129 rfl ?_
  by_cases c1 : (1 ≤ (h 4 3) ∧ (h 4 3) ≤ 12) ∧ 1 ≤ (h 4 4) ∧ (h 4 4) ≤ 6
  · have e1 := a_X4_shape1 (D := D) (G := G) (h := h) (d := d - 1) (by omega) 5 (h 4 3) (h 4 4) (hl0.i 5 (by decide) rfl) p1 p2 c1
    refine z_goV (q := 135) (av := [(0, (h 4 3)), (0, (h 4 4))]) (rest := []) cb3 (hl0.i 5 (by decide) rfl) (z_toi) hl0 (z_Ei.K e1 (by omega) ?_) mo_X4_shape np_X4_shape k504 k505 k506 rfl (nle rfl) dX5_read_132 rfl
    have hl1 : lay G (z_wr (z_wr h 5 1 (h 4 3)) 5 2 (h 4 4)) := e1.lay hl0
    refine z_pop (q := 136) (by decide) dX5_read_135 rfl ?_
    exact z_vret rfl dX5_read_136 ⟨hl1, u1 c1⟩
  · have e2 := a_X4_shape0 (D := D) (G := G) (h := h) (d := d - 1) (by omega) 5 (h 4 3) (h 4 4) (hl0.i 5 (by decide) rfl) p1 p2 c1
    refine z_goV (q := 135) (av := [(0, (h 4 3)), (0, (h 4 4))]) (rest := []) cb3 (hl0.i 5 (by decide) rfl) (z_toi) hl0 (z_Ei.K e2 (by omega) ?_) mo_X4_shape np_X4_shape k504 k505 k506 rfl (nle rfl) dX5_read_132 rfl
    refine z_pop (q := 136) (by decide) dX5_read_135 rfl ?_
    exact z_vret rfl dX5_read_136 ⟨hl0, u2 c1⟩
