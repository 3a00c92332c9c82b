section GoInit
variable {D : zD} {M M2 : zM} {d pc q idx : Nat} {L : List (Nat × zV)} {st rest av : List zV} {G : zG} {h : zH} {Q : zO → zG → zH → Prop}
theorem z_goIN {a : Int} {host : String} (ha : 0 ≤ a) {K : Option zV → zG → zH → Prop} (hk : z_tv D M d q L rest Q K) (hl : lay G h) (kc : z_K D M2 d ((2, a) :: av) G h K) (hm : z_mok M2) (hn : z_np M2 av.length) (h1 : M2.1.name = "<init>") (hcode : Cond.code M2.1 M2.2.1 M2.2.2.1 none ∈ zT) (hlink : Cond.methodLinkNest M.1.cls idx M2.1 host ∈ zT) (hinst : Cond.instanceMethod M2.1 ∈ zT) (hst : st = ((2, a) :: av).reverse ++ rest) (hw : z_wid rest ≤ 20) (hd : decode M.2.1 pc = .ok (.invokespecial idx, 3)) (hq : pc + 3 = q) : z_F D M d pc L st G h (fun o G' h' => lay G' h' ∧ Q o G' h') := by
  obtain ⟨d2, hdd, kc⟩ := kc
  exact z_invIN ha (kc hl) hm hn h1 hcode hlink hinst hdd hst hw hd hq (fun r G1 h1 ⟨hl1, r', e, hk1⟩ => by cases e; exact hk r G1 h1 hk1 hl1) (fun a G1 h1 ⟨_, r', e, _⟩ => by cases e)
theorem z_goI {a : Int} (ha : 0 ≤ a) {K : Option zV → zG → zH → Prop} (hk : z_tv D M d q L rest Q K) (hl : lay G h) (kc : z_K D M2 d ((2, a) :: av) G h K) (hm : z_mok M2) (hn : z_np M2 av.length) (h1 : M2.1.name = "<init>") (hrt : M2.2.2.2.1 = none) (hh : M2.2.2.2.2 = []) (hcode : Cond.code M2.1 M2.2.1 M2.2.2.1 none ∈ zT) (hlink : Cond.methodLink M.1.cls idx M2.1 ∈ zT) (hinst : Cond.instanceMethod M2.1 ∈ zT) (hst : st = ((2, a) :: av).reverse ++ rest) (hw : z_wid rest ≤ 20) (hd : decode M.2.1 pc = .ok (.invokespecial idx, 3)) (hq : pc + 3 = q) : z_F D M d pc L st G h (fun o G' h' => lay G' h' ∧ Q o G' h') := by
  obtain ⟨d2, hdd, kc⟩ := kc
  exact z_invI ha (kc hl) hm hn h1 hrt hh hcode hlink hinst hdd hst hw hd hq (fun r G1 h1 ⟨hl1, r', e, hk1⟩ => by cases e; exact hk r G1 h1 hk1 hl1) (fun a G1 h1 ⟨_, r', e, _⟩ => by cases e)
end GoInit
theorem b_X1_mostA_0 {D : zD} {d : Nat} {G : zG} {h : zH} {Q : zO → zG → zH → Prop} {x0 : Int} (hd : 2 ≤ d) (p1 : z_in x0) (p2 : z_in (zfm x0))
    (u1 : ¬ (zfm x0) = 0 → Q (.inl (some (0, 5))) G h)
    (u2 : ¬ (¬ (zfm x0) = 0) → Q (.inl (some (0, 0))) G h) :
    z_Y D M_X1_mostA d 0 [(0, 0, x0)] [] G h Q := by
  intro hl0
  refine z_iload_n (q := 1) 0 dX1_mostA_0 rfl rfl ?_
  have e1 := a_X3_formOf1 (D := D) (G := G) (h := h) (d := d - 1) (by omega) x0 p1
  refine z_goS (q := 4) (av := [(0, x0)]) (rest := []) (z_toi) hl0 (z_Ei.K e1 (by omega) ?_) mo_X3_formOf np_X3_formOf k1020 k608 rfl (nle rfl) dX1_mostA_1 rfl
  refine z_if_ne (q := 7) (t := 11) p2 dX1_mostA_4 (by decide) rfl (fun c1 => ?_) (fun c1 => ?_)
  · refine z_iconst (q := 12) dX1_mostA_11 rfl ?_
    exact z_iret rfl dX1_mostA_12 ⟨hl0, u1 c1⟩
  · refine z_iconst (q := 8) dX1_mostA_7 rfl ?_
    refine z_goto (t := 12) dX1_mostA_8 (by decide) ?_
    exact z_iret rfl dX1_mostA_12 ⟨hl0, u2 c1⟩
theorem b_X1_mostB_0 {D : zD} {d : Nat} {G : zG} {h : zH} {Q : zO → zG → zH → Prop} {x0 : Int} (hd : 2 ≤ d) (p1 : z_in x0) (p2 : z_in (zfm x0))
    (u1 : (zfm x0) = 2 → Q (.inl (some (0, 3))) G h)
    (u2 : ¬ (zfm x0) = 2 → (zfm x0) = 3 → Q (.inl (some (0, 5))) G h)
    (u3 : ¬ (zfm x0) = 2 → ¬ (zfm x0) = 3 → Q (.inl (some (0, 0))) G h) :
    z_Y D M_X1_mostB d 0 [(0, 0, x0)] [] G h Q := by
  intro hl0
  refine z_iload_n (q := 1) 0 dX1_mostB_0 rfl rfl ?_
  have e1 := a_X3_formOf1 (D := D) (G := G) (h := h) (d := d - 1) (by omega) x0 p1
  refine z_goS (q := 4) (av := [(0, x0)]) (rest := []) (z_toi) hl0 (z_Ei.K e1 (by omega) ?_) mo_X3_formOf np_X3_formOf k1020 k608 rfl (nle rfl) dX1_mostB_1 rfl
  by_cases c1 : (zfm x0) = 2
  · refine z_lsw (t := 32) (off := 28) p2 dX1_mostB_4 (by decide) (by simp [Op.lookupswitch.offset, c1]) (by decide) ?_
    refine z_iconst (q := 33) dX1_mostB_32 rfl ?_
    exact z_iret rfl dX1_mostB_33 ⟨hl0, u1 c1⟩
  by_cases c2 : (zfm x0) = 3
  · refine z_lsw (t := 34) (off := 30) p2 dX1_mostB_4 (by decide) (by simp [Op.lookupswitch.offset, c2]) (by decide) ?_
    refine z_iconst (q := 35) dX1_mostB_34 rfl ?_
    exact z_iret rfl dX1_mostB_35 ⟨hl0, u2 c1 c2⟩
  refine z_lsw (t := 36) (off := 32) p2 dX1_mostB_4 (by decide) (by simp [Op.lookupswitch.offset, nesy c1, nesy c2]) (by decide) ?_
  refine z_iconst (q := 37) dX1_mostB_36 rfl ?_
  exact z_iret rfl dX1_mostB_37 ⟨hl0, u3 c1 c2⟩
def zma (n : Int) : Int := if zfm n = 0 then 0 else 5
def zmB (n : Int) : Int := if zfm n = 2 then 3 else if zfm n = 3 then 5 else 0
theorem zfm_rg (n : Int) : 0 ≤ zfm n ∧ zfm n ≤ 3 := by
  unfold zfm
  split
  · rename_i q
    have : n = 1 ∨ n = 2 ∨ n = 3 ∨ n = 4 ∨ n = 5 ∨ n = 6 ∨ n = 7 ∨ n = 8 ∨ n = 9 ∨ n = 10 ∨ n = 11 ∨ n = 12 ∨ n = 13 ∨ n = 14 := by omega
    rcases this with rfl | rfl | rfl | rfl | rfl | rfl | rfl | rfl | rfl | rfl | rfl | rfl | rfl | rfl <;> decide
  · omega
section MostAB
variable {D : zD} {d : Nat} {G : zG} {h : zH}
theorem a_X1_mostA (hd : 2 ≤ d) (n : Int) (hn : z_in n) : z_Ei D M_X1_mostA d [(0, n)] G h (zma n) h := by
  have q := zfm_rg n
  refine z_begin mo_X1_mostA rfl (nle rfl) (b_X1_mostA_0 hd hn ⟨by omega, by omega⟩ (fun c => ⟨?_, rfl, rfl⟩) (fun c => ⟨?_, rfl, rfl⟩))
  · unfold zma; rw [if_neg c]
  · unfold zma; rw [if_pos (by omega)]
theorem a_X1_mostB (hd : 2 ≤ d) (n : Int) (hn : z_in n) : z_Ei D M_X1_mostB d [(0, n)] G h (zmB n) h := by
  have q := zfm_rg n
  refine z_begin mo_X1_mostB rfl (nle rfl) (b_X1_mostB_0 hd hn ⟨by omega, by omega⟩ (fun c => ⟨?_, rfl, rfl⟩) (fun c c2 => ⟨?_, rfl, rfl⟩) (fun c c2 => ⟨?_, rfl, rfl⟩))
  · unfold zmB; rw [if_pos c]
  · unfold zmB; rw [if_neg c, if_pos c2]
  · unfold zmB; rw [if_neg c, if_neg c2]
end MostAB
theorem b_X2_init_0 {D : zD} {d : Nat} {G : zG} {h : zH} {Q : zO → zG → zH → Prop} {x0 : Int} (hd : 1 ≤ d) (p1 : 0 ≤ x0)
    (u1 : z_Y D M_X2_init d 9 [] [(2, (G.1 : Int)), (2, x0)] (z_al G 51 16) (z_nw h G.1 (fun _ => 0)) Q) :
    z_Y D M_X2_init d 0 [(0, 2, x0)] [] G h Q := by
  intro hl0
  refine z_aload_n (q := 1) 0 dX2_init_0 rfl rfl ?_
  refine z_objInit (q := 4) p1 k933 k127 k128 (by omega) (nle rfl) dX2_init_1 rfl ?_
  refine z_aload_n (q := 5) 0 dX2_init_4 rfl rfl ?_
  refine z_bipush (q := 7) dX2_init_5 rfl (by decide) ?_
  refine z_newa (q := 9) 51 (by decide) (by decide) rfl k168 (by decide) (by decide) dX2_init_7 rfl ?_
  refine z_sub (L' := []) [] rfl ?_
  exact u1 (hl0.al ⟨by decide, by decide⟩)
theorem b_X2_init_9 {D : zD} {d : Nat} {G : zG} {h : zH} {Q : zO → zG → zH → Prop} {s0 s1 : Int} (p1 : z_is G s0 1)
    (u1 : Q (.inl none) G (z_wr h s0 0 s1)) :
    z_Y D M_X2_init d 9 [] [(2, s1), (2, s0)] G h Q := by
  intro hl0
  refine z_pf (q := 12) (ki := 0) fX2_11 rfl (z_sv2 rfl) p1 dX2_init_9 rfl ?_
  have hl1 := hl0.wr (v := s1) p1 (i := 0) (by decide)
  exact z_vret rfl dX2_init_12 ⟨hl1, u1⟩
theorem b_X2_hold_0 {D : zD} {d : Nat} {G : zG} {h : zH} {Q : zO → zG → zH → Prop} {x0 x1 x2 x3 : Int} (hd : 1 ≤ d) (p1 : z_is G x1 3) (p2 : z_is G x0 1) (p3 : z_is G x2 3) (p4 : z_is G (h x0 0) 51) (p5 : z_in (G.2.2.2 (h x0 0))) (p6 : z_in (((h x1 1) * (h x1 2)) + ((h x2 1) * (h x2 2)))) (p7 : ¬ ((((h x1 1) * (h x1 2)) + ((h x2 1) * (h x2 2))) ≤ (G.2.2.2 (h x0 0))) → z_in (2 * (G.2.2.2 (h x0 0)))) (p8 : ¬ ((((h x1 1) * (h x1 2)) + ((h x2 1) * (h x2 2))) ≤ (G.2.2.2 (h x0 0))) → z_in (if (((h x1 1) * (h x1 2)) + ((h x2 1) * (h x2 2))) < (2 * (G.2.2.2 (h x0 0))) then (2 * (G.2.2.2 (h x0 0))) else (((h x1 1) * (h x1 2)) + ((h x2 1) * (h x2 2))))) (p9 : ¬ ((((h x1 1) * (h x1 2)) + ((h x2 1) * (h x2 2))) ≤ (G.2.2.2 (h x0 0))) → 0 ≤ (if (if (((h x1 1) * (h x1 2)) + ((h x2 1) * (h x2 2))) < (2 * (G.2.2.2 (h x0 0))) then (2 * (G.2.2.2 (h x0 0))) else (((h x1 1) * (h x1 2)) + ((h x2 1) * (h x2 2)))) < 144 then (if (((h x1 1) * (h x1 2)) + ((h x2 1) * (h x2 2))) < (2 * (G.2.2.2 (h x0 0))) then (2 * (G.2.2.2 (h x0 0))) else (((h x1 1) * (h x1 2)) + ((h x2 1) * (h x2 2)))) else 144)) (p10 : ¬ ((((h x1 1) * (h x1 2)) + ((h x2 1) * (h x2 2))) ≤ (G.2.2.2 (h x0 0))) → (if (if (((h x1 1) * (h x1 2)) + ((h x2 1) * (h x2 2))) < (2 * (G.2.2.2 (h x0 0))) then (2 * (G.2.2.2 (h x0 0))) else (((h x1 1) * (h x1 2)) + ((h x2 1) * (h x2 2)))) < 144 then (if (((h x1 1) * (h x1 2)) + ((h x2 1) * (h x2 2))) < (2 * (G.2.2.2 (h x0 0))) then (2 * (G.2.2.2 (h x0 0))) else (((h x1 1) * (h x1 2)) + ((h x2 1) * (h x2 2)))) else 144) ≤ 60000000)
    (u1 : (((h x1 1) * (h x1 2)) + ((h x2 1) * (h x2 2))) ≤ (G.2.2.2 (h x0 0)) → z_Y D M_X2_hold d 94 [(0, 2, x0), (1, 2, x1), (2, 2, x2), (3, 0, x3), (4, 0, ((h x1 1) * (h x1 2))), (5, 0, ((h x2 1) * (h x2 2)))] [] G (z_wr (z_wr (z_wr (z_wr h x0 1 (h x1 1)) x0 2 (h x1 2)) x0 3 (h x2 1)) x0 4 (h x2 2)) Q)
    (u2 : ¬ ((((h x1 1) * (h x1 2)) + ((h x2 1) * (h x2 2))) ≤ (G.2.2.2 (h x0 0))) → z_Y D M_X2_hold d 91 [(0, 2, x0), (1, 2, x1), (2, 2, x2), (3, 0, x3), (4, 0, ((h x1 1) * (h x1 2))), (5, 0, ((h x2 1) * (h x2 2)))] [(2, (G.1 : Int)), (2, x0)] (z_al G 51 ((if (if (((h x1 1) * (h x1 2)) + ((h x2 1) * (h x2 2))) < (2 * (G.2.2.2 (h x0 0))) then (2 * (G.2.2.2 (h x0 0))) else (((h x1 1) * (h x1 2)) + ((h x2 1) * (h x2 2)))) < 144 then (if (((h x1 1) * (h x1 2)) + ((h x2 1) * (h x2 2))) < (2 * (G.2.2.2 (h x0 0))) then (2 * (G.2.2.2 (h x0 0))) else (((h x1 1) * (h x1 2)) + ((h x2 1) * (h x2 2)))) else 144)).toNat) (z_nw (z_wr (z_wr (z_wr (z_wr h x0 1 (h x1 1)) x0 2 (h x1 2)) x0 3 (h x2 1)) x0 4 (h x2 2)) G.1 (fun _ => 0)) Q) :
    z_Y D M_X2_hold d 0 [(0, 2, x0), (1, 2, x1), (2, 2, x2), (3, 0, x3)] [] G h Q := by
  intro hl0
  refine z_aload_n (q := 1) 0 dX2_hold_0 rfl rfl ?_
  refine z_aload_n (q := 2) 1 dX2_hold_1 rfl rfl ?_
  refine z_gf (q := 5) (ki := 1) (v := (0, (h x1 1))) fX2_15 rfl rfl p1 dX2_hold_2 rfl ?_
  refine z_pf (q := 8) (ki := 1) fX2_19 rfl (z_sv0 rfl) p2 dX2_hold_5 rfl ?_
  have hl1 := hl0.wr (v := (h x1 1)) p2 (i := 1) (by decide)
  refine z_aload_n (q := 9) 0 dX2_hold_8 rfl rfl ?_
  refine z_aload_n (q := 10) 1 dX2_hold_9 rfl rfl ?_
  refine z_gf (q := 13) (ki := 2) (v := (0, (h x1 2))) fX2_20 rfl (z_ldi rfl (w_nj (by decide))) p1 dX2_hold_10 rfl ?_
  refine z_pf (q := 16) (ki := 2) fX2_23 rfl (z_sv0 rfl) p2 dX2_hold_13 rfl ?_
  have hl2 := hl1.wr (v := (h x1 2)) p2 (i := 2) (by decide)
  refine z_aload_n (q := 17) 0 dX2_hold_16 rfl rfl ?_
  refine z_aload_n (q := 18) 2 dX2_hold_17 rfl rfl ?_
  refine z_gf (q := 21) (ki := 1) (v := (0, (h x2 1))) fX2_15 rfl (z_ldi rfl ((w_nj (by decide)).trans (w_na (z_isne p3 p2 (by decide))))) p3 dX2_hold_18 rfl ?_
  refine z_pf (q := 24) (ki := 3) fX2_24 rfl (z_sv0 rfl) p2 dX2_hold_21 rfl ?_
  have hl3 := hl2.wr (v := (h x2 1)) p2 (i := 3) (by decide)
  refine z_aload_n (q := 25) 0 dX2_hold_24 rfl rfl ?_
  refine z_aload_n (q := 26) 2 dX2_hold_25 rfl rfl ?_
  refine z_gf (q := 29) (ki := 2) (v := (0, (h x2 2))) fX2_20 rfl (z_ldi rfl ((w_nj (by decide)).trans ((w_na (z_isne p3 p2 (by decide))).trans (w_nj (by decide))))) p3 dX2_hold_26 rfl ?_
  refine z_pf (q := 32) (ki := 4) fX2_27 rfl (z_sv0 rfl) p2 dX2_hold_29 rfl ?_
  have hl4 := hl3.wr (v := (h x2 2)) p2 (i := 4) (by decide)
  refine z_aload_n (q := 33) 0 dX2_hold_32 rfl rfl ?_
  refine z_gf (q := 36) (ki := 1) (v := (0, (h x1 1))) fX2_19 rfl (z_ldi rfl ((w_nj (by decide)).trans ((w_nj (by decide)).trans ((w_nj (by decide)).trans w_s)))) p2 dX2_hold_33 rfl ?_
  refine z_aload_n (q := 37) 0 dX2_hold_36 rfl rfl ?_
  refine z_gf (q := 40) (ki := 2) (v := (0, (h x1 2))) fX2_23 rfl (z_ldi rfl ((w_nj (by decide)).trans ((w_nj (by decide)).trans w_s))) p2 dX2_hold_37 rfl ?_
  refine z_imul (q := 41) dX2_hold_40 rfl ?_
  refine z_istore (q := 43) (L' := [(0, 2, x0), (1, 2, x1), (2, 2, x2), (3, 0, x3), (4, 0, ((h x1 1) * (h x1 2)))]) dX2_hold_41 rfl (by decide) rfl ?_
  refine z_aload_n (q := 44) 0 dX2_hold_43 rfl rfl ?_
  refine z_gf (q := 47) (ki := 3) (v := (0, (h x2 1))) fX2_24 rfl (z_ldi rfl ((w_nj (by decide)).trans w_s)) p2 dX2_hold_44 rfl ?_
  refine z_aload_n (q := 48) 0 dX2_hold_47 rfl rfl ?_
  refine z_gf (q := 51) (ki := 4) (v := (0, (h x2 2))) fX2_27 rfl (z_ldi rfl w_s) p2 dX2_hold_48 rfl ?_
  refine z_imul (q := 52) dX2_hold_51 rfl ?_
  refine z_istore (q := 54) (L' := [(0, 2, x0), (1, 2, x1), (2, 2, x2), (3, 0, x3), (4, 0, ((h x1 1) * (h x1 2))), (5, 0, ((h x2 1) * (h x2 2)))]) dX2_hold_52 rfl (by decide) rfl ?_
  refine z_aload_n (q := 55) 0 dX2_hold_54 rfl rfl ?_
  refine z_gf (q := 58) (ki := 0) (v := (2, (h x0 0))) fX2_11 rfl (z_ldr rfl ((w_nj (by decide)).trans ((w_nj (by decide)).trans ((w_nj (by decide)).trans (w_nj (by decide)))))) p2 dX2_hold_55 rfl ?_
  refine z_alen (q := 59) 51 (by decide) (by decide) (z_ati p4) dX2_hold_58 rfl ?_
  refine z_iload (q := 61) 4 dX2_hold_59 rfl rfl ?_
  refine z_iload (q := 63) 5 dX2_hold_61 rfl rfl ?_
  refine z_iadd (q := 64) dX2_hold_63 rfl ?_
  refine z_icmp_ge (q := 67) (t := 94) p5 p6 dX2_hold_64 (by decide) rfl (fun c1 => ?_) (fun c1 => ?_)
  · exact u1 c1 hl4
  · refine z_aload_n (q := 68) 0 dX2_hold_67 rfl rfl ?_
    refine z_sipush (q := 71) dX2_hold_68 rfl (by decide) ?_
    refine z_iload (q := 73) 4 dX2_hold_71 rfl rfl ?_
    refine z_iload (q := 75) 5 dX2_hold_73 rfl rfl ?_
    refine z_iadd (q := 76) dX2_hold_75 rfl ?_
    refine z_iconst (q := 77) dX2_hold_76 rfl ?_
    refine z_aload_n (q := 78) 0 dX2_hold_77 rfl rfl ?_
    refine z_gf (q := 81) (ki := 0) (v := (2, (h x0 0))) fX2_11 rfl (z_ldr rfl ((w_nj (by decide)).trans ((w_nj (by decide)).trans ((w_nj (by decide)).trans (w_nj (by decide)))))) p2 dX2_hold_78 rfl ?_
    refine z_alen (q := 82) 51 (by decide) (by decide) (z_ati p4) dX2_hold_81 rfl ?_
    refine z_imul (q := 83) dX2_hold_82 rfl ?_
    refine z_max (q := 86) p6 (p7 c1) k977 k978 k117 k979 (by omega) (nle rfl) dX2_hold_83 rfl ?_
    refine z_min (q := 89) ⟨by decide, by decide⟩ (p8 c1) k980 k981 k117 k982 (by omega) (nle rfl) dX2_hold_86 rfl ?_
    refine z_newa (q := 91) 51 (by decide) (by decide) rfl k168 (p9 c1) (p10 c1) dX2_hold_89 rfl ?_
    exact u2 c1 (hl4.al ⟨by decide, by decide⟩)
theorem b_X2_hold_94 {D : zD} {d : Nat} {G : zG} {h : zH} {Q : zO → zG → zH → Prop} {x0 x1 x2 x3 x4 x5 : Int} (hd : 1 ≤ d) (p1 : z_is G x1 3) (p2 : z_is G x0 1) (p3 : z_is G (h x0 0) 51) (p4 : 0 ≤ x4) (p5 : (0 : Int) + x4 ≤ 72) (p6 : (0 : Int) + x4 ≤ (G.2.2.2 (h x0 0))) (p7 : z_is G x2 3) (p8 : 0 ≤ x5) (p9 : (0 : Int) + x5 ≤ 72) (p10 : x4 + x5 ≤ (G.2.2.2 (h x0 0)))
    (u1 : Q (.inl none) G (z_wr (z_wr (z_wr (z_wr (z_wr (z_cp (z_cp h (x1 + 1) 0 (h x0 0) 0 x4) (x2 + 1) 0 (h x0 0) x4 x5) x0 5 x3) x0 6 0) x0 7 0) x0 8 0) x0 9 0)) :
    z_Y D M_X2_hold d 94 [(0, 2, x0), (1, 2, x1), (2, 2, x2), (3, 0, x3), (4, 0, x4), (5, 0, x5)] [] G h Q := by
  intro hl0
  refine z_aload_n (q := 95) 1 dX2_hold_94 rfl rfl ?_
  refine z_gf (q := 98) (ki := 0) (v := (2, (x1 + 1))) fX2_39 rfl (z_ldr rfl (hl0.tab p1)) p1 dX2_hold_95 rfl ?_
  refine z_iconst (q := 99) dX2_hold_98 rfl ?_
  refine z_aload_n (q := 100) 0 dX2_hold_99 rfl rfl ?_
  refine z_gf (q := 103) (ki := 0) (v := (2, (h x0 0))) fX2_11 rfl rfl p2 dX2_hold_100 rfl ?_
  refine z_iconst (q := 104) dX2_hold_103 rfl ?_
  refine z_iload (q := 106) 4 dX2_hold_104 rfl rfl ?_
  refine z_copy (q := 109) 51 (by decide) (hl0.ti p1) p3 (by decide) (by decide) p4 (by rw [(hl0.tn p1)]; exact p5) p6 k983 k514 k513 k111 (by omega) (nle rfl) dX2_hold_106 rfl ?_
  have hl1 := hl0.cp (a := (x1 + 1)) (sp := 0) (dp := 0) (n := x4) p3 (by decide)
  refine z_aload_n (q := 110) 2 dX2_hold_109 rfl rfl ?_
  refine z_gf (q := 113) (ki := 0) (v := (2, (x2 + 1))) fX2_39 rfl (z_ldr rfl (hl1.tab p7)) p7 dX2_hold_110 rfl ?_
  refine z_iconst (q := 114) dX2_hold_113 rfl ?_
  refine z_aload_n (q := 115) 0 dX2_hold_114 rfl rfl ?_
  refine z_gf (q := 118) (ki := 0) (v := (2, (h x0 0))) fX2_11 rfl (z_ldr rfl (c_na (z_isne p2 p3 (by decide)))) p2 dX2_hold_115 rfl ?_
  refine z_iload (q := 120) 4 dX2_hold_118 rfl rfl ?_
  refine z_iload (q := 122) 5 dX2_hold_120 rfl rfl ?_
  refine z_copy (q := 125) 51 (by decide) (hl1.ti p7) p3 (by decide) p4 p8 (by rw [(hl1.tn p7)]; exact p9) p10 k983 k514 k513 k111 (by omega) (nle rfl) dX2_hold_122 rfl ?_
  have hl2 := hl1.cp (a := (x2 + 1)) (sp := 0) (dp := x4) (n := x5) p3 (by decide)
  refine z_aload_n (q := 126) 0 dX2_hold_125 rfl rfl ?_
  refine z_iload_n (q := 127) 3 dX2_hold_126 rfl rfl ?_
  refine z_pf (q := 130) (ki := 5) fX2_46 rfl (z_sv0 rfl) p2 dX2_hold_127 rfl ?_
  have hl3 := hl2.wr (v := x3) p2 (i := 5) (by decide)
  refine z_aload_n (q := 131) 0 dX2_hold_130 rfl rfl ?_
  refine z_iconst (q := 132) dX2_hold_131 rfl ?_
  refine z_pf (q := 135) (ki := 6) fX2_49 rfl (z_sv0 rfl) p2 dX2_hold_132 rfl ?_
  have hl4 := hl3.wr (v := 0) p2 (i := 6) (by decide)
  refine z_aload_n (q := 136) 0 dX2_hold_135 rfl rfl ?_
  refine z_iconst (q := 137) dX2_hold_136 rfl ?_
  refine z_pf (q := 140) (ki := 7) fX2_52 rfl (z_sv0 rfl) p2 dX2_hold_137 rfl ?_
  have hl5 := hl4.wr (v := 0) p2 (i := 7) (by decide)
  refine z_aload_n (q := 141) 0 dX2_hold_140 rfl rfl ?_
  refine z_iconst (q := 142) dX2_hold_141 rfl ?_
  refine z_pf (q := 145) (ki := 8) fX2_55 rfl (z_sv0 rfl) p2 dX2_hold_142 rfl ?_
  have hl6 := hl5.wr (v := 0) p2 (i := 8) (by decide)
  refine z_aload_n (q := 146) 0 dX2_hold_145 rfl rfl ?_
  refine z_iconst (q := 147) dX2_hold_146 rfl ?_
  refine z_pf (q := 150) (ki := 9) fX2_58 rfl (z_sv4 rfl (by decide)) p2 dX2_hold_147 rfl ?_
  have hl7 := hl6.wr (v := 0) p2 (i := 9) (by decide)
  exact z_vret rfl dX2_hold_150 ⟨hl7, u1⟩
theorem b_X2_hold_91 {D : zD} {d : Nat} {G : zG} {h : zH} {Q : zO → zG → zH → Prop} {s0 s1 x0 x1 x2 x3 x4 x5 : Int} (p1 : z_is G s0 1)
    (u1 : z_Y D M_X2_hold d 94 [(0, 2, x0), (1, 2, x1), (2, 2, x2), (3, 0, x3), (4, 0, x4), (5, 0, x5)] [] G (z_wr h s0 0 s1) Q) :
    z_Y D M_X2_hold d 91 [(0, 2, x0), (1, 2, x1), (2, 2, x2), (3, 0, x3), (4, 0, x4), (5, 0, x5)] [(2, s1), (2, s0)] G h Q := by
  intro hl0
  refine z_pf (q := 94) (ki := 0) fX2_11 rfl (z_sv2 rfl) p1 dX2_hold_91 rfl ?_
  have hl1 := hl0.wr (v := s1) p1 (i := 0) (by decide)
  exact u1 hl1
theorem b_X2_holds_0 {D : zD} {d : Nat} {G : zG} {h : zH} {Q : zO → zG → zH → Prop} {x0 x1 x2 : Int} (p1 : z_is G x0 1) (p2 : z_is G x1 3) (p3 : z_in (h x0 1)) (p4 : z_in (h x1 1)) (p5 : ¬ (¬ (h x0 1) = (h x1 1)) → z_in (h x0 2)) (p6 : ¬ (¬ (h x0 1) = (h x1 1)) → z_in (h x1 2)) (p7 : ¬ (¬ (h x0 1) = (h x1 1)) → (h x0 2) = (h x1 2) → z_is G x2 3) (p8 : ¬ (¬ (h x0 1) = (h x1 1)) → (h x0 2) = (h x1 2) → z_in (h x0 3)) (p9 : ¬ (¬ (h x0 1) = (h x1 1)) → (h x0 2) = (h x1 2) → z_in (h x2 1)) (p10 : ¬ (¬ (h x0 1) = (h x1 1)) → (h x0 2) = (h x1 2) → ¬ (¬ (h x0 3) = (h x2 1)) → z_in (h x0 4)) (p11 : ¬ (¬ (h x0 1) = (h x1 1)) → (h x0 2) = (h x1 2) → ¬ (¬ (h x0 3) = (h x2 1)) → z_in (h x2 2))
    (u1 : ¬ (h x0 1) = (h x1 1) → Q (.inl (some (0, 0))) G h)
    (u2 : ¬ (¬ (h x0 1) = (h x1 1)) → (h x0 2) = (h x1 2) → ¬ (h x0 3) = (h x2 1) → Q (.inl (some (0, 0))) G h)
    (u3 : ¬ (¬ (h x0 1) = (h x1 1)) → (h x0 2) = (h x1 2) → ¬ (¬ (h x0 3) = (h x2 1)) → (h x0 4) = (h x2 2) → z_Ki D M_X2_isAt d [(2, x0), (2, x1), (0, 0), (0, ((h x0 1) * (h x0 2)))] G h (fun r G' h' => z_Y D M_X2_holds d 65 [(0, 2, x0), (2, 2, x2), (3, 0, ((h x0 1) * (h x0 2)))] [(0, r)] G' h' Q))
    (u4 : ¬ (¬ (h x0 1) = (h x1 1)) → (h x0 2) = (h x1 2) → ¬ (¬ (h x0 3) = (h x2 1)) → ¬ ((h x0 4) = (h x2 2)) → Q (.inl (some (0, 0))) G h)
    (u5 : ¬ (¬ (h x0 1) = (h x1 1)) → ¬ ((h x0 2) = (h x1 2)) → Q (.inl (some (0, 0))) G h) :
    z_Y D M_X2_holds d 0 [(0, 2, x0), (1, 2, x1), (2, 2, x2)] [] G h Q := by
  intro hl0
  refine z_aload_n (q := 1) 0 dX2_holds_0 rfl rfl ?_
  refine z_gf (q := 4) (ki := 1) (v := (0, (h x0 1))) fX2_19 rfl rfl p1 dX2_holds_1 rfl ?_
  refine z_aload_n (q := 5) 1 dX2_holds_4 rfl rfl ?_
  refine z_gf (q := 8) (ki := 1) (v := (0, (h x1 1))) fX2_15 rfl rfl p2 dX2_holds_5 rfl ?_
  refine z_icmp_ne (q := 11) (t := 22) p3 p4 dX2_holds_8 (by decide) rfl (fun c1 => ?_) (fun c1 => ?_)
  · refine z_iconst (q := 23) dX2_holds_22 rfl ?_
    exact z_bret rfl (by decide) dX2_holds_23 ⟨hl0, u1 c1⟩
  · refine z_aload_n (q := 12) 0 dX2_holds_11 rfl rfl ?_
    refine z_gf (q := 15) (ki := 2) (v := (0, (h x0 2))) fX2_23 rfl rfl p1 dX2_holds_12 rfl ?_
    refine z_aload_n (q := 16) 1 dX2_holds_15 rfl rfl ?_
    refine z_gf (q := 19) (ki := 2) (v := (0, (h x1 2))) fX2_20 rfl rfl p2 dX2_holds_16 rfl ?_
    refine z_icmp_eq (q := 22) (t := 24) (p5 c1) (p6 c1) dX2_holds_19 (by decide) rfl (fun c2 => ?_) (fun c2 => ?_)
    · refine z_aload_n (q := 25) 0 dX2_holds_24 rfl rfl ?_
      refine z_gf (q := 28) (ki := 3) (v := (0, (h x0 3))) fX2_24 rfl rfl p1 dX2_holds_25 rfl ?_
      refine z_aload_n (q := 29) 2 dX2_holds_28 rfl rfl ?_
      refine z_gf (q := 32) (ki := 1) (v := (0, (h x2 1))) fX2_15 rfl rfl (p7 c1 c2) dX2_holds_29 rfl ?_
      refine z_icmp_ne (q := 35) (t := 46) (p8 c1 c2) (p9 c1 c2) dX2_holds_32 (by decide) rfl (fun c3 => ?_) (fun c3 => ?_)
      · refine z_iconst (q := 47) dX2_holds_46 rfl ?_
        exact z_bret rfl (by decide) dX2_holds_47 ⟨hl0, u2 c1 c2 c3⟩
      · refine z_aload_n (q := 36) 0 dX2_holds_35 rfl rfl ?_
        refine z_gf (q := 39) (ki := 4) (v := (0, (h x0 4))) fX2_27 rfl rfl p1 dX2_holds_36 rfl ?_
        refine z_aload_n (q := 40) 2 dX2_holds_39 rfl rfl ?_
        refine z_gf (q := 43) (ki := 2) (v := (0, (h x2 2))) fX2_20 rfl rfl (p7 c1 c2) dX2_holds_40 rfl ?_
        refine z_icmp_eq (q := 46) (t := 48) (p10 c1 c2 c3) (p11 c1 c2 c3) dX2_holds_43 (by decide) rfl (fun c4 => ?_) (fun c4 => ?_)
        · refine z_aload_n (q := 49) 0 dX2_holds_48 rfl rfl ?_
          refine z_gf (q := 52) (ki := 1) (v := (0, (h x0 1))) fX2_19 rfl rfl p1 dX2_holds_49 rfl ?_
          refine z_aload_n (q := 53) 0 dX2_holds_52 rfl rfl ?_
          refine z_gf (q := 56) (ki := 2) (v := (0, (h x0 2))) fX2_23 rfl rfl p1 dX2_holds_53 rfl ?_
          refine z_imul (q := 57) dX2_holds_56 rfl ?_
          refine z_istore_n (q := 58) (L' := [(0, 2, x0), (1, 2, x1), (2, 2, x2), (3, 0, ((h x0 1) * (h x0 2)))]) dX2_holds_57 rfl (by decide) rfl ?_
          refine z_aload_n (q := 59) 0 dX2_holds_58 rfl rfl ?_
          refine z_aload_n (q := 60) 1 dX2_holds_59 rfl rfl ?_
          refine z_iconst (q := 61) dX2_holds_60 rfl ?_
          refine z_iload_n (q := 62) 3 dX2_holds_61 rfl rfl ?_
          refine z_sub (L' := [(0, 2, x0), (2, 2, x2), (3, 0, ((h x0 1) * (h x0 2)))]) [0, 2, 3] rfl ?_
          exact z_goV (q := 65) (av := [(2, x1), (0, 0), (0, ((h x0 1) * (h x0 2)))]) (rest := []) cb1 p1 z_toi hl0 (u3 c1 c2 c3 c4) mo_X2_isAt np_X2_isAt k921 k923 k29 rfl (nle rfl) dX2_holds_62 rfl
        · refine z_iconst (q := 47) dX2_holds_46 rfl ?_
          exact z_bret rfl (by decide) dX2_holds_47 ⟨hl0, u4 c1 c2 c3 c4⟩
    · refine z_iconst (q := 23) dX2_holds_22 rfl ?_
      exact z_bret rfl (by decide) dX2_holds_23 ⟨hl0, u5 c1 c2⟩
theorem b_X2_holds_65 {D : zD} {d : Nat} {G : zG} {h : zH} {Q : zO → zG → zH → Prop} {s0 x0 x2 x3 : Int} (p1 : z_in s0) (p2 : ¬ (s0 = 0) → z_is G x0 1)
    (u1 : s0 = 0 → Q (.inl (some (0, 0))) G h)
    (u2 : ¬ (s0 = 0) → z_Ki D M_X2_isAt d [(2, x0), (2, x2), (0, x3), (0, ((h x0 3) * (h x0 4)))] G h (fun r G' h' => z_Y D M_X2_holds d 83 [] [(0, r)] G' h' Q)) :
    z_Y D M_X2_holds d 65 [(0, 2, x0), (2, 2, x2), (3, 0, x3)] [(0, s0)] G h Q := by
  intro hl0
  refine z_if_eq (q := 68) (t := 90) p1 dX2_holds_65 (by decide) rfl (fun c1 => ?_) (fun c1 => ?_)
  · refine z_iconst (q := 91) dX2_holds_90 rfl ?_
    exact z_bret rfl (by decide) dX2_holds_91 ⟨hl0, u1 c1⟩
  · refine z_aload_n (q := 69) 0 dX2_holds_68 rfl rfl ?_
    refine z_aload_n (q := 70) 1 dX2_holds_69 rfl rfl ?_
    refine z_iload_n (q := 71) 2 dX2_holds_70 rfl rfl ?_
    refine z_aload_n (q := 72) 0 dX2_holds_71 rfl rfl ?_
    refine z_gf (q := 75) (ki := 3) (v := (0, (h x0 3))) fX2_24 rfl rfl (p2 c1) dX2_holds_72 rfl ?_
    refine z_aload_n (q := 76) 0 dX2_holds_75 rfl rfl ?_
    refine z_gf (q := 79) (ki := 4) (v := (0, (h x0 4))) fX2_27 rfl rfl (p2 c1) dX2_holds_76 rfl ?_
    refine z_imul (q := 80) dX2_holds_79 rfl ?_
    refine z_sub (L' := []) [] rfl ?_
    exact z_goV (q := 83) (av := [(2, x2), (0, x3), (0, ((h x0 3) * (h x0 4)))]) (rest := []) cb1 (p2 c1) z_toi hl0 (u2 c1) mo_X2_isAt np_X2_isAt k921 k923 k29 rfl (nle rfl) dX2_holds_80 rfl
theorem b_X2_holds_83 {D : zD} {d : Nat} {G : zG} {h : zH} {Q : zO → zG → zH → Prop} {s0 : Int} (p1 : z_in s0)
    (u1 : s0 = 0 → Q (.inl (some (0, 0))) G h)
    (u2 : ¬ (s0 = 0) → Q (.inl (some (0, 1))) G h) :
    z_Y D M_X2_holds d 83 [] [(0, s0)] G h Q := by
  intro hl0
  refine z_if_eq (q := 86) (t := 90) p1 dX2_holds_83 (by decide) rfl (fun c1 => ?_) (fun c1 => ?_)
  · refine z_iconst (q := 91) dX2_holds_90 rfl ?_
    exact z_bret rfl (by decide) dX2_holds_91 ⟨hl0, u1 c1⟩
  · refine z_iconst (q := 87) dX2_holds_86 rfl ?_
    refine z_goto (t := 91) dX2_holds_87 (by decide) ?_
    exact z_bret rfl (by decide) dX2_holds_91 ⟨hl0, u2 c1⟩
theorem b_X2_isAt_0 {D : zD} {d : Nat} {G : zG} {h : zH} {Q : zO → zG → zH → Prop} {x0 x1 x2 x3 : Int}
    (u1 : z_Y D M_X2_isAt d 3 [(0, 2, x0), (1, 2, x1), (2, 0, x2), (3, 0, x3), (4, 0, 0)] [] G h Q) :
    z_Y D M_X2_isAt d 0 [(0, 2, x0), (1, 2, x1), (2, 0, x2), (3, 0, x3)] [] G h Q := by
  intro hl0
  refine z_iconst (q := 1) dX2_isAt_0 rfl ?_
  refine z_istore (q := 3) (L' := [(0, 2, x0), (1, 2, x1), (2, 0, x2), (3, 0, x3), (4, 0, 0)]) dX2_isAt_1 rfl (by decide) rfl ?_
  exact u1 hl0
theorem b_X2_isAt_3 {D : zD} {d : Nat} {G : zG} {h : zH} {Q : zO → zG → zH → Prop} {x0 x1 x2 x3 x4 : Int} (p1 : z_in x4) (p2 : z_in x3) (p3 : ¬ (x3 ≤ x4) → z_is G x0 1) (p4 : ¬ (x3 ≤ x4) → z_is G (h x0 0) 51) (p5 : ¬ (x3 ≤ x4) → 0 ≤ (x2 + x4)) (p6 : ¬ (x3 ≤ x4) → (x2 + x4) < (G.2.2.2 (h x0 0))) (p7 : ¬ (x3 ≤ x4) → z_is G x1 3) (p8 : ¬ (x3 ≤ x4) → 0 ≤ x4) (p9 : ¬ (x3 ≤ x4) → x4 < 72) (p10 : ¬ (x3 ≤ x4) → z_in64 (h (h x0 0) (x2 + x4))) (p11 : ¬ (x3 ≤ x4) → z_in64 (h (x1 + 1) x4))
    (u1 : x3 ≤ x4 → Q (.inl (some (0, 1))) G h)
    (u2 : ¬ (x3 ≤ x4) → (h (h x0 0) (x2 + x4)) = (h (x1 + 1) x4) → z_Y D M_X2_isAt d 3 [(0, 2, x0), (1, 2, x1), (2, 0, x2), (3, 0, x3), (4, 0, (x4 + 1))] [] G h Q)
    (u3 : ¬ (x3 ≤ x4) → ¬ ((h (h x0 0) (x2 + x4)) = (h (x1 + 1) x4)) → Q (.inl (some (0, 0))) G h) :
    z_Y D M_X2_isAt d 3 [(0, 2, x0), (1, 2, x1), (2, 0, x2), (3, 0, x3), (4, 0, x4)] [] G h Q := by
  intro hl0
  refine z_iload (q := 5) 4 dX2_isAt_3 rfl rfl ?_
  refine z_iload_n (q := 6) 3 dX2_isAt_5 rfl rfl ?_
  refine z_icmp_ge (q := 9) (t := 37) p1 p2 dX2_isAt_6 (by decide) rfl (fun c1 => ?_) (fun c1 => ?_)
  · refine z_iconst (q := 38) dX2_isAt_37 rfl ?_
    exact z_bret rfl (by decide) dX2_isAt_38 ⟨hl0, u1 c1⟩
  · refine z_aload_n (q := 10) 0 dX2_isAt_9 rfl rfl ?_
    refine z_gf (q := 13) (ki := 0) (v := (2, (h x0 0))) fX2_11 rfl rfl (p3 c1) dX2_isAt_10 rfl ?_
    refine z_iload_n (q := 14) 2 dX2_isAt_13 rfl rfl ?_
    refine z_iload (q := 16) 4 dX2_isAt_14 rfl rfl ?_
    refine z_iadd (q := 17) dX2_isAt_16 rfl ?_
    refine z_lale (q := 18) (v := (h (h x0 0) (x2 + x4))) (z_ati (p4 c1)) (p5 c1) (p6 c1) rfl dX2_isAt_17 rfl ?_
    refine z_aload_n (q := 19) 1 dX2_isAt_18 rfl rfl ?_
    refine z_gf (q := 22) (ki := 0) (v := (2, (x1 + 1))) fX2_39 rfl (z_ldr rfl (hl0.tab (p7 c1))) (p7 c1) dX2_isAt_19 rfl ?_
    refine z_iload (q := 24) 4 dX2_isAt_22 rfl rfl ?_
    refine z_lale (q := 25) (v := (h (x1 + 1) x4)) (hl0.tat (p7 c1)) (p8 c1) (p9 c1) rfl dX2_isAt_24 rfl ?_
    refine z_lcmp_eq (q := 29) (t := 31) (p10 c1) (p11 c1) dX2_isAt_25 (rfl : _ = 26) dX2_isAt_26 (by decide) rfl (fun c2 => ?_) (fun c2 => ?_)
    · refine z_iinc (q := 34) (L' := [(0, 2, x0), (1, 2, x1), (2, 0, x2), (3, 0, x3), (4, 0, (x4 + 1))]) 4 dX2_isAt_31 rfl rfl (by decide) rfl ?_
      refine z_goto (t := 3) dX2_isAt_34 (by decide) ?_
      exact u2 c1 c2 hl0
    · refine z_iconst (q := 30) dX2_isAt_29 rfl ?_
      exact z_bret rfl (by decide) dX2_isAt_30 ⟨hl0, u3 c1 c2⟩
theorem b_X2_lay_0 {D : zD} {d : Nat} {G : zG} {h : zH} {Q : zO → zG → zH → Prop} {x0 x1 x2 : Int} (hd : 2 ≤ d) (p1 : z_is G x0 1) (p2 : z_is G x1 3) (p3 : z_in (h x0 1)) (p4 : z_in (h x0 2)) (p5 : (1 ≤ (h x0 1) ∧ (h x0 1) ≤ 12) ∧ 1 ≤ (h x0 2) ∧ (h x0 2) ≤ 6 → z_is G x2 3) (p6 : (1 ≤ (h x0 1) ∧ (h x0 1) ≤ 12) ∧ 1 ≤ (h x0 2) ∧ (h x0 2) ≤ 6 → z_in (h x0 3)) (p7 : (1 ≤ (h x0 1) ∧ (h x0 1) ≤ 12) ∧ 1 ≤ (h x0 2) ∧ (h x0 2) ≤ 6 → z_in (h x0 4)) (p8 : (1 ≤ (h x0 1) ∧ (h x0 1) ≤ 12) ∧ 1 ≤ (h x0 2) ∧ (h x0 2) ≤ 6 → (1 ≤ (h x0 3) ∧ (h x0 3) ≤ 12) ∧ 1 ≤ (h x0 4) ∧ (h x0 4) ≤ 6 → z_is G (h x0 0) 51) (p9 : (1 ≤ (h x0 1) ∧ (h x0 1) ≤ 12) ∧ 1 ≤ (h x0 2) ∧ (h x0 2) ≤ 6 → (1 ≤ (h x0 3) ∧ (h x0 3) ≤ 12) ∧ 1 ≤ (h x0 4) ∧ (h x0 4) ≤ 6 → 0 ≤ ((h x0 1) * (h x0 2))) (p10 : (1 ≤ (h x0 1) ∧ (h x0 1) ≤ 12) ∧ 1 ≤ (h x0 2) ∧ (h x0 2) ≤ 6 → (1 ≤ (h x0 3) ∧ (h x0 3) ≤ 12) ∧ 1 ≤ (h x0 4) ∧ (h x0 4) ≤ 6 → (0 : Int) + ((h x0 1) * (h x0 2)) ≤ (G.2.2.2 (h x0 0))) (p11 : (1 ≤ (h x0 1) ∧ (h x0 1) ≤ 12) ∧ 1 ≤ (h x0 2) ∧ (h x0 2) ≤ 6 → (1 ≤ (h x0 3) ∧ (h x0 3) ≤ 12) ∧ 1 ≤ (h x0 4) ∧ (h x0 4) ≤ 6 → (0 : Int) + ((h x0 1) * (h x0 2)) ≤ 72) (p12 : (1 ≤ (h x0 1) ∧ (h x0 1) ≤ 12) ∧ 1 ≤ (h x0 2) ∧ (h x0 2) ≤ 6 → (1 ≤ (h x0 3) ∧ (h x0 3) ≤ 12) ∧ 1 ≤ (h x0 4) ∧ (h x0 4) ≤ 6 → 0 ≤ ((h x0 3) * (h x0 4))) (p13 : (1 ≤ (h x0 1) ∧ (h x0 1) ≤ 12) ∧ 1 ≤ (h x0 2) ∧ (h x0 2) ≤ 6 → (1 ≤ (h x0 3) ∧ (h x0 3) ≤ 12) ∧ 1 ≤ (h x0 4) ∧ (h x0 4) ≤ 6 → ((h x0 1) * (h x0 2)) + ((h x0 3) * (h x0 4)) ≤ (G.2.2.2 (h x0 0))) (p14 : (1 ≤ (h x0 1) ∧ (h x0 1) ≤ 12) ∧ 1 ≤ (h x0 2) ∧ (h x0 2) ≤ 6 → (1 ≤ (h x0 3) ∧ (h x0 3) ≤ 12) ∧ 1 ≤ (h x0 4) ∧ (h x0 4) ≤ 6 → (0 : Int) + ((h x0 3) * (h x0 4)) ≤ 72) (p15 : (1 ≤ (h x0 1) ∧ (h x0 1) ≤ 12) ∧ 1 ≤ (h x0 2) ∧ (h x0 2) ≤ 6 → ¬ ((1 ≤ (h x0 3) ∧ (h x0 3) ≤ 12) ∧ 1 ≤ (h x0 4) ∧ (h x0 4) ≤ 6) → z_is G (h x0 0) 51) (p16 : (1 ≤ (h x0 1) ∧ (h x0 1) ≤ 12) ∧ 1 ≤ (h x0 2) ∧ (h x0 2) ≤ 6 → ¬ ((1 ≤ (h x0 3) ∧ (h x0 3) ≤ 12) ∧ 1 ≤ (h x0 4) ∧ (h x0 4) ≤ 6) → 0 ≤ ((h x0 1) * (h x0 2))) (p17 : (1 ≤ (h x0 1) ∧ (h x0 1) ≤ 12) ∧ 1 ≤ (h x0 2) ∧ (h x0 2) ≤ 6 → ¬ ((1 ≤ (h x0 3) ∧ (h x0 3) ≤ 12) ∧ 1 ≤ (h x0 4) ∧ (h x0 4) ≤ 6) → (0 : Int) + ((h x0 1) * (h x0 2)) ≤ (G.2.2.2 (h x0 0))) (p18 : (1 ≤ (h x0 1) ∧ (h x0 1) ≤ 12) ∧ 1 ≤ (h x0 2) ∧ (h x0 2) ≤ 6 → ¬ ((1 ≤ (h x0 3) ∧ (h x0 3) ≤ 12) ∧ 1 ≤ (h x0 4) ∧ (h x0 4) ≤ 6) → (0 : Int) + ((h x0 1) * (h x0 2)) ≤ 72) (p19 : (1 ≤ (h x0 1) ∧ (h x0 1) ≤ 12) ∧ 1 ≤ (h x0 2) ∧ (h x0 2) ≤ 6 → ¬ ((1 ≤ (h x0 3) ∧ (h x0 3) ≤ 12) ∧ 1 ≤ (h x0 4) ∧ (h x0 4) ≤ 6) → 0 ≤ ((h x0 3) * (h x0 4))) (p20 : (1 ≤ (h x0 1) ∧ (h x0 1) ≤ 12) ∧ 1 ≤ (h x0 2) ∧ (h x0 2) ≤ 6 → ¬ ((1 ≤ (h x0 3) ∧ (h x0 3) ≤ 12) ∧ 1 ≤ (h x0 4) ∧ (h x0 4) ≤ 6) → ((h x0 1) * (h x0 2)) + ((h x0 3) * (h x0 4)) ≤ (G.2.2.2 (h x0 0))) (p21 : (1 ≤ (h x0 1) ∧ (h x0 1) ≤ 12) ∧ 1 ≤ (h x0 2) ∧ (h x0 2) ≤ 6 → ¬ ((1 ≤ (h x0 3) ∧ (h x0 3) ≤ 12) ∧ 1 ≤ (h x0 4) ∧ (h x0 4) ≤ 6) → (0 : Int) + ((h x0 3) * (h x0 4)) ≤ 72) (p22 : ¬ ((1 ≤ (h x0 1) ∧ (h x0 1) ≤ 12) ∧ 1 ≤ (h x0 2) ∧ (h x0 2) ≤ 6) → z_is G x2 3) (p23 : ¬ ((1 ≤ (h x0 1) ∧ (h x0 1) ≤ 12) ∧ 1 ≤ (h x0 2) ∧ (h x0 2) ≤ 6) → z_in (h x0 3)) (p24 : ¬ ((1 ≤ (h x0 1) ∧ (h x0 1) ≤ 12) ∧ 1 ≤ (h x0 2) ∧ (h x0 2) ≤ 6) → z_in (h x0 4)) (p25 : ¬ ((1 ≤ (h x0 1) ∧ (h x0 1) ≤ 12) ∧ 1 ≤ (h x0 2) ∧ (h x0 2) ≤ 6) → (1 ≤ (h x0 3) ∧ (h x0 3) ≤ 12) ∧ 1 ≤ (h x0 4) ∧ (h x0 4) ≤ 6 → z_is G (h x0 0) 51) (p26 : ¬ ((1 ≤ (h x0 1) ∧ (h x0 1) ≤ 12) ∧ 1 ≤ (h x0 2) ∧ (h x0 2) ≤ 6) → (1 ≤ (h x0 3) ∧ (h x0 3) ≤ 12) ∧ 1 ≤ (h x0 4) ∧ (h x0 4) ≤ 6 → 0 ≤ ((h x0 1) * (h x0 2))) (p27 : ¬ ((1 ≤ (h x0 1) ∧ (h x0 1) ≤ 12) ∧ 1 ≤ (h x0 2) ∧ (h x0 2) ≤ 6) → (1 ≤ (h x0 3) ∧ (h x0 3) ≤ 12) ∧ 1 ≤ (h x0 4) ∧ (h x0 4) ≤ 6 → (0 : Int) + ((h x0 1) * (h x0 2)) ≤ (G.2.2.2 (h x0 0))) (p28 : ¬ ((1 ≤ (h x0 1) ∧ (h x0 1) ≤ 12) ∧ 1 ≤ (h x0 2) ∧ (h x0 2) ≤ 6) → (1 ≤ (h x0 3) ∧ (h x0 3) ≤ 12) ∧ 1 ≤ (h x0 4) ∧ (h x0 4) ≤ 6 → (0 : Int) + ((h x0 1) * (h x0 2)) ≤ 72) (p29 : ¬ ((1 ≤ (h x0 1) ∧ (h x0 1) ≤ 12) ∧ 1 ≤ (h x0 2) ∧ (h x0 2) ≤ 6) → (1 ≤ (h x0 3) ∧ (h x0 3) ≤ 12) ∧ 1 ≤ (h x0 4) ∧ (h x0 4) ≤ 6 → 0 ≤ ((h x0 3) * (h x0 4))) (p30 : ¬ ((1 ≤ (h x0 1) ∧ (h x0 1) ≤ 12) ∧ 1 ≤ (h x0 2) ∧ (h x0 2) ≤ 6) → (1 ≤ (h x0 3) ∧ (h x0 3) ≤ 12) ∧ 1 ≤ (h x0 4) ∧ (h x0 4) ≤ 6 → ((h x0 1) * (h x0 2)) + ((h x0 3) * (h x0 4)) ≤ (G.2.2.2 (h x0 0))) (p31 : ¬ ((1 ≤ (h x0 1) ∧ (h x0 1) ≤ 12) ∧ 1 ≤ (h x0 2) ∧ (h x0 2) ≤ 6) → (1 ≤ (h x0 3) ∧ (h x0 3) ≤ 12) ∧ 1 ≤ (h x0 4) ∧ (h x0 4) ≤ 6 → (0 : Int) + ((h x0 3) * (h x0 4)) ≤ 72) (p32 : ¬ ((1 ≤ (h x0 1) ∧ (h x0 1) ≤ 12) ∧ 1 ≤ (h x0 2) ∧ (h x0 2) ≤ 6) → ¬ ((1 ≤ (h x0 3) ∧ (h x0 3) ≤ 12) ∧ 1 ≤ (h x0 4) ∧ (h x0 4) ≤ 6) → z_is G (h x0 0) 51) (p33 : ¬ ((1 ≤ (h x0 1) ∧ (h x0 1) ≤ 12) ∧ 1 ≤ (h x0 2) ∧ (h x0 2) ≤ 6) → ¬ ((1 ≤ (h x0 3) ∧ (h x0 3) ≤ 12) ∧ 1 ≤ (h x0 4) ∧ (h x0 4) ≤ 6) → 0 ≤ ((h x0 1) * (h x0 2))) (p34 : ¬ ((1 ≤ (h x0 1) ∧ (h x0 1) ≤ 12) ∧ 1 ≤ (h x0 2) ∧ (h x0 2) ≤ 6) → ¬ ((1 ≤ (h x0 3) ∧ (h x0 3) ≤ 12) ∧ 1 ≤ (h x0 4) ∧ (h x0 4) ≤ 6) → (0 : Int) + ((h x0 1) * (h x0 2)) ≤ (G.2.2.2 (h x0 0))) (p35 : ¬ ((1 ≤ (h x0 1) ∧ (h x0 1) ≤ 12) ∧ 1 ≤ (h x0 2) ∧ (h x0 2) ≤ 6) → ¬ ((1 ≤ (h x0 3) ∧ (h x0 3) ≤ 12) ∧ 1 ≤ (h x0 4) ∧ (h x0 4) ≤ 6) → (0 : Int) + ((h x0 1) * (h x0 2)) ≤ 72) (p36 : ¬ ((1 ≤ (h x0 1) ∧ (h x0 1) ≤ 12) ∧ 1 ≤ (h x0 2) ∧ (h x0 2) ≤ 6) → ¬ ((1 ≤ (h x0 3) ∧ (h x0 3) ≤ 12) ∧ 1 ≤ (h x0 4) ∧ (h x0 4) ≤ 6) → 0 ≤ ((h x0 3) * (h x0 4))) (p37 : ¬ ((1 ≤ (h x0 1) ∧ (h x0 1) ≤ 12) ∧ 1 ≤ (h x0 2) ∧ (h x0 2) ≤ 6) → ¬ ((1 ≤ (h x0 3) ∧ (h x0 3) ≤ 12) ∧ 1 ≤ (h x0 4) ∧ (h x0 4) ≤ 6) → ((h x0 1) * (h x0 2)) + ((h x0 3) * (h x0 4)) ≤ (G.2.2.2 (h x0 0))) (p38 : ¬ ((1 ≤ (h x0 1) ∧ (h x0 1) ≤ 12) ∧ 1 ≤ (h x0 2) ∧ (h x0 2) ≤ 6) → ¬ ((1 ≤ (h x0 3) ∧ (h x0 3) ≤ 12) ∧ 1 ≤ (h x0 4) ∧ (h x0 4) ≤ 6) → (0 : Int) + ((h x0 3) * (h x0 4)) ≤ 72)
    (u1 : (1 ≤ (h x0 1) ∧ (h x0 1) ≤ 12) ∧ 1 ≤ (h x0 2) ∧ (h x0 2) ≤ 6 → (1 ≤ (h x0 3) ∧ (h x0 3) ≤ 12) ∧ 1 ≤ (h x0 4) ∧ (h x0 4) ≤ 6 → Q (.inl none) G (z_cp (z_cp (z_wr (z_wr (z_wr (z_wr h x1 1 (h x0 1)) x1 2 (h x0 2)) x2 1 (h x0 3)) x2 2 (h x0 4)) (h x0 0) 0 (x1 + 1) 0 ((h x0 1) * (h x0 2))) (h x0 0) ((h x0 1) * (h x0 2)) (x2 + 1) 0 ((h x0 3) * (h x0 4))))
    (u2 : (1 ≤ (h x0 1) ∧ (h x0 1) ≤ 12) ∧ 1 ≤ (h x0 2) ∧ (h x0 2) ≤ 6 → ¬ ((1 ≤ (h x0 3) ∧ (h x0 3) ≤ 12) ∧ 1 ≤ (h x0 4) ∧ (h x0 4) ≤ 6) → Q (.inl none) G (z_cp (z_cp (z_wr (z_wr h x1 1 (h x0 1)) x1 2 (h x0 2)) (h x0 0) 0 (x1 + 1) 0 ((h x0 1) * (h x0 2))) (h x0 0) ((h x0 1) * (h x0 2)) (x2 + 1) 0 ((h x0 3) * (h x0 4))))
    (u3 : ¬ ((1 ≤ (h x0 1) ∧ (h x0 1) ≤ 12) ∧ 1 ≤ (h x0 2) ∧ (h x0 2) ≤ 6) → (1 ≤ (h x0 3) ∧ (h x0 3) ≤ 12) ∧ 1 ≤ (h x0 4) ∧ (h x0 4) ≤ 6 → Q (.inl none) G (z_cp (z_cp (z_wr (z_wr h x2 1 (h x0 3)) x2 2 (h x0 4)) (h x0 0) 0 (x1 + 1) 0 ((h x0 1) * (h x0 2))) (h x0 0) ((h x0 1) * (h x0 2)) (x2 + 1) 0 ((h x0 3) * (h x0 4))))
    (u4 : ¬ ((1 ≤ (h x0 1) ∧ (h x0 1) ≤ 12) ∧ 1 ≤ (h x0 2) ∧ (h x0 2) ≤ 6) → ¬ ((1 ≤ (h x0 3) ∧ (h x0 3) ≤ 12) ∧ 1 ≤ (h x0 4) ∧ (h x0 4) ≤ 6) → Q (.inl none) G (z_cp (z_cp h (h x0 0) 0 (x1 + 1) 0 ((h x0 1) * (h x0 2))) (h x0 0) ((h x0 1) * (h x0 2)) (x2 + 1) 0 ((h x0 3) * (h x0 4)))) :
    z_Y D M_X2_lay d 0 [(0, 2, x0), (1, 2, x1), (2, 2, x2)] [] G h Q := by
  intro hl0
  refine z_aload_n (q := 1) 1 dX2_lay_0 rfl rfl ?_
  refine z_aload_n (q := 2) 0 dX2_lay_1 rfl rfl ?_
  refine z_gf (q := 5) (ki := 1) (v := (0, (h x0 1))) fX2_19 rfl rfl p1 dX2_lay_2 rfl ?_
  refine z_aload_n (q := 6) 0 dX2_lay_5 rfl rfl ?_
  refine z_gf (q := 9) (ki := 2) (v := (0, (h x0 2))) fX2_23 rfl rfl p1 dX2_lay_6 rfl ?_
  by_cases c1 : (1 ≤ (h x0 1) ∧ (h x0 1) ≤ 12) ∧ 1 ≤ (h x0 2) ∧ (h x0 2) ≤ 6
  · have e1 := a_X4_shape1 (D := D) (G := G) (h := h) (d := d - 1) (by omega) x1 (h x0 1) (h x0 2) p2 p3 p4 c1
    refine z_goV (q := 12) (av := [(0, (h x0 1)), (0, (h x0 2))]) (rest := []) cb3 p2 (z_toi) hl0 (z_Ei.K e1 (by omega) ?_) mo_X4_shape np_X4_shape k1015 k505 k506 rfl (nle rfl) dX2_lay_9 rfl
    have hl1 : lay G (z_wr (z_wr h x1 1 (h x0 1)) x1 2 (h x0 2)) := e1.lay hl0
    refine z_pop (q := 13) (by decide) dX2_lay_12 rfl ?_
    refine z_aload_n (q := 14) 2 dX2_lay_13 rfl rfl ?_
    refine z_aload_n (q := 15) 0 dX2_lay_14 rfl rfl ?_
    refine z_gf (q := 18) (ki := 3) (v := (0, (h x0 3))) fX2_24 rfl (z_ldi rfl ((w_nj (by decide)).trans (w_nj (by decide)))) p1 dX2_lay_15 rfl ?_
    refine z_aload_n (q := 19) 0 dX2_lay_18 rfl rfl ?_
    refine z_gf (q := 22) (ki := 4) (v := (0, (h x0 4))) fX2_27 rfl (z_ldi rfl ((w_nj (by decide)).trans (w_nj (by decide)))) p1 dX2_lay_19 rfl ?_
    by_cases c2 : (1 ≤ (h x0 3) ∧ (h x0 3) ≤ 12) ∧ 1 ≤ (h x0 4) ∧ (h x0 4) ≤ 6
    · have e2 := a_X4_shape1 (D := D) (G := G) (h := (z_wr (z_wr h x1 1 (h x0 1)) x1 2 (h x0 2))) (d := d - 1) (by omega) x2 (h x0 3) (h x0 4) (p5 c1) (p6 c1) (p7 c1) c2
      refine z_goV (q := 25) (av := [(0, (h x0 3)), (0, (h x0 4))]) (rest := []) cb3 (p5 c1) (z_toi) hl1 (z_Ei.K e2 (by omega) ?_) mo_X4_shape np_X4_shape k1015 k505 k506 rfl (nle rfl) dX2_lay_22 rfl
      have hl2 : lay G (z_wr (z_wr (z_wr (z_wr h x1 1 (h x0 1)) x1 2 (h x0 2)) x2 1 (h x0 3)) x2 2 (h x0 4)) := e2.lay hl1
      refine z_pop (q := 26) (by decide) dX2_lay_25 rfl ?_
      refine z_aload_n (q := 27) 0 dX2_lay_26 rfl rfl ?_
      refine z_gf (q := 30) (ki := 1) (v := (0, (h x0 1))) fX2_19 rfl (z_ldi rfl ((w_nj (by decide)).trans ((w_na (z_isne p1 (p5 c1) (by decide))).trans ((w_nj (by decide)).trans (w_na (z_isne p1 p2 (by decide))))))) p1 dX2_lay_27 rfl ?_
      refine z_aload_n (q := 31) 0 dX2_lay_30 rfl rfl ?_
      refine z_gf (q := 34) (ki := 2) (v := (0, (h x0 2))) fX2_23 rfl (z_ldi rfl ((w_na (z_isne p1 (p5 c1) (by decide))).trans ((w_nj (by decide)).trans ((w_na (z_isne p1 p2 (by decide))).trans (w_nj (by decide)))))) p1 dX2_lay_31 rfl ?_
      refine z_imul (q := 35) dX2_lay_34 rfl ?_
      refine z_istore_n (q := 36) (L' := [(0, 2, x0), (1, 2, x1), (2, 2, x2), (3, 0, ((h x0 1) * (h x0 2)))]) dX2_lay_35 rfl (by decide) rfl ?_
      refine z_aload_n (q := 37) 0 dX2_lay_36 rfl rfl ?_
      refine z_gf (q := 40) (ki := 0) (v := (2, (h x0 0))) fX2_11 rfl (z_ldr rfl ((w_nj (by decide)).trans ((w_nj (by decide)).trans ((w_nj (by decide)).trans (w_nj (by decide)))))) p1 dX2_lay_37 rfl ?_
      refine z_iconst (q := 41) dX2_lay_40 rfl ?_
      refine z_aload_n (q := 42) 1 dX2_lay_41 rfl rfl ?_
      refine z_gf (q := 45) (ki := 0) (v := (2, (x1 + 1))) fX2_39 rfl (z_ldr rfl (hl2.tab p2)) p2 dX2_lay_42 rfl ?_
      refine z_iconst (q := 46) dX2_lay_45 rfl ?_
      refine z_iload_n (q := 47) 3 dX2_lay_46 rfl rfl ?_
      refine z_copy (q := 50) 51 (by decide) (p8 c1 c2) (hl2.ti p2) (by decide) (by decide) (p9 c1 c2) (p10 c1 c2) (by rw [(hl2.tn p2)]; exact (p11 c1 c2)) k983 k514 k513 k111 (by omega) (nle rfl) dX2_lay_47 rfl ?_
      have hl3 := hl2.cp (a := (h x0 0)) (sp := 0) (dp := 0) (n := ((h x0 1) * (h x0 2))) (hl2.ti p2) (by decide)
      refine z_aload_n (q := 51) 0 dX2_lay_50 rfl rfl ?_
      refine z_gf (q := 54) (ki := 0) (v := (2, (h x0 0))) fX2_11 rfl (z_ldr rfl ((c_na (z_isne p1 (hl2.ti p2) (by decide))).trans ((w_nj (by decide)).trans ((w_nj (by decide)).trans ((w_nj (by decide)).trans (w_nj (by decide))))))) p1 dX2_lay_51 rfl ?_
      refine z_iload_n (q := 55) 3 dX2_lay_54 rfl rfl ?_
      refine z_aload_n (q := 56) 2 dX2_lay_55 rfl rfl ?_
      refine z_gf (q := 59) (ki := 0) (v := (2, (x2 + 1))) fX2_39 rfl (z_ldr rfl (hl3.tab (p5 c1))) (p5 c1) dX2_lay_56 rfl ?_
      refine z_iconst (q := 60) dX2_lay_59 rfl ?_
      refine z_aload_n (q := 61) 0 dX2_lay_60 rfl rfl ?_
      refine z_gf (q := 64) (ki := 3) (v := (0, (h x0 3))) fX2_24 rfl (z_ldi rfl ((c_na (z_isne p1 (hl2.ti p2) (by decide))).trans ((w_nj (by decide)).trans ((w_nj (by decide)).trans ((w_nj (by decide)).trans (w_nj (by decide))))))) p1 dX2_lay_61 rfl ?_
      refine z_aload_n (q := 65) 0 dX2_lay_64 rfl rfl ?_
      refine z_gf (q := 68) (ki := 4) (v := (0, (h x0 4))) fX2_27 rfl (z_ldi rfl ((c_na (z_isne p1 (hl2.ti p2) (by decide))).trans ((w_nj (by decide)).trans ((w_nj (by decide)).trans ((w_nj (by decide)).trans (w_nj (by decide))))))) p1 dX2_lay_65 rfl ?_
      refine z_imul (q := 69) dX2_lay_68 rfl ?_
      refine z_copy (q := 72) 51 (by decide) (p8 c1 c2) (hl3.ti (p5 c1)) (p9 c1 c2) (by decide) (p12 c1 c2) (p13 c1 c2) (by rw [(hl3.tn (p5 c1))]; exact (p14 c1 c2)) k983 k514 k513 k111 (by omega) (nle rfl) dX2_lay_69 rfl ?_
      have hl4 := hl3.cp (a := (h x0 0)) (sp := ((h x0 1) * (h x0 2))) (dp := 0) (n := ((h x0 3) * (h x0 4))) (hl3.ti (p5 c1)) (by decide)
      exact z_vret rfl dX2_lay_72 ⟨hl4, u1 c1 c2⟩
    · have e3 := a_X4_shape0 (D := D) (G := G) (h := (z_wr (z_wr h x1 1 (h x0 1)) x1 2 (h x0 2))) (d := d - 1) (by omega) x2 (h x0 3) (h x0 4) (p5 c1) (p6 c1) (p7 c1) c2
      refine z_goV (q := 25) (av := [(0, (h x0 3)), (0, (h x0 4))]) (rest := []) cb3 (p5 c1) (z_toi) hl1 (z_Ei.K e3 (by omega) ?_) mo_X4_shape np_X4_shape k1015 k505 k506 rfl (nle rfl) dX2_lay_22 rfl
      refine z_pop (q := 26) (by decide) dX2_lay_25 rfl ?_
      refine z_aload_n (q := 27) 0 dX2_lay_26 rfl rfl ?_
      refine z_gf (q := 30) (ki := 1) (v := (0, (h x0 1))) fX2_19 rfl (z_ldi rfl ((w_nj (by decide)).trans (w_na (z_isne p1 p2 (by decide))))) p1 dX2_lay_27 rfl ?_
      refine z_aload_n (q := 31) 0 dX2_lay_30 rfl rfl ?_
      refine z_gf (q := 34) (ki := 2) (v := (0, (h x0 2))) fX2_23 rfl (z_ldi rfl ((w_na (z_isne p1 p2 (by decide))).trans (w_nj (by decide)))) p1 dX2_lay_31 rfl ?_
      refine z_imul (q := 35) dX2_lay_34 rfl ?_
      refine z_istore_n (q := 36) (L' := [(0, 2, x0), (1, 2, x1), (2, 2, x2), (3, 0, ((h x0 1) * (h x0 2)))]) dX2_lay_35 rfl (by decide) rfl ?_
      refine z_aload_n (q := 37) 0 dX2_lay_36 rfl rfl ?_
      refine z_gf (q := 40) (ki := 0) (v := (2, (h x0 0))) fX2_11 rfl (z_ldr rfl ((w_nj (by decide)).trans (w_nj (by decide)))) p1 dX2_lay_37 rfl ?_
      refine z_iconst (q := 41) dX2_lay_40 rfl ?_
      refine z_aload_n (q := 42) 1 dX2_lay_41 rfl rfl ?_
      refine z_gf (q := 45) (ki := 0) (v := (2, (x1 + 1))) fX2_39 rfl (z_ldr rfl (hl1.tab p2)) p2 dX2_lay_42 rfl ?_
      refine z_iconst (q := 46) dX2_lay_45 rfl ?_
      refine z_iload_n (q := 47) 3 dX2_lay_46 rfl rfl ?_
      refine z_copy (q := 50) 51 (by decide) (p15 c1 c2) (hl1.ti p2) (by decide) (by decide) (p16 c1 c2) (p17 c1 c2) (by rw [(hl1.tn p2)]; exact (p18 c1 c2)) k983 k514 k513 k111 (by omega) (nle rfl) dX2_lay_47 rfl ?_
      have hl2 := hl1.cp (a := (h x0 0)) (sp := 0) (dp := 0) (n := ((h x0 1) * (h x0 2))) (hl1.ti p2) (by decide)
      refine z_aload_n (q := 51) 0 dX2_lay_50 rfl rfl ?_
      refine z_gf (q := 54) (ki := 0) (v := (2, (h x0 0))) fX2_11 rfl (z_ldr rfl ((c_na (z_isne p1 (hl1.ti p2) (by decide))).trans ((w_nj (by decide)).trans (w_nj (by decide))))) p1 dX2_lay_51 rfl ?_
      refine z_iload_n (q := 55) 3 dX2_lay_54 rfl rfl ?_
      refine z_aload_n (q := 56) 2 dX2_lay_55 rfl rfl ?_
      refine z_gf (q := 59) (ki := 0) (v := (2, (x2 + 1))) fX2_39 rfl (z_ldr rfl (hl2.tab (p5 c1))) (p5 c1) dX2_lay_56 rfl ?_
      refine z_iconst (q := 60) dX2_lay_59 rfl ?_
      refine z_aload_n (q := 61) 0 dX2_lay_60 rfl rfl ?_
      refine z_gf (q := 64) (ki := 3) (v := (0, (h x0 3))) fX2_24 rfl (z_ldi rfl ((c_na (z_isne p1 (hl1.ti p2) (by decide))).trans ((w_nj (by decide)).trans (w_nj (by decide))))) p1 dX2_lay_61 rfl ?_
      refine z_aload_n (q := 65) 0 dX2_lay_64 rfl rfl ?_
      refine z_gf (q := 68) (ki := 4) (v := (0, (h x0 4))) fX2_27 rfl (z_ldi rfl ((c_na (z_isne p1 (hl1.ti p2) (by decide))).trans ((w_nj (by decide)).trans (w_nj (by decide))))) p1 dX2_lay_65 rfl ?_
      refine z_imul (q := 69) dX2_lay_68 rfl ?_
      refine z_copy (q := 72) 51 (by decide) (p15 c1 c2) (hl2.ti (p5 c1)) (p16 c1 c2) (by decide) (p19 c1 c2) (p20 c1 c2) (by rw [(hl2.tn (p5 c1))]; exact (p21 c1 c2)) k983 k514 k513 k111 (by omega) (nle rfl) dX2_lay_69 rfl ?_
      have hl3 := hl2.cp (a := (h x0 0)) (sp := ((h x0 1) * (h x0 2))) (dp := 0) (n := ((h x0 3) * (h x0 4))) (hl2.ti (p5 c1)) (by decide)
      exact z_vret rfl dX2_lay_72 ⟨hl3, u2 c1 c2⟩
  · have e4 := a_X4_shape0 (D := D) (G := G) (h := h) (d := d - 1) (by omega) x1 (h x0 1) (h x0 2) p2 p3 p4 c1
    refine z_goV (q := 12) (av := [(0, (h x0 1)), (0, (h x0 2))]) (rest := []) cb3 p2 (z_toi) hl0 (z_Ei.K e4 (by omega) ?_) mo_X4_shape np_X4_shape k1015 k505 k506 rfl (nle rfl) dX2_lay_9 rfl
    refine z_pop (q := 13) (by decide) dX2_lay_12 rfl ?_
    refine z_aload_n (q := 14) 2 dX2_lay_13 rfl rfl ?_
    refine z_aload_n (q := 15) 0 dX2_lay_14 rfl rfl ?_
    refine z_gf (q := 18) (ki := 3) (v := (0, (h x0 3))) fX2_24 rfl rfl p1 dX2_lay_15 rfl ?_
    refine z_aload_n (q := 19) 0 dX2_lay_18 rfl rfl ?_
    refine z_gf (q := 22) (ki := 4) (v := (0, (h x0 4))) fX2_27 rfl rfl p1 dX2_lay_19 rfl ?_
    by_cases c3 : (1 ≤ (h x0 3) ∧ (h x0 3) ≤ 12) ∧ 1 ≤ (h x0 4) ∧ (h x0 4) ≤ 6
    · have e5 := a_X4_shape1 (D := D) (G := G) (h := h) (d := d - 1) (by omega) x2 (h x0 3) (h x0 4) (p22 c1) (p23 c1) (p24 c1) c3
      refine z_goV (q := 25) (av := [(0, (h x0 3)), (0, (h x0 4))]) (rest := []) cb3 (p22 c1) (z_toi) hl0 (z_Ei.K e5 (by omega) ?_) mo_X4_shape np_X4_shape k1015 k505 k506 rfl (nle rfl) dX2_lay_22 rfl
      have hl1 : lay G (z_wr (z_wr h x2 1 (h x0 3)) x2 2 (h x0 4)) := e5.lay hl0
      refine z_pop (q := 26) (by decide) dX2_lay_25 rfl ?_
      refine z_aload_n (q := 27) 0 dX2_lay_26 rfl rfl ?_
      refine z_gf (q := 30) (ki := 1) (v := (0, (h x0 1))) fX2_19 rfl (z_ldi rfl ((w_nj (by decide)).trans (w_na (z_isne p1 (p22 c1) (by decide))))) p1 dX2_lay_27 rfl ?_
      refine z_aload_n (q := 31) 0 dX2_lay_30 rfl rfl ?_
      refine z_gf (q := 34) (ki := 2) (v := (0, (h x0 2))) fX2_23 rfl (z_ldi rfl ((w_na (z_isne p1 (p22 c1) (by decide))).trans (w_nj (by decide)))) p1 dX2_lay_31 rfl ?_
      refine z_imul (q := 35) dX2_lay_34 rfl ?_
      refine z_istore_n (q := 36) (L' := [(0, 2, x0), (1, 2, x1), (2, 2, x2), (3, 0, ((h x0 1) * (h x0 2)))]) dX2_lay_35 rfl (by decide) rfl ?_
      refine z_aload_n (q := 37) 0 dX2_lay_36 rfl rfl ?_
      refine z_gf (q := 40) (ki := 0) (v := (2, (h x0 0))) fX2_11 rfl (z_ldr rfl ((w_nj (by decide)).trans (w_nj (by decide)))) p1 dX2_lay_37 rfl ?_
      refine z_iconst (q := 41) dX2_lay_40 rfl ?_
      refine z_aload_n (q := 42) 1 dX2_lay_41 rfl rfl ?_
      refine z_gf (q := 45) (ki := 0) (v := (2, (x1 + 1))) fX2_39 rfl (z_ldr rfl (hl1.tab p2)) p2 dX2_lay_42 rfl ?_
      refine z_iconst (q := 46) dX2_lay_45 rfl ?_
      refine z_iload_n (q := 47) 3 dX2_lay_46 rfl rfl ?_
      refine z_copy (q := 50) 51 (by decide) (p25 c1 c3) (hl1.ti p2) (by decide) (by decide) (p26 c1 c3) (p27 c1 c3) (by rw [(hl1.tn p2)]; exact (p28 c1 c3)) k983 k514 k513 k111 (by omega) (nle rfl) dX2_lay_47 rfl ?_
      have hl2 := hl1.cp (a := (h x0 0)) (sp := 0) (dp := 0) (n := ((h x0 1) * (h x0 2))) (hl1.ti p2) (by decide)
      refine z_aload_n (q := 51) 0 dX2_lay_50 rfl rfl ?_
      refine z_gf (q := 54) (ki := 0) (v := (2, (h x0 0))) fX2_11 rfl (z_ldr rfl ((c_na (z_isne p1 (hl1.ti p2) (by decide))).trans ((w_nj (by decide)).trans (w_nj (by decide))))) p1 dX2_lay_51 rfl ?_
      refine z_iload_n (q := 55) 3 dX2_lay_54 rfl rfl ?_
      refine z_aload_n (q := 56) 2 dX2_lay_55 rfl rfl ?_
      refine z_gf (q := 59) (ki := 0) (v := (2, (x2 + 1))) fX2_39 rfl (z_ldr rfl (hl2.tab (p22 c1))) (p22 c1) dX2_lay_56 rfl ?_
      refine z_iconst (q := 60) dX2_lay_59 rfl ?_
      refine z_aload_n (q := 61) 0 dX2_lay_60 rfl rfl ?_
      refine z_gf (q := 64) (ki := 3) (v := (0, (h x0 3))) fX2_24 rfl (z_ldi rfl ((c_na (z_isne p1 (hl1.ti p2) (by decide))).trans ((w_nj (by decide)).trans (w_nj (by decide))))) p1 dX2_lay_61 rfl ?_
      refine z_aload_n (q := 65) 0 dX2_lay_64 rfl rfl ?_
      refine z_gf (q := 68) (ki := 4) (v := (0, (h x0 4))) fX2_27 rfl (z_ldi rfl ((c_na (z_isne p1 (hl1.ti p2) (by decide))).trans ((w_nj (by decide)).trans (w_nj (by decide))))) p1 dX2_lay_65 rfl ?_
      refine z_imul (q := 69) dX2_lay_68 rfl ?_
      refine z_copy (q := 72) 51 (by decide) (p25 c1 c3) (hl2.ti (p22 c1)) (p26 c1 c3) (by decide) (p29 c1 c3) (p30 c1 c3) (by rw [(hl2.tn (p22 c1))]; exact (p31 c1 c3)) k983 k514 k513 k111 (by omega) (nle rfl) dX2_lay_69 rfl ?_
      have hl3 := hl2.cp (a := (h x0 0)) (sp := ((h x0 1) * (h x0 2))) (dp := 0) (n := ((h x0 3) * (h x0 4))) (hl2.ti (p22 c1)) (by decide)
      exact z_vret rfl dX2_lay_72 ⟨hl3, u3 c1 c3⟩
    · have e6 := a_X4_shape0 (D := D) (G := G) (h := h) (d := d - 1) (by omega) x2 (h x0 3) (h x0 4) (p22 c1) (p23 c1) (p24 c1) c3
      refine z_goV (q := 25) (av := [(0, (h x0 3)), (0, (h x0 4))]) (rest := []) cb3 (p22 c1) (z_toi) hl0 (z_Ei.K e6 (by omega) ?_) mo_X4_shape np_X4_shape k1015 k505 k506 rfl (nle rfl) dX2_lay_22 rfl
      refine z_pop (q := 26) (by decide) dX2_lay_25 rfl ?_
      refine z_aload_n (q := 27) 0 dX2_lay_26 rfl rfl ?_
      refine z_gf (q := 30) (ki := 1) (v := (0, (h x0 1))) fX2_19 rfl rfl p1 dX2_lay_27 rfl ?_
      refine z_aload_n (q := 31) 0 dX2_lay_30 rfl rfl ?_
      refine z_gf (q := 34) (ki := 2) (v := (0, (h x0 2))) fX2_23 rfl rfl p1 dX2_lay_31 rfl ?_
      refine z_imul (q := 35) dX2_lay_34 rfl ?_
      refine z_istore_n (q := 36) (L' := [(0, 2, x0), (1, 2, x1), (2, 2, x2), (3, 0, ((h x0 1) * (h x0 2)))]) dX2_lay_35 rfl (by decide) rfl ?_
      refine z_aload_n (q := 37) 0 dX2_lay_36 rfl rfl ?_
      refine z_gf (q := 40) (ki := 0) (v := (2, (h x0 0))) fX2_11 rfl rfl p1 dX2_lay_37 rfl ?_
      refine z_iconst (q := 41) dX2_lay_40 rfl ?_
      refine z_aload_n (q := 42) 1 dX2_lay_41 rfl rfl ?_
      refine z_gf (q := 45) (ki := 0) (v := (2, (x1 + 1))) fX2_39 rfl (z_ldr rfl (hl0.tab p2)) p2 dX2_lay_42 rfl ?_
      refine z_iconst (q := 46) dX2_lay_45 rfl ?_
      refine z_iload_n (q := 47) 3 dX2_lay_46 rfl rfl ?_
      refine z_copy (q := 50) 51 (by decide) (p32 c1 c3) (hl0.ti p2) (by decide) (by decide) (p33 c1 c3) (p34 c1 c3) (by rw [(hl0.tn p2)]; exact (p35 c1 c3)) k983 k514 k513 k111 (by omega) (nle rfl) dX2_lay_47 rfl ?_
      have hl1 := hl0.cp (a := (h x0 0)) (sp := 0) (dp := 0) (n := ((h x0 1) * (h x0 2))) (hl0.ti p2) (by decide)
      refine z_aload_n (q := 51) 0 dX2_lay_50 rfl rfl ?_
      refine z_gf (q := 54) (ki := 0) (v := (2, (h x0 0))) fX2_11 rfl (z_ldr rfl (c_na (z_isne p1 (hl0.ti p2) (by decide)))) p1 dX2_lay_51 rfl ?_
      refine z_iload_n (q := 55) 3 dX2_lay_54 rfl rfl ?_
      refine z_aload_n (q := 56) 2 dX2_lay_55 rfl rfl ?_
      refine z_gf (q := 59) (ki := 0) (v := (2, (x2 + 1))) fX2_39 rfl (z_ldr rfl (hl1.tab (p22 c1))) (p22 c1) dX2_lay_56 rfl ?_
      refine z_iconst (q := 60) dX2_lay_59 rfl ?_
      refine z_aload_n (q := 61) 0 dX2_lay_60 rfl rfl ?_
      refine z_gf (q := 64) (ki := 3) (v := (0, (h x0 3))) fX2_24 rfl (z_ldi rfl (c_na (z_isne p1 (hl0.ti p2) (by decide)))) p1 dX2_lay_61 rfl ?_
      refine z_aload_n (q := 65) 0 dX2_lay_64 rfl rfl ?_
      refine z_gf (q := 68) (ki := 4) (v := (0, (h x0 4))) fX2_27 rfl (z_ldi rfl (c_na (z_isne p1 (hl0.ti p2) (by decide)))) p1 dX2_lay_65 rfl ?_
      refine z_imul (q := 69) dX2_lay_68 rfl ?_
      refine z_copy (q := 72) 51 (by decide) (p32 c1 c3) (hl1.ti (p22 c1)) (p33 c1 c3) (by decide) (p36 c1 c3) (p37 c1 c3) (by rw [(hl1.tn (p22 c1))]; exact (p38 c1 c3)) k983 k514 k513 k111 (by omega) (nle rfl) dX2_lay_69 rfl ?_
      have hl2 := hl1.cp (a := (h x0 0)) (sp := ((h x0 1) * (h x0 2))) (dp := 0) (n := ((h x0 3) * (h x0 4))) (hl1.ti (p22 c1)) (by decide)
      exact z_vret rfl dX2_lay_72 ⟨hl2, u4 c1 c3⟩
theorem b_X7_clear_0 {D : zD} {d : Nat} {G : zG} {h : zH} {Q : zO → zG → zH → Prop}
    (u1 : Q (.inl none) G (z_wr (z_wr h 51 0 0) 51 1 0)) :
    z_Y D M_X7_clear d 0 [(0, 2, 51)] [] G h Q := by
  intro hl0
  refine z_aload_n (q := 1) 0 dX7_clear_0 rfl rfl ?_
  refine z_iconst (q := 2) dX7_clear_1 rfl ?_
  refine z_pf (q := 5) (ki := 0) fX7_7 rfl (z_sv0 rfl) (hl0.i 51 (by decide) rfl) dX7_clear_2 rfl ?_
  have hl1 := hl0.wr (v := 0) (hl0.i 51 (by decide) rfl) (i := 0) (by decide)
  refine z_aload_n (q := 6) 0 dX7_clear_5 rfl rfl ?_
  refine z_iconst (q := 7) dX7_clear_6 rfl ?_
  refine z_pf (q := 10) (ki := 1) fX7_13 rfl (z_sv0 rfl) (hl1.i 51 (by decide) rfl) dX7_clear_7 rfl ?_
  have hl2 := hl1.wr (v := 0) (hl1.i 51 (by decide) rfl) (i := 1) (by decide)
  exact z_vret rfl dX7_clear_10 ⟨hl2, u1⟩
theorem b_X7_grow_0 {D : zD} {d : Nat} {G : zG} {h : zH} {Q : zO → zG → zH → Prop} {x1 x2 : Int}
    (u1 : z_Y D M_X7_grow d 5 [(0, 2, 51), (1, 2, x1), (2, 2, x2), (3, 0, 0), (4, 0, 0)] [] G h Q) :
    z_Y D M_X7_grow d 0 [(0, 2, 51), (1, 2, x1), (2, 2, x2)] [] G h Q := by
  intro hl0
  refine z_iconst (q := 1) dX7_grow_0 rfl ?_
  refine z_istore_n (q := 2) (L' := [(0, 2, 51), (1, 2, x1), (2, 2, x2), (3, 0, 0)]) dX7_grow_1 rfl (by decide) rfl ?_
  refine z_iconst (q := 3) dX7_grow_2 rfl ?_
  refine z_istore (q := 5) (L' := [(0, 2, 51), (1, 2, x1), (2, 2, x2), (3, 0, 0), (4, 0, 0)]) dX7_grow_3 rfl (by decide) rfl ?_
  exact u1 hl0
theorem b_X7_grow_5 {D : zD} {d : Nat} {G : zG} {h : zH} {Q : zO → zG → zH → Prop} {x1 x2 x3 x4 : Int} (p1 : z_in x4) (p2 : z_in (h 51 0)) (p3 : ¬ ((h 51 0) ≤ x4) → z_is G (h 51 3) 50) (p4 : ¬ ((h 51 0) ≤ x4) → 0 ≤ x4) (p5 : ¬ ((h 51 0) ≤ x4) → x4 < (G.2.2.2 (h 51 3))) (p6 : ¬ ((h 51 0) ≤ x4) → z_is G x1 56) (p7 : ¬ ((h 51 0) ≤ x4) → 0 ≤ (h (h 51 3) x4)) (p8 : ¬ ((h 51 0) ≤ x4) → (h (h 51 3) x4) < (G.2.2.2 x1)) (p9 : ¬ ((h 51 0) ≤ x4) → z_is G (h x1 (h (h 51 3) x4)) 1)
    (u1 : (h 51 0) ≤ x4 → z_Kv D M_X7_takeNext d [(2, 51)] G (z_wr (z_wr h 51 0 x3) 51 1 ((h 51 1) + 1)) (fun G' h' => z_Y D M_X7_grow d 134 [] [] G' h' Q))
    (u2 : ¬ ((h 51 0) ≤ x4) → z_Y D M_X7_grow d 32 [(0, 2, 51), (1, 2, x1), (2, 2, x2), (3, 0, x3), (4, 0, x4), (5, 2, (h x1 (h (h 51 3) x4))), (6, 0, (h (h x1 (h (h 51 3) x4)) 7))] [] G h Q) :
    z_Y D M_X7_grow d 5 [(0, 2, 51), (1, 2, x1), (2, 2, x2), (3, 0, x3), (4, 0, x4)] [] G h Q := by
  intro hl0
  refine z_iload (q := 7) 4 dX7_grow_5 rfl rfl ?_
  refine z_aload_n (q := 8) 0 dX7_grow_7 rfl rfl ?_
  refine z_gf (q := 11) (ki := 0) (v := (0, (h 51 0))) fX7_7 rfl rfl (hl0.i 51 (by decide) rfl) dX7_grow_8 rfl ?_
  refine z_icmp_ge (q := 14) (t := 115) p1 p2 dX7_grow_11 (by decide) rfl (fun c1 => ?_) (fun c1 => ?_)
  · refine z_aload_n (q := 116) 0 dX7_grow_115 rfl rfl ?_
    refine z_iload_n (q := 117) 3 dX7_grow_116 rfl rfl ?_
    refine z_pf (q := 120) (ki := 0) fX7_7 rfl (z_sv0 rfl) (hl0.i 51 (by decide) rfl) dX7_grow_117 rfl ?_
    have hl1 := hl0.wr (v := x3) (hl0.i 51 (by decide) rfl) (i := 0) (by decide)
    refine z_aload_n (q := 121) 0 dX7_grow_120 rfl rfl ?_
    refine z_dup (q := 122) (by decide) dX7_grow_121 rfl ?_
    refine z_gf (q := 125) (ki := 1) (v := (0, (h 51 1))) fX7_13 rfl (z_ldi rfl (w_nj (by decide))) (hl1.i 51 (by decide) rfl) dX7_grow_122 rfl ?_
    refine z_iconst (q := 126) dX7_grow_125 rfl ?_
    refine z_iadd (q := 127) dX7_grow_126 rfl ?_
    refine z_pf (q := 130) (ki := 1) fX7_13 rfl (z_sv0 rfl) (hl1.i 51 (by decide) rfl) dX7_grow_127 rfl ?_
    have hl2 := hl1.wr (v := ((h 51 1) + 1)) (hl1.i 51 (by decide) rfl) (i := 1) (by decide)
    refine z_aload_n (q := 131) 0 dX7_grow_130 rfl rfl ?_
    refine z_sub (L' := []) [] rfl ?_
    exact z_goV (q := 134) (av := []) (rest := []) cb5 (hl2.i 51 (by decide) rfl) z_tov hl2 (u1 c1) mo_X7_takeNext np_X7_takeNext k1003 k1005 k33 rfl (nle rfl) dX7_grow_131 rfl
  · refine z_aload_n (q := 15) 1 dX7_grow_14 rfl rfl ?_
    refine z_aload_n (q := 16) 0 dX7_grow_15 rfl rfl ?_
    refine z_gf (q := 19) (ki := 3) (v := (2, (h 51 3))) fX7_20 rfl rfl (hl0.i 51 (by decide) rfl) dX7_grow_16 rfl ?_
    refine z_iload (q := 21) 4 dX7_grow_19 rfl rfl ?_
    refine z_iale (q := 22) (v := (h (h 51 3) x4)) (z_ati (p3 c1)) (p4 c1) (p5 c1) rfl dX7_grow_21 rfl ?_
    refine z_aale (q := 23) 56 (by decide) (by decide) (z_ati (p6 c1)) (p7 c1) (p8 c1) (v := (h x1 (h (h 51 3) x4))) rfl dX7_grow_22 rfl ?_
    refine z_astore (q := 25) (L' := [(0, 2, 51), (1, 2, x1), (2, 2, x2), (3, 0, x3), (4, 0, x4), (5, 2, (h x1 (h (h 51 3) x4)))]) dX7_grow_23 rfl (by decide) rfl ?_
    refine z_aload (q := 27) 5 dX7_grow_25 rfl rfl ?_
    refine z_gf (q := 30) (ki := 7) (v := (0, (h (h x1 (h (h 51 3) x4)) 7))) fX7_29 rfl rfl (p9 c1) dX7_grow_27 rfl ?_
    refine z_istore (q := 32) (L' := [(0, 2, 51), (1, 2, x1), (2, 2, x2), (3, 0, x3), (4, 0, x4), (5, 2, (h x1 (h (h 51 3) x4))), (6, 0, (h (h x1 (h (h 51 3) x4)) 7))]) dX7_grow_30 rfl (by decide) rfl ?_
    exact u2 c1 hl0
theorem b_X7_grow_134 {D : zD} {d : Nat} {G : zG} {h : zH} {Q : zO → zG → zH → Prop}
    (u1 : Q (.inl none) G h) :
    z_Y D M_X7_grow d 134 [] [] G h Q := by
  intro hl0
  exact z_vret rfl dX7_grow_134 ⟨hl0, u1⟩
theorem b_X7_grow_32 {D : zD} {d : Nat} {G : zG} {h : zH} {Q : zO → zG → zH → Prop} {x1 x2 x3 x4 x5 x6 : Int} (p1 : z_is G x5 1) (p2 : z_in x6) (p3 : z_in (h x5 8)) (p4 : ¬ ((h x5 8) ≤ x6) → z_in x3) (p5 : ¬ ((h x5 8) ≤ x6) → ¬ (60 ≤ x3) → z_is G x2 50) (p6 : ¬ ((h x5 8) ≤ x6) → ¬ (60 ≤ x3) → 0 ≤ x6) (p7 : ¬ ((h x5 8) ≤ x6) → ¬ (60 ≤ x3) → x6 < (G.2.2.2 x2)) (p8 : ¬ ((h x5 8) ≤ x6) → ¬ (60 ≤ x3) → z_is G x1 56) (p9 : ¬ ((h x5 8) ≤ x6) → ¬ (60 ≤ x3) → 0 ≤ (z_ishr (h x2 x6) 10)) (p10 : ¬ ((h x5 8) ≤ x6) → ¬ (60 ≤ x3) → (z_ishr (h x2 x6) 10) < (G.2.2.2 x1)) (p11 : ¬ ((h x5 8) ≤ x6) → ¬ (60 ≤ x3) → z_is G (h x1 (z_ishr (h x2 x6) 10)) 1) (p12 : ¬ ((h x5 8) ≤ x6) → ¬ (60 ≤ x3) → z_in ((h (h x1 (z_ishr (h x2 x6) 10)) 9) % 2)) (p13 : ¬ ((h x5 8) ≤ x6) → ¬ (60 ≤ x3) → ¬ (((h (h x1 (z_ishr (h x2 x6) 10)) 9) % 2) = 0) → z_is G (h 51 2) 50) (p14 : ¬ ((h x5 8) ≤ x6) → ¬ (60 ≤ x3) → ¬ (((h (h x1 (z_ishr (h x2 x6) 10)) 9) % 2) = 0) → 0 ≤ x4) (p15 : ¬ ((h x5 8) ≤ x6) → ¬ (60 ≤ x3) → ¬ (((h (h x1 (z_ishr (h x2 x6) 10)) 9) % 2) = 0) → x4 < (G.2.2.2 (h 51 2))) (p16 : ¬ ((h x5 8) ≤ x6) → ¬ (60 ≤ x3) → ¬ (((h (h x1 (z_ishr (h x2 x6) 10)) 9) % 2) = 0) → z_is G (h 51 4) 50) (p17 : ¬ ((h x5 8) ≤ x6) → ¬ (60 ≤ x3) → ¬ (((h (h x1 (z_ishr (h x2 x6) 10)) 9) % 2) = 0) → 0 ≤ x3) (p18 : ¬ ((h x5 8) ≤ x6) → ¬ (60 ≤ x3) → ¬ (((h (h x1 (z_ishr (h x2 x6) 10)) 9) % 2) = 0) → x3 < (G.2.2.2 (h 51 4))) (p19 : ¬ ((h x5 8) ≤ x6) → ¬ (60 ≤ x3) → ¬ (((h (h x1 (z_ishr (h x2 x6) 10)) 9) % 2) = 0) → z_is G (h 51 5) 50) (p20 : ¬ ((h x5 8) ≤ x6) → ¬ (60 ≤ x3) → ¬ (((h (h x1 (z_ishr (h x2 x6) 10)) 9) % 2) = 0) → x3 < (G.2.2.2 (h 51 5)))
    (u1 : (h x5 8) ≤ x6 → z_Y D M_X7_grow d 5 [(0, 2, 51), (1, 2, x1), (2, 2, x2), (3, 0, x3), (4, 0, (x4 + 1))] [] G h Q)
    (u2 : ¬ ((h x5 8) ≤ x6) → 60 ≤ x3 → z_Y D M_X7_grow d 5 [(0, 2, 51), (1, 2, x1), (2, 2, x2), (3, 0, x3), (4, 0, (x4 + 1))] [] G h Q)
    (u3 : ¬ ((h x5 8) ≤ x6) → ¬ (60 ≤ x3) → ((h (h x1 (z_ishr (h x2 x6) 10)) 9) % 2) = 0 → z_Y D M_X7_grow d 32 [(0, 2, 51), (1, 2, x1), (2, 2, x2), (3, 0, x3), (4, 0, x4), (5, 2, x5), (6, 0, (x6 + 1))] [] G h Q)
    (u4 : ¬ ((h x5 8) ≤ x6) → ¬ (60 ≤ x3) → ¬ (((h (h x1 (z_ishr (h x2 x6) 10)) 9) % 2) = 0) → z_Y D M_X7_grow d 32 [(0, 2, 51), (1, 2, x1), (2, 2, x2), (3, 0, (x3 + 1)), (4, 0, x4), (5, 2, x5), (6, 0, (x6 + 1))] [] G (z_wr (z_wr h (h 51 4) x3 (z_ior (z_ishl (h (h 51 2) x4) 10) (z_iand (h x2 x6) 1023))) (h 51 5) x3 (z_ishr (h x2 x6) 10)) Q) :
    z_Y D M_X7_grow d 32 [(0, 2, 51), (1, 2, x1), (2, 2, x2), (3, 0, x3), (4, 0, x4), (5, 2, x5), (6, 0, x6)] [] G h Q := by
  intro hl0
  refine z_iload (q := 34) 6 dX7_grow_32 rfl rfl ?_
  refine z_aload (q := 36) 5 dX7_grow_34 rfl rfl ?_
  refine z_gf (q := 39) (ki := 8) (v := (0, (h x5 8))) fX7_34 rfl rfl p1 dX7_grow_36 rfl ?_
  refine z_icmp_ge (q := 42) (t := 109) p2 p3 dX7_grow_39 (by decide) rfl (fun c1 => ?_) (fun c1 => ?_)
  · refine z_iinc (q := 112) (L' := [(0, 2, 51), (1, 2, x1), (2, 2, x2), (3, 0, x3), (4, 0, (x4 + 1)), (5, 2, x5), (6, 0, x6)]) 4 dX7_grow_109 rfl rfl (by decide) rfl ?_
    refine z_goto (t := 5) dX7_grow_112 (by decide) ?_
    refine z_sub (L' := [(0, 2, 51), (1, 2, x1), (2, 2, x2), (3, 0, x3), (4, 0, (x4 + 1))]) [0, 1, 2, 3, 4] rfl ?_
    exact u1 c1 hl0
  · refine z_iload_n (q := 43) 3 dX7_grow_42 rfl rfl ?_
    refine z_bipush (q := 45) dX7_grow_43 rfl (by decide) ?_
    refine z_icmp_ge (q := 48) (t := 109) (p4 c1) ⟨by decide, by decide⟩ dX7_grow_45 (by decide) rfl (fun c2 => ?_) (fun c2 => ?_)
    · refine z_iinc (q := 112) (L' := [(0, 2, 51), (1, 2, x1), (2, 2, x2), (3, 0, x3), (4, 0, (x4 + 1)), (5, 2, x5), (6, 0, x6)]) 4 dX7_grow_109 rfl rfl (by decide) rfl ?_
      refine z_goto (t := 5) dX7_grow_112 (by decide) ?_
      refine z_sub (L' := [(0, 2, 51), (1, 2, x1), (2, 2, x2), (3, 0, x3), (4, 0, (x4 + 1))]) [0, 1, 2, 3, 4] rfl ?_
      exact u2 c1 c2 hl0
    · refine z_aload_n (q := 49) 2 dX7_grow_48 rfl rfl ?_
      refine z_iload (q := 51) 6 dX7_grow_49 rfl rfl ?_
      refine z_iale (q := 52) (v := (h x2 x6)) (z_ati (p5 c1 c2)) (p6 c1 c2) (p7 c1 c2) rfl dX7_grow_51 rfl ?_
      refine z_bipush (q := 54) dX7_grow_52 rfl (by decide) ?_
      refine z_r_ishr (q := 55) dX7_grow_54 rfl ?_
      refine z_istore (q := 57) (L' := [(0, 2, 51), (1, 2, x1), (2, 2, x2), (3, 0, x3), (4, 0, x4), (5, 2, x5), (6, 0, x6), (7, 0, (z_ishr (h x2 x6) 10))]) dX7_grow_55 rfl (by decide) rfl ?_
      refine z_aload_n (q := 58) 1 dX7_grow_57 rfl rfl ?_
      refine z_iload (q := 60) 7 dX7_grow_58 rfl rfl ?_
      refine z_aale (q := 61) 56 (by decide) (by decide) (z_ati (p8 c1 c2)) (p9 c1 c2) (p10 c1 c2) (v := (h x1 (z_ishr (h x2 x6) 10))) rfl dX7_grow_60 rfl ?_
      refine z_gf (q := 64) (ki := 9) (v := (0, ((h (h x1 (z_ishr (h x2 x6) 10)) 9) % 2))) fX7_39 rfl rfl (p11 c1 c2) dX7_grow_61 rfl ?_
      refine z_if_eq (q := 67) (t := 103) (p12 c1 c2) dX7_grow_64 (by decide) rfl (fun c3 => ?_) (fun c3 => ?_)
      · refine z_iinc (q := 106) (L' := [(0, 2, 51), (1, 2, x1), (2, 2, x2), (3, 0, x3), (4, 0, x4), (5, 2, x5), (6, 0, (x6 + 1)), (7, 0, (z_ishr (h x2 x6) 10))]) 6 dX7_grow_103 rfl rfl (by decide) rfl ?_
        refine z_goto (t := 32) dX7_grow_106 (by decide) ?_
        refine z_sub (L' := [(0, 2, 51), (1, 2, x1), (2, 2, x2), (3, 0, x3), (4, 0, x4), (5, 2, x5), (6, 0, (x6 + 1))]) [0, 1, 2, 3, 4, 5, 6] rfl ?_
        exact u3 c1 c2 c3 hl0
      · refine z_aload_n (q := 68) 0 dX7_grow_67 rfl rfl ?_
        refine z_gf (q := 71) (ki := 4) (v := (2, (h 51 4))) fX7_23 rfl rfl (hl0.i 51 (by decide) rfl) dX7_grow_68 rfl ?_
        refine z_iload_n (q := 72) 3 dX7_grow_71 rfl rfl ?_
        refine z_aload_n (q := 73) 0 dX7_grow_72 rfl rfl ?_
        refine z_gf (q := 76) (ki := 2) (v := (2, (h 51 2))) fX7_16 rfl rfl (hl0.i 51 (by decide) rfl) dX7_grow_73 rfl ?_
        refine z_iload (q := 78) 4 dX7_grow_76 rfl rfl ?_
        refine z_iale (q := 79) (v := (h (h 51 2) x4)) (z_ati (p13 c1 c2 c3)) (p14 c1 c2 c3) (p15 c1 c2 c3) rfl dX7_grow_78 rfl ?_
        refine z_bipush (q := 81) dX7_grow_79 rfl (by decide) ?_
        refine z_r_ishl (q := 82) dX7_grow_81 rfl ?_
        refine z_aload_n (q := 83) 2 dX7_grow_82 rfl rfl ?_
        refine z_iload (q := 85) 6 dX7_grow_83 rfl rfl ?_
        refine z_iale (q := 86) (v := (h x2 x6)) (z_ati (p5 c1 c2)) (p6 c1 c2) (p7 c1 c2) rfl dX7_grow_85 rfl ?_
        refine z_sipush (q := 89) dX7_grow_86 rfl (by decide) ?_
        refine z_r_iand (q := 90) dX7_grow_89 rfl ?_
        refine z_r_ior (q := 91) dX7_grow_90 rfl ?_
        refine z_isn (q := 92) (p16 c1 c2 c3) rfl (p17 c1 c2 c3) (p18 c1 c2 c3) dX7_grow_91 rfl ?_
        have hl1 := hl0.wr (v := (z_ior (z_ishl (h (h 51 2) x4) 10) (z_iand (h x2 x6) 1023))) (p16 c1 c2 c3) (i := x3) rfl
        refine z_aload_n (q := 93) 0 dX7_grow_92 rfl rfl ?_
        refine z_gf (q := 96) (ki := 5) (v := (2, (h 51 5))) fX7_26 rfl (z_ldr rfl (w_na (z_isne (hl1.i 51 (by decide) rfl) (p16 c1 c2 c3) (by decide)))) (hl1.i 51 (by decide) rfl) dX7_grow_93 rfl ?_
        refine z_iload_n (q := 97) 3 dX7_grow_96 rfl rfl ?_
        refine z_iload (q := 99) 7 dX7_grow_97 rfl rfl ?_
        refine z_isn (q := 100) (p19 c1 c2 c3) rfl (p17 c1 c2 c3) (p20 c1 c2 c3) dX7_grow_99 rfl ?_
        have hl2 := hl1.wr (v := (z_ishr (h x2 x6) 10)) (p19 c1 c2 c3) (i := x3) rfl
        refine z_iinc (q := 103) (L' := [(0, 2, 51), (1, 2, x1), (2, 2, x2), (3, 0, (x3 + 1)), (4, 0, x4), (5, 2, x5), (6, 0, x6), (7, 0, (z_ishr (h x2 x6) 10))]) 3 dX7_grow_100 rfl rfl (by decide) rfl ?_
        refine z_iinc (q := 106) (L' := [(0, 2, 51), (1, 2, x1), (2, 2, x2), (3, 0, (x3 + 1)), (4, 0, x4), (5, 2, x5), (6, 0, (x6 + 1)), (7, 0, (z_ishr (h x2 x6) 10))]) 6 dX7_grow_103 rfl rfl (by decide) rfl ?_
        refine z_goto (t := 32) dX7_grow_106 (by decide) ?_
        refine z_sub (L' := [(0, 2, 51), (1, 2, x1), (2, 2, x2), (3, 0, (x3 + 1)), (4, 0, x4), (5, 2, x5), (6, 0, (x6 + 1))]) [0, 1, 2, 3, 4, 5, 6] rfl ?_
        exact u4 c1 c2 c3 hl2
theorem b_X7_start_0 {D : zD} {d : Nat} {G : zG} {h : zH} {Q : zO → zG → zH → Prop} (p1 : z_is G (h 51 2) 50) (p2 : 0 < (G.2.2.2 (h 51 2))) (p3 : z_is G (h 51 3) 50) (p4 : 0 < (G.2.2.2 (h 51 3)))
    (u1 : Q (.inl none) G (z_wr (z_wr (z_wr (z_wr h 51 0 1) 51 1 0) (h 51 2) 0 0) (h 51 3) 0 0)) :
    z_Y D M_X7_start d 0 [(0, 2, 51)] [] G h Q := by
  intro hl0
  refine z_aload_n (q := 1) 0 dX7_start_0 rfl rfl ?_
  refine z_iconst (q := 2) dX7_start_1 rfl ?_
  refine z_pf (q := 5) (ki := 0) fX7_7 rfl (z_sv0 rfl) (hl0.i 51 (by decide) rfl) dX7_start_2 rfl ?_
  have hl1 := hl0.wr (v := 1) (hl0.i 51 (by decide) rfl) (i := 0) (by decide)
  refine z_aload_n (q := 6) 0 dX7_start_5 rfl rfl ?_
  refine z_iconst (q := 7) dX7_start_6 rfl ?_
  refine z_pf (q := 10) (ki := 1) fX7_13 rfl (z_sv0 rfl) (hl1.i 51 (by decide) rfl) dX7_start_7 rfl ?_
  have hl2 := hl1.wr (v := 0) (hl1.i 51 (by decide) rfl) (i := 1) (by decide)
  refine z_aload_n (q := 11) 0 dX7_start_10 rfl rfl ?_
  refine z_gf (q := 14) (ki := 2) (v := (2, (h 51 2))) fX7_16 rfl (z_ldr rfl ((w_nj (by decide)).trans (w_nj (by decide)))) (hl2.i 51 (by decide) rfl) dX7_start_11 rfl ?_
  refine z_iconst (q := 15) dX7_start_14 rfl ?_
  refine z_iconst (q := 16) dX7_start_15 rfl ?_
  refine z_isn (q := 17) p1 rfl (by decide) p2 dX7_start_16 rfl ?_
  have hl3 := hl2.wr (v := 0) p1 (i := 0) rfl
  refine z_aload_n (q := 18) 0 dX7_start_17 rfl rfl ?_
  refine z_gf (q := 21) (ki := 3) (v := (2, (h 51 3))) fX7_20 rfl (z_ldr rfl ((w_nj (by decide)).trans ((w_nj (by decide)).trans (w_nj (by decide))))) (hl3.i 51 (by decide) rfl) dX7_start_18 rfl ?_
  refine z_iconst (q := 22) dX7_start_21 rfl ?_
  refine z_iconst (q := 23) dX7_start_22 rfl ?_
  refine z_isn (q := 24) p3 rfl (by decide) p4 dX7_start_23 rfl ?_
  have hl4 := hl3.wr (v := 0) p3 (i := 0) rfl
  exact z_vret rfl dX7_start_24 ⟨hl4, u1⟩
theorem b_X7_takeNext_0 {D : zD} {d : Nat} {G : zG} {h : zH} {Q : zO → zG → zH → Prop}
    (u1 : Q (.inl none) G (z_wr (z_wr (z_wr (z_wr h 51 2 (h 51 4)) 51 4 (h 51 2)) 51 3 (h 51 5)) 51 5 (h 51 3))) :
    z_Y D M_X7_takeNext d 0 [(0, 2, 51)] [] G h Q := by
  intro hl0
  refine z_aload_n (q := 1) 0 dX7_takeNext_0 rfl rfl ?_
  refine z_gf (q := 4) (ki := 2) (v := (2, (h 51 2))) fX7_16 rfl rfl (hl0.i 51 (by decide) rfl) dX7_takeNext_1 rfl ?_
  refine z_astore_n (q := 5) (L' := [(0, 2, 51), (1, 2, (h 51 2))]) dX7_takeNext_4 rfl (by decide) rfl ?_
  refine z_aload_n (q := 6) 0 dX7_takeNext_5 rfl rfl ?_
  refine z_aload_n (q := 7) 0 dX7_takeNext_6 rfl rfl ?_
  refine z_gf (q := 10) (ki := 4) (v := (2, (h 51 4))) fX7_23 rfl rfl (hl0.i 51 (by decide) rfl) dX7_takeNext_7 rfl ?_
  refine z_pf (q := 13) (ki := 2) fX7_16 rfl (z_sv2 rfl) (hl0.i 51 (by decide) rfl) dX7_takeNext_10 rfl ?_
  have hl1 := hl0.wr (v := (h 51 4)) (hl0.i 51 (by decide) rfl) (i := 2) (by decide)
  refine z_aload_n (q := 14) 0 dX7_takeNext_13 rfl rfl ?_
  refine z_aload_n (q := 15) 1 dX7_takeNext_14 rfl rfl ?_
  refine z_pf (q := 18) (ki := 4) fX7_23 rfl (z_sv2 rfl) (hl1.i 51 (by decide) rfl) dX7_takeNext_15 rfl ?_
  have hl2 := hl1.wr (v := (h 51 2)) (hl1.i 51 (by decide) rfl) (i := 4) (by decide)
  refine z_aload_n (q := 19) 0 dX7_takeNext_18 rfl rfl ?_
  refine z_gf (q := 22) (ki := 3) (v := (2, (h 51 3))) fX7_20 rfl (z_ldr rfl ((w_nj (by decide)).trans (w_nj (by decide)))) (hl2.i 51 (by decide) rfl) dX7_takeNext_19 rfl ?_
  refine z_astore_n (q := 23) (L' := [(0, 2, 51), (1, 2, (h 51 2)), (2, 2, (h 51 3))]) dX7_takeNext_22 rfl (by decide) rfl ?_
  refine z_aload_n (q := 24) 0 dX7_takeNext_23 rfl rfl ?_
  refine z_aload_n (q := 25) 0 dX7_takeNext_24 rfl rfl ?_
  refine z_gf (q := 28) (ki := 5) (v := (2, (h 51 5))) fX7_26 rfl (z_ldr rfl ((w_nj (by decide)).trans (w_nj (by decide)))) (hl2.i 51 (by decide) rfl) dX7_takeNext_25 rfl ?_
  refine z_pf (q := 31) (ki := 3) fX7_20 rfl (z_sv2 rfl) (hl2.i 51 (by decide) rfl) dX7_takeNext_28 rfl ?_
  have hl3 := hl2.wr (v := (h 51 5)) (hl2.i 51 (by decide) rfl) (i := 3) (by decide)
  refine z_aload_n (q := 32) 0 dX7_takeNext_31 rfl rfl ?_
  refine z_aload_n (q := 33) 2 dX7_takeNext_32 rfl rfl ?_
  refine z_pf (q := 36) (ki := 5) fX7_26 rfl (z_sv2 rfl) (hl3.i 51 (by decide) rfl) dX7_takeNext_33 rfl ?_
  have hl4 := hl3.wr (v := (h 51 3)) (hl3.i 51 (by decide) rfl) (i := 5) (by decide)
  exact z_vret rfl dX7_takeNext_36 ⟨hl4, u1⟩
theorem b_X7_write_0 {D : zD} {d : Nat} {G : zG} {h : zH} {Q : zO → zG → zH → Prop} {x1 x2 : Int} (p1 : z_is G x2 7)
    (u1 : z_Kv D M_X9_clear d [(2, x2)] G h (fun G' h' => z_Y D M_X7_write d 4 [(0, 2, 51), (1, 0, x1), (2, 2, x2)] [] G' h' Q)) :
    z_Y D M_X7_write d 0 [(0, 2, 51), (1, 0, x1), (2, 2, x2)] [] G h Q := by
  intro hl0
  refine z_aload_n (q := 1) 2 dX7_write_0 rfl rfl ?_
  exact z_goV (q := 4) (av := []) (rest := []) cb7 p1 z_tov hl0 (u1) mo_X9_clear np_X9_clear k1058 k524 k525 rfl (nle rfl) dX7_write_1 rfl
theorem b_X7_write_4 {D : zD} {d : Nat} {G : zG} {h : zH} {Q : zO → zG → zH → Prop} {x1 x2 : Int}
    (u1 : z_Y D M_X7_write d 11 [(0, 2, 51), (1, 0, x1), (2, 2, x2), (3, 0, ((h 51 1) - 1))] [] G h Q) :
    z_Y D M_X7_write d 4 [(0, 2, 51), (1, 0, x1), (2, 2, x2)] [] G h Q := by
  intro hl0
  refine z_aload_n (q := 5) 0 dX7_write_4 rfl rfl ?_
  refine z_gf (q := 8) (ki := 1) (v := (0, (h 51 1))) fX7_13 rfl rfl (hl0.i 51 (by decide) rfl) dX7_write_5 rfl ?_
  refine z_iconst (q := 9) dX7_write_8 rfl ?_
  refine z_isub (q := 10) dX7_write_9 rfl ?_
  refine z_istore_n (q := 11) (L' := [(0, 2, 51), (1, 0, x1), (2, 2, x2), (3, 0, ((h 51 1) - 1))]) dX7_write_10 rfl (by decide) rfl ?_
  exact u1 hl0
theorem b_X7_write_11 {D : zD} {d : Nat} {G : zG} {h : zH} {Q : zO → zG → zH → Prop} {x1 x2 x3 : Int} (p1 : z_in x3) (p2 : ¬ (x3 < 0) → z_is G (h 51 2) 50) (p3 : ¬ (x3 < 0) → 0 ≤ x1) (p4 : ¬ (x3 < 0) → x1 < (G.2.2.2 (h 51 2))) (p5 : ¬ (x3 < 0) → z_is G x2 7)
    (u1 : x3 < 0 → Q (.inl none) G h)
    (u2 : ¬ (x3 < 0) → z_Ki D M_X9_add d [(2, x2), (0, (z_iand (z_ishr (h (h 51 2) x1) (x3 * 10)) 1023))] G h (fun r G' h' => z_Y D M_X7_write d 34 [(0, 2, 51), (1, 0, x1), (2, 2, x2), (3, 0, x3)] [(0, r)] G' h' Q)) :
    z_Y D M_X7_write d 11 [(0, 2, 51), (1, 0, x1), (2, 2, x2), (3, 0, x3)] [] G h Q := by
  intro hl0
  refine z_iload_n (q := 12) 3 dX7_write_11 rfl rfl ?_
  refine z_if_lt (q := 15) (t := 41) p1 dX7_write_12 (by decide) rfl (fun c1 => ?_) (fun c1 => ?_)
  · exact z_vret rfl dX7_write_41 ⟨hl0, u1 c1⟩
  · refine z_aload_n (q := 16) 2 dX7_write_15 rfl rfl ?_
    refine z_aload_n (q := 17) 0 dX7_write_16 rfl rfl ?_
    refine z_gf (q := 20) (ki := 2) (v := (2, (h 51 2))) fX7_16 rfl rfl (hl0.i 51 (by decide) rfl) dX7_write_17 rfl ?_
    refine z_iload_n (q := 21) 1 dX7_write_20 rfl rfl ?_
    refine z_iale (q := 22) (v := (h (h 51 2) x1)) (z_ati (p2 c1)) (p3 c1) (p4 c1) rfl dX7_write_21 rfl ?_
    refine z_iload_n (q := 23) 3 dX7_write_22 rfl rfl ?_
    refine z_bipush (q := 25) dX7_write_23 rfl (by decide) ?_
    refine z_imul (q := 26) dX7_write_25 rfl ?_
    refine z_r_ishr (q := 27) dX7_write_26 rfl ?_
    refine z_sipush (q := 30) dX7_write_27 rfl (by decide) ?_
    refine z_r_iand (q := 31) dX7_write_30 rfl ?_
    exact z_goV (q := 34) (av := [(0, (z_iand (z_ishr (h (h 51 2) x1) (x3 * 10)) 1023))]) (rest := []) cb7 (p5 c1) z_toi hl0 (u2 c1) mo_X9_add np_X9_add k1059 k625 k626 rfl (nle rfl) dX7_write_31 rfl
theorem b_X7_write_34 {D : zD} {d : Nat} {G : zG} {h : zH} {Q : zO → zG → zH → Prop} {s0 x1 x2 x3 : Int}
    (u1 : z_Y D M_X7_write d 11 [(0, 2, 51), (1, 0, x1), (2, 2, x2), (3, 0, (x3 + (-1)))] [] G h Q) :
    z_Y D M_X7_write d 34 [(0, 2, 51), (1, 0, x1), (2, 2, x2), (3, 0, x3)] [(0, s0)] G h Q := by
  intro hl0
  refine z_pop (q := 35) (by decide) dX7_write_34 rfl ?_
  refine z_iinc (q := 38) (L' := [(0, 2, 51), (1, 0, x1), (2, 2, x2), (3, 0, (x3 + (-1)))]) 3 dX7_write_35 rfl rfl (by decide) rfl ?_
  refine z_goto (t := 11) dX7_write_38 (by decide) ?_
  exact u1 hl0
theorem b_J7_copyOf_59c91_0 {D : zD} {d : Nat} {G : zG} {h : zH} {Q : zO → zG → zH → Prop} {x0 x1 : Int} (p1 : z_is G x0 50) (p2 : z_in x1) (p3 : z_in (G.2.2.2 x0)) (p4 : ¬ x1 = (G.2.2.2 x0) → 0 ≤ x1) (p5 : ¬ x1 = (G.2.2.2 x0) → x1 ≤ 60000000) (p6 : ¬ (¬ x1 = (G.2.2.2 x0)) → False)
    (u1 : ¬ x1 = (G.2.2.2 x0) → z_Y D M_J7_copyOf_59c91 d 17 [(0, 2, x0), (1, 0, x1)] [(2, (G.1 : Int))] (z_al G 50 (x1).toNat) (z_nw h G.1 (fun _ => 0)) Q) :
    z_Y D M_J7_copyOf_59c91 d 0 [(0, 2, x0), (1, 0, x1)] [] G h Q := by
  intro hl0
  refine z_iload_n (q := 1) 1 dJ7_copyOf_59c91_0 rfl rfl ?_
  refine z_aload_n (q := 2) 0 dJ7_copyOf_59c91_1 rfl rfl ?_
  refine z_alen (q := 3) 50 (by decide) (by decide) (z_ati p1) dJ7_copyOf_59c91_2 rfl ?_
  refine z_icmp_ne (q := 6) (t := 14) p2 p3 dJ7_copyOf_59c91_3 (by decide) rfl (fun c1 => ?_) (fun c1 => ?_)
  · refine z_iload_n (q := 15) 1 dJ7_copyOf_59c91_14 rfl rfl ?_
    refine z_newa (q := 17) 50 (by decide) (by decide) rfl k222 (p4 c1) (p5 c1) dJ7_copyOf_59c91_15 rfl ?_
    exact u1 c1 (hl0.al ⟨by decide, by decide⟩)
  · refine z_aload_n (q := 7) 0 dJ7_copyOf_59c91_6 rfl rfl ?_
    exact ((p6 c1)).elim
theorem b_J7_copyOf_59c91_17 {D : zD} {d : Nat} {G : zG} {h : zH} {Q : zO → zG → zH → Prop} {s0 x0 x1 : Int} (hd : 1 ≤ d) (p1 : z_is G x0 50) (p2 : z_in (G.2.2.2 x0)) (p3 : z_in x1) (p4 : z_is G s0 50) (p5 : 0 ≤ (if x1 < (G.2.2.2 x0) then x1 else (G.2.2.2 x0))) (p6 : (0 : Int) + (if x1 < (G.2.2.2 x0) then x1 else (G.2.2.2 x0)) ≤ (G.2.2.2 x0)) (p7 : (0 : Int) + (if x1 < (G.2.2.2 x0) then x1 else (G.2.2.2 x0)) ≤ (G.2.2.2 s0))
    (u1 : Q (.inl (some (2, s0))) G (z_cp h x0 0 s0 0 (if x1 < (G.2.2.2 x0) then x1 else (G.2.2.2 x0)))) :
    z_Y D M_J7_copyOf_59c91 d 17 [(0, 2, x0), (1, 0, x1)] [(2, s0)] G h Q := by
  intro hl0
  refine z_astore_n (q := 18) (L' := [(0, 2, x0), (1, 0, x1), (2, 2, s0)]) dJ7_copyOf_59c91_17 rfl (by decide) rfl ?_
  refine z_aload_n (q := 19) 0 dJ7_copyOf_59c91_18 rfl rfl ?_
  refine z_iconst (q := 20) dJ7_copyOf_59c91_19 rfl ?_
  refine z_aload_n (q := 21) 2 dJ7_copyOf_59c91_20 rfl rfl ?_
  refine z_iconst (q := 22) dJ7_copyOf_59c91_21 rfl ?_
  refine z_aload_n (q := 23) 0 dJ7_copyOf_59c91_22 rfl rfl ?_
  refine z_alen (q := 24) 50 (by decide) (by decide) (z_ati p1) dJ7_copyOf_59c91_23 rfl ?_
  refine z_iload_n (q := 25) 1 dJ7_copyOf_59c91_24 rfl rfl ?_
  refine z_min (q := 28) p2 p3 k1044 k981 k117 k982 (by omega) (nle rfl) dJ7_copyOf_59c91_25 rfl ?_
  refine z_copy (q := 31) 50 (by decide) p1 p4 (by decide) (by decide) p5 p6 p7 k1045 k514 k513 k111 (by omega) (nle rfl) dJ7_copyOf_59c91_28 rfl ?_
  have hl1 := hl0.cp (a := x0) (sp := 0) (dp := 0) (n := (if x1 < (G.2.2.2 x0) then x1 else (G.2.2.2 x0))) p4 (by decide)
  refine z_aload_n (q := 32) 2 dJ7_copyOf_59c91_31 rfl rfl ?_
  exact z_aret rfl (by simp) dJ7_copyOf_59c91_32 ⟨hl1, u1⟩
theorem b_X1_mixOf_0 {D : zD} {d : Nat} {G : zG} {h : zH} {Q : zO → zG → zH → Prop} {x0 x1 : Int} (p1 : z_is G x0 3)
    (u1 : z_Y D M_X1_mixOf d 20 [(0, 2, x0), (2, 0, ((31 * ((31 * x1) + (h x0 1))) + (h x0 2))), (3, 0, 0)] [] G h Q) :
    z_Y D M_X1_mixOf d 0 [(0, 2, x0), (1, 0, x1)] [] G h Q := by
  intro hl0
  refine z_bipush (q := 2) dX1_mixOf_0 rfl (by decide) ?_
  refine z_bipush (q := 4) dX1_mixOf_2 rfl (by decide) ?_
  refine z_iload_n (q := 5) 1 dX1_mixOf_4 rfl rfl ?_
  refine z_imul (q := 6) dX1_mixOf_5 rfl ?_
  refine z_aload_n (q := 7) 0 dX1_mixOf_6 rfl rfl ?_
  refine z_gf (q := 10) (ki := 1) (v := (0, (h x0 1))) fX1_194 rfl rfl p1 dX1_mixOf_7 rfl ?_
  refine z_iadd (q := 11) dX1_mixOf_10 rfl ?_
  refine z_imul (q := 12) dX1_mixOf_11 rfl ?_
  refine z_aload_n (q := 13) 0 dX1_mixOf_12 rfl rfl ?_
  refine z_gf (q := 16) (ki := 2) (v := (0, (h x0 2))) fX1_197 rfl rfl p1 dX1_mixOf_13 rfl ?_
  refine z_iadd (q := 17) dX1_mixOf_16 rfl ?_
  refine z_istore_n (q := 18) (L' := [(0, 2, x0), (1, 0, x1), (2, 0, ((31 * ((31 * x1) + (h x0 1))) + (h x0 2)))]) dX1_mixOf_17 rfl (by decide) rfl ?_
  refine z_iconst (q := 19) dX1_mixOf_18 rfl ?_
  refine z_istore_n (q := 20) (L' := [(0, 2, x0), (1, 0, x1), (2, 0, ((31 * ((31 * x1) + (h x0 1))) + (h x0 2))), (3, 0, 0)]) dX1_mixOf_19 rfl (by decide) rfl ?_
  refine z_sub (L' := [(0, 2, x0), (2, 0, ((31 * ((31 * x1) + (h x0 1))) + (h x0 2))), (3, 0, 0)]) [0, 2, 3] rfl ?_
  exact u1 hl0
theorem b_X1_mixOf_20 {D : zD} {d : Nat} {G : zG} {h : zH} {Q : zO → zG → zH → Prop} {x0 x2 x3 : Int} (p1 : z_is G x0 3) (p2 : z_in x3) (p3 : z_in ((h x0 1) * (h x0 2))) (p4 : ¬ (((h x0 1) * (h x0 2)) ≤ x3) → 0 ≤ x3) (p5 : ¬ (((h x0 1) * (h x0 2)) ≤ x3) → x3 < 72)
    (u1 : ((h x0 1) * (h x0 2)) ≤ x3 → Q (.inl (some (0, x2))) G h)
    (u2 : ¬ (((h x0 1) * (h x0 2)) ≤ x3) → z_Y D M_X1_mixOf d 20 [(0, 2, x0), (2, 0, (z_ixor ((z_ixor x2 (z_lxor (h (x0 + 1) x3) (z_lushr (h (x0 + 1) x3) 32))) * 16777619) (z_iushr ((z_ixor x2 (z_lxor (h (x0 + 1) x3) (z_lushr (h (x0 + 1) x3) 32))) * 16777619) 13))), (3, 0, (x3 + 1))] [] G h Q) :
    z_Y D M_X1_mixOf d 20 [(0, 2, x0), (2, 0, x2), (3, 0, x3)] [] G h Q := by
  intro hl0
  refine z_iload_n (q := 21) 2 dX1_mixOf_20 rfl rfl ?_
  refine z_aload_n (q := 22) 0 dX1_mixOf_21 rfl rfl ?_
  refine z_gf (q := 25) (ki := 1) (v := (0, (h x0 1))) fX1_194 rfl rfl p1 dX1_mixOf_22 rfl ?_
  refine z_aload_n (q := 26) 0 dX1_mixOf_25 rfl rfl ?_
  refine z_gf (q := 29) (ki := 2) (v := (0, (h x0 2))) fX1_197 rfl rfl p1 dX1_mixOf_26 rfl ?_
  refine z_imul (q := 30) dX1_mixOf_29 rfl ?_
  refine z_icmp_ge (q := 33) (t := 69) p2 p3 dX1_mixOf_30 (by decide) rfl (fun c1 => ?_) (fun c1 => ?_)
  · refine z_iload_n (q := 70) 1 dX1_mixOf_69 rfl rfl ?_
    exact z_iret rfl dX1_mixOf_70 ⟨hl0, u1 c1⟩
  · refine z_aload_n (q := 34) 0 dX1_mixOf_33 rfl rfl ?_
    refine z_gf (q := 37) (ki := 0) (v := (2, (x0 + 1))) fX1_200 rfl (z_ldr rfl (hl0.tab p1)) p1 dX1_mixOf_34 rfl ?_
    refine z_iload_n (q := 38) 2 dX1_mixOf_37 rfl rfl ?_
    refine z_lale (q := 39) (v := (h (x0 + 1) x3)) (hl0.tat p1) (p4 c1) (p5 c1) rfl dX1_mixOf_38 rfl ?_
    refine z_lstore (q := 41) (L' := [(0, 2, x0), (2, 0, x2), (3, 0, x3), (4, 1, (h (x0 + 1) x3))]) dX1_mixOf_39 rfl (by decide) rfl ?_
    refine z_iload_n (q := 42) 1 dX1_mixOf_41 rfl rfl ?_
    refine z_lload (q := 44) 3 dX1_mixOf_42 rfl rfl ?_
    refine z_lload (q := 46) 3 dX1_mixOf_44 rfl rfl ?_
    refine z_bipush (q := 48) dX1_mixOf_46 rfl (by decide) ?_
    refine z_r_lushr (q := 49) dX1_mixOf_48 rfl ?_
    refine z_r_lxor (q := 50) dX1_mixOf_49 rfl ?_
    refine z_l2i (q := 51) dX1_mixOf_50 rfl ?_
    refine z_r_ixor (q := 52) dX1_mixOf_51 rfl ?_
    refine z_ldc (q := 54) (n := 16777619) k912 (by decide) dX1_mixOf_52 rfl ?_
    refine z_imul (q := 55) dX1_mixOf_54 rfl ?_
    refine z_istore_n (q := 56) (L' := [(0, 2, x0), (2, 0, ((z_ixor x2 (z_lxor (h (x0 + 1) x3) (z_lushr (h (x0 + 1) x3) 32))) * 16777619)), (3, 0, x3), (4, 1, (h (x0 + 1) x3))]) dX1_mixOf_55 rfl (by decide) rfl ?_
    refine z_iload_n (q := 57) 1 dX1_mixOf_56 rfl rfl ?_
    refine z_iload_n (q := 58) 1 dX1_mixOf_57 rfl rfl ?_
    refine z_bipush (q := 60) dX1_mixOf_58 rfl (by decide) ?_
    refine z_r_iushr (q := 61) dX1_mixOf_60 rfl ?_
    refine z_r_ixor (q := 62) dX1_mixOf_61 rfl ?_
    refine z_istore_n (q := 63) (L' := [(0, 2, x0), (2, 0, (z_ixor ((z_ixor x2 (z_lxor (h (x0 + 1) x3) (z_lushr (h (x0 + 1) x3) 32))) * 16777619) (z_iushr ((z_ixor x2 (z_lxor (h (x0 + 1) x3) (z_lushr (h (x0 + 1) x3) 32))) * 16777619) 13))), (3, 0, x3), (4, 1, (h (x0 + 1) x3))]) dX1_mixOf_62 rfl (by decide) rfl ?_
    refine z_iinc (q := 66) (L' := [(0, 2, x0), (2, 0, (z_ixor ((z_ixor x2 (z_lxor (h (x0 + 1) x3) (z_lushr (h (x0 + 1) x3) 32))) * 16777619) (z_iushr ((z_ixor x2 (z_lxor (h (x0 + 1) x3) (z_lushr (h (x0 + 1) x3) 32))) * 16777619) 13))), (3, 0, (x3 + 1)), (4, 1, (h (x0 + 1) x3))]) 2 dX1_mixOf_63 rfl rfl (by decide) rfl ?_
    refine z_goto (t := 20) dX1_mixOf_66 (by decide) ?_
    refine z_sub (L' := [(0, 2, x0), (2, 0, (z_ixor ((z_ixor x2 (z_lxor (h (x0 + 1) x3) (z_lushr (h (x0 + 1) x3) 32))) * 16777619) (z_iushr ((z_ixor x2 (z_lxor (h (x0 + 1) x3) (z_lushr (h (x0 + 1) x3) 32))) * 16777619) 13))), (3, 0, (x3 + 1))]) [0, 1, 2] rfl ?_
    exact u2 c1 hl0
theorem b_X1_mixOfMade_0 {D : zD} {d : Nat} {G : zG} {h : zH} {Q : zO → zG → zH → Prop}
    (u1 : z_Ki D M_X1_mixOf d [(2, 38), (0, 1)] G h (fun r G' h' => z_Y D M_X1_mixOfMade d 12 [] [(0, r), (2, 40)] G' h' Q)) :
    z_Y D M_X1_mixOfMade d 0 [(0, 2, 33)] [] G h Q := by
  intro hl0
  refine z_aload_n (q := 1) 0 dX1_mixOfMade_0 rfl rfl ?_
  refine z_gf (q := 4) (ki := 4) (v := (2, 40)) fX1_24 rfl (z_ldr rfl (hl0.ref 37 rfl)) (hl0.i 33 (by decide) rfl) dX1_mixOfMade_1 rfl ?_
  refine z_aload_n (q := 5) 0 dX1_mixOfMade_4 rfl rfl ?_
  refine z_gf (q := 8) (ki := 3) (v := (2, 38)) fX1_21 rfl (z_ldr rfl (hl0.ref 35 rfl)) (hl0.i 33 (by decide) rfl) dX1_mixOfMade_5 rfl ?_
  refine z_iconst (q := 9) dX1_mixOfMade_8 rfl ?_
  refine z_sub (L' := []) [] rfl ?_
  exact z_goS (q := 12) (av := [(2, 38), (0, 1)]) (rest := [(2, 40)]) z_toi hl0 (u1) mo_X1_mixOf np_X1_mixOf k909 k910 rfl (nle rfl) dX1_mixOfMade_9 rfl
theorem b_X1_mixOfMade_12 {D : zD} {d : Nat} {G : zG} {h : zH} {Q : zO → zG → zH → Prop} {s1 : Int}
    (u1 : z_Ki D M_X1_mixOf d [(2, 40), (0, s1)] G h (fun r G' h' => z_Y D M_X1_mixOfMade d 15 [] [(0, r)] G' h' Q)) :
    z_Y D M_X1_mixOfMade d 12 [] [(0, s1), (2, 40)] G h Q := by
  intro hl0
  exact z_goS (q := 15) (av := [(2, 40), (0, s1)]) (rest := []) z_toi hl0 (u1) mo_X1_mixOf np_X1_mixOf k909 k910 rfl (nle rfl) dX1_mixOfMade_12 rfl
theorem b_X1_mixOfMade_15 {D : zD} {d : Nat} {G : zG} {h : zH} {Q : zO → zG → zH → Prop} {s0 : Int}
    (u1 : Q (.inl (some (0, (z_ixor s0 (z_iushr s0 15))))) G h) :
    z_Y D M_X1_mixOfMade d 15 [] [(0, s0)] G h Q := by
  intro hl0
  refine z_istore_n (q := 16) (L' := [(1, 0, s0)]) dX1_mixOfMade_15 rfl (by decide) rfl ?_
  refine z_iload_n (q := 17) 0 dX1_mixOfMade_16 rfl rfl ?_
  refine z_iload_n (q := 18) 0 dX1_mixOfMade_17 rfl rfl ?_
  refine z_bipush (q := 20) dX1_mixOfMade_18 rfl (by decide) ?_
  refine z_r_iushr (q := 21) dX1_mixOfMade_20 rfl ?_
  refine z_r_ixor (q := 22) dX1_mixOfMade_21 rfl ?_
  exact z_iret rfl dX1_mixOfMade_22 ⟨hl0, u1⟩
theorem b_X1_slotOf_0 {D : zD} {d : Nat} {G : zG} {h : zH} {Q : zO → zG → zH → Prop} {x1 : Int}
    (u1 : z_Y D M_X1_slotOf d 8 [(0, 2, 33), (1, 0, x1), (2, 0, (z_iand x1 4095)), (3, 0, 0)] [] G h Q) :
    z_Y D M_X1_slotOf d 0 [(0, 2, 33), (1, 0, x1)] [] G h Q := by
  intro hl0
  refine z_iload_n (q := 1) 1 dX1_slotOf_0 rfl rfl ?_
  refine z_sipush (q := 4) dX1_slotOf_1 rfl (by decide) ?_
  refine z_r_iand (q := 5) dX1_slotOf_4 rfl ?_
  refine z_istore_n (q := 6) (L' := [(0, 2, 33), (1, 0, x1), (2, 0, (z_iand x1 4095))]) dX1_slotOf_5 rfl (by decide) rfl ?_
  refine z_iconst (q := 7) dX1_slotOf_6 rfl ?_
  refine z_istore_n (q := 8) (L' := [(0, 2, 33), (1, 0, x1), (2, 0, (z_iand x1 4095)), (3, 0, 0)]) dX1_slotOf_7 rfl (by decide) rfl ?_
  exact u1 hl0
theorem b_X1_slotOf_8 {D : zD} {d : Nat} {G : zG} {h : zH} {Q : zO → zG → zH → Prop} {x1 x2 x3 : Int} (p1 : z_in x3) (p2 : ¬ (4096 ≤ x3) → 0 ≤ x2) (p3 : ¬ (4096 ≤ x3) → x2 < 4096) (p4 : ¬ (4096 ≤ x3) → z_in (h 49 x2)) (p5 : ¬ (4096 ≤ x3) → ¬ ((h 49 x2) = 0) → 0 ≤ ((h 49 x2) - 1)) (p6 : ¬ (4096 ≤ x3) → ¬ ((h 49 x2) = 0) → ((h 49 x2) - 1) < 1500) (p7 : ¬ (4096 ≤ x3) → ¬ ((h 49 x2) = 0) → z_is G (h 48 ((h 49 x2) - 1)) 1) (p8 : ¬ (4096 ≤ x3) → ¬ ((h 49 x2) = 0) → z_in (h (h 48 ((h 49 x2) - 1)) 5)) (p9 : ¬ (4096 ≤ x3) → ¬ ((h 49 x2) = 0) → z_in x1)
    (u1 : 4096 ≤ x3 → Q (.inl (some (0, x2))) G h)
    (u2 : ¬ (4096 ≤ x3) → (h 49 x2) = 0 → Q (.inl (some (0, x2))) G h)
    (u3 : ¬ (4096 ≤ x3) → ¬ ((h 49 x2) = 0) → ¬ (h (h 48 ((h 49 x2) - 1)) 5) = x1 → z_Y D M_X1_slotOf d 66 [(0, 2, 33), (1, 0, x1), (2, 0, x2), (3, 0, x3)] [] G h Q)
    (u4 : ¬ (4096 ≤ x3) → ¬ ((h 49 x2) = 0) → ¬ (¬ (h (h 48 ((h 49 x2) - 1)) 5) = x1) → z_Ki D M_X2_holds d [(2, (h 48 ((h 49 x2) - 1))), (2, 38), (2, 40)] G h (fun r G' h' => z_Y D M_X1_slotOf d 61 [(0, 2, 33), (1, 0, x1), (2, 0, x2), (3, 0, x3)] [(0, r)] G' h' Q)) :
    z_Y D M_X1_slotOf d 8 [(0, 2, 33), (1, 0, x1), (2, 0, x2), (3, 0, x3)] [] G h Q := by
  intro hl0
  refine z_iload_n (q := 9) 3 dX1_slotOf_8 rfl rfl ?_
  refine z_sipush (q := 12) dX1_slotOf_9 rfl (by decide) ?_
  refine z_icmp_ge (q := 15) (t := 80) p1 ⟨by decide, by decide⟩ dX1_slotOf_12 (by decide) rfl (fun c1 => ?_) (fun c1 => ?_)
  · refine z_iload_n (q := 81) 2 dX1_slotOf_80 rfl rfl ?_
    exact z_iret rfl dX1_slotOf_81 ⟨hl0, u1 c1⟩
  · refine z_aload_n (q := 16) 0 dX1_slotOf_15 rfl rfl ?_
    refine z_gf (q := 19) (ki := 10) (v := (2, 49)) fX1_46 rfl (z_ldr rfl (hl0.ref 45 rfl)) (hl0.i 33 (by decide) rfl) dX1_slotOf_16 rfl ?_
    refine z_iload_n (q := 20) 2 dX1_slotOf_19 rfl rfl ?_
    refine z_iale (q := 21) (v := (h 49 x2)) (hl0.a 49 (by decide) rfl) (p2 c1) (p3 c1) rfl dX1_slotOf_20 rfl ?_
    refine z_if_eq (q := 24) (t := 80) (p4 c1) dX1_slotOf_21 (by decide) rfl (fun c2 => ?_) (fun c2 => ?_)
    · refine z_iload_n (q := 81) 2 dX1_slotOf_80 rfl rfl ?_
      exact z_iret rfl dX1_slotOf_81 ⟨hl0, u2 c1 c2⟩
    · refine z_aload_n (q := 25) 0 dX1_slotOf_24 rfl rfl ?_
      refine z_gf (q := 28) (ki := 9) (v := (2, 48)) fX1_42 rfl (z_ldr rfl (hl0.ref 44 rfl)) (hl0.i 33 (by decide) rfl) dX1_slotOf_25 rfl ?_
      refine z_aload_n (q := 29) 0 dX1_slotOf_28 rfl rfl ?_
      refine z_gf (q := 32) (ki := 10) (v := (2, 49)) fX1_46 rfl (z_ldr rfl (hl0.ref 45 rfl)) (hl0.i 33 (by decide) rfl) dX1_slotOf_29 rfl ?_
      refine z_iload_n (q := 33) 2 dX1_slotOf_32 rfl rfl ?_
      refine z_iale (q := 34) (v := (h 49 x2)) (hl0.a 49 (by decide) rfl) (p2 c1) (p3 c1) rfl dX1_slotOf_33 rfl ?_
      refine z_iconst (q := 35) dX1_slotOf_34 rfl ?_
      refine z_isub (q := 36) dX1_slotOf_35 rfl ?_
      refine z_aale (q := 37) 56 (by decide) (by decide) (hl0.a 48 (by decide) rfl) (p5 c1 c2) (p6 c1 c2) (v := (h 48 ((h 49 x2) - 1))) rfl dX1_slotOf_36 rfl ?_
      refine z_astore (q := 39) (L' := [(0, 2, 33), (1, 0, x1), (2, 0, x2), (3, 0, x3), (4, 2, (h 48 ((h 49 x2) - 1)))]) dX1_slotOf_37 rfl (by decide) rfl ?_
      refine z_aload (q := 41) 4 dX1_slotOf_39 rfl rfl ?_
      refine z_gf (q := 44) (ki := 5) (v := (0, (h (h 48 ((h 49 x2) - 1)) 5))) fX1_183 rfl rfl (p7 c1 c2) dX1_slotOf_41 rfl ?_
      refine z_iload_n (q := 45) 1 dX1_slotOf_44 rfl rfl ?_
      refine z_icmp_ne (q := 48) (t := 66) (p8 c1 c2) (p9 c1 c2) dX1_slotOf_45 (by decide) rfl (fun c3 => ?_) (fun c3 => ?_)
      · refine z_sub (L' := [(0, 2, 33), (1, 0, x1), (2, 0, x2), (3, 0, x3)]) [0, 1, 2, 3] rfl ?_
        exact u3 c1 c2 c3 hl0
      · refine z_aload (q := 50) 4 dX1_slotOf_48 rfl rfl ?_
        refine z_aload_n (q := 51) 0 dX1_slotOf_50 rfl rfl ?_
        refine z_gf (q := 54) (ki := 3) (v := (2, 38)) fX1_21 rfl (z_ldr rfl (hl0.ref 35 rfl)) (hl0.i 33 (by decide) rfl) dX1_slotOf_51 rfl ?_
        refine z_aload_n (q := 55) 0 dX1_slotOf_54 rfl rfl ?_
        refine z_gf (q := 58) (ki := 4) (v := (2, 40)) fX1_24 rfl (z_ldr rfl (hl0.ref 37 rfl)) (hl0.i 33 (by decide) rfl) dX1_slotOf_55 rfl ?_
        refine z_sub (L' := [(0, 2, 33), (1, 0, x1), (2, 0, x2), (3, 0, x3)]) [0, 1, 2, 3] rfl ?_
        exact z_goV (q := 61) (av := [(2, 38), (2, 40)]) (rest := []) cb1 (p7 c1 c2) z_toi hl0 (u4 c1 c2 c3) mo_X2_holds np_X2_holds k917 k918 k919 rfl (nle rfl) dX1_slotOf_58 rfl
theorem b_X1_slotOf_66 {D : zD} {d : Nat} {G : zG} {h : zH} {Q : zO → zG → zH → Prop} {x1 x2 x3 : Int}
    (u1 : z_Y D M_X1_slotOf d 8 [(0, 2, 33), (1, 0, x1), (2, 0, (z_iand (x2 + 1) 4095)), (3, 0, (x3 + 1))] [] G h Q) :
    z_Y D M_X1_slotOf d 66 [(0, 2, 33), (1, 0, x1), (2, 0, x2), (3, 0, x3)] [] G h Q := by
  intro hl0
  refine z_iload_n (q := 67) 2 dX1_slotOf_66 rfl rfl ?_
  refine z_iconst (q := 68) dX1_slotOf_67 rfl ?_
  refine z_iadd (q := 69) dX1_slotOf_68 rfl ?_
  refine z_sipush (q := 72) dX1_slotOf_69 rfl (by decide) ?_
  refine z_r_iand (q := 73) dX1_slotOf_72 rfl ?_
  refine z_istore_n (q := 74) (L' := [(0, 2, 33), (1, 0, x1), (2, 0, (z_iand (x2 + 1) 4095)), (3, 0, x3)]) dX1_slotOf_73 rfl (by decide) rfl ?_
  refine z_iinc (q := 77) (L' := [(0, 2, 33), (1, 0, x1), (2, 0, (z_iand (x2 + 1) 4095)), (3, 0, (x3 + 1))]) 3 dX1_slotOf_74 rfl rfl (by decide) rfl ?_
  refine z_goto (t := 8) dX1_slotOf_77 (by decide) ?_
  exact u1 hl0
theorem b_X1_slotOf_61 {D : zD} {d : Nat} {G : zG} {h : zH} {Q : zO → zG → zH → Prop} {s0 x1 x2 x3 : Int} (p1 : z_in s0)
    (u1 : s0 = 0 → z_Y D M_X1_slotOf d 66 [(0, 2, 33), (1, 0, x1), (2, 0, x2), (3, 0, x3)] [] G h Q)
    (u2 : ¬ (s0 = 0) → Q (.inl (some (0, x2))) G h) :
    z_Y D M_X1_slotOf d 61 [(0, 2, 33), (1, 0, x1), (2, 0, x2), (3, 0, x3)] [(0, s0)] G h Q := by
  intro hl0
  refine z_if_eq (q := 64) (t := 66) p1 dX1_slotOf_61 (by decide) rfl (fun c1 => ?_) (fun c1 => ?_)
  · exact u1 c1 hl0
  · refine z_iload_n (q := 65) 2 dX1_slotOf_64 rfl rfl ?_
    exact z_iret rfl dX1_slotOf_65 ⟨hl0, u2 c1⟩
theorem b_X1_addEdge_0 {D : zD} {d : Nat} {G : zG} {h : zH} {Q : zO → zG → zH → Prop} {x1 x2 : Int} (p1 : z_is G (h 33 11) 50) (p2 : z_in (h 33 12)) (p3 : z_in (G.2.2.2 (h 33 11)))
    (u1 : (h 33 12) < (G.2.2.2 (h 33 11)) → z_Y D M_X1_addEdge d 30 [(0, 2, 33), (1, 0, x1), (2, 0, x2)] [] G h Q)
    (u2 : ¬ ((h 33 12) < (G.2.2.2 (h 33 11))) → z_Ka D M_J7_copyOf_59c91 d [(2, (h 33 11)), (0, (2 * (G.2.2.2 (h 33 11))))] G h (fun r G' h' => z_Y D M_X1_addEdge d 27 [(0, 2, 33), (1, 0, x1), (2, 0, x2)] [(2, r), (2, 33)] G' h' Q)) :
    z_Y D M_X1_addEdge d 0 [(0, 2, 33), (1, 0, x1), (2, 0, x2)] [] G h Q := by
  intro hl0
  refine z_aload_n (q := 1) 0 dX1_addEdge_0 rfl rfl ?_
  refine z_gf (q := 4) (ki := 12) (v := (0, (h 33 12))) fX1_53 rfl rfl (hl0.i 33 (by decide) rfl) dX1_addEdge_1 rfl ?_
  refine z_aload_n (q := 5) 0 dX1_addEdge_4 rfl rfl ?_
  refine z_gf (q := 8) (ki := 11) (v := (2, (h 33 11))) fX1_50 rfl rfl (hl0.i 33 (by decide) rfl) dX1_addEdge_5 rfl ?_
  refine z_alen (q := 9) 50 (by decide) (by decide) (z_ati p1) dX1_addEdge_8 rfl ?_
  refine z_icmp_lt (q := 12) (t := 30) p2 p3 dX1_addEdge_9 (by decide) rfl (fun c1 => ?_) (fun c1 => ?_)
  · exact u1 c1 hl0
  · refine z_aload_n (q := 13) 0 dX1_addEdge_12 rfl rfl ?_
    refine z_aload_n (q := 14) 0 dX1_addEdge_13 rfl rfl ?_
    refine z_gf (q := 17) (ki := 11) (v := (2, (h 33 11))) fX1_50 rfl rfl (hl0.i 33 (by decide) rfl) dX1_addEdge_14 rfl ?_
    refine z_iconst (q := 18) dX1_addEdge_17 rfl ?_
    refine z_aload_n (q := 19) 0 dX1_addEdge_18 rfl rfl ?_
    refine z_gf (q := 22) (ki := 11) (v := (2, (h 33 11))) fX1_50 rfl rfl (hl0.i 33 (by decide) rfl) dX1_addEdge_19 rfl ?_
    refine z_alen (q := 23) 50 (by decide) (by decide) (z_ati p1) dX1_addEdge_22 rfl ?_
    refine z_imul (q := 24) dX1_addEdge_23 rfl ?_
    exact z_goS (q := 27) (av := [(2, (h 33 11)), (0, (2 * (G.2.2.2 (h 33 11))))]) (rest := [(2, 33)]) z_toa hl0 (u2 c1) mo_J7_copyOf_59c91 np_J7_copyOf_59c91 k1034 k1035 rfl (nle rfl) dX1_addEdge_24 rfl
theorem b_X1_addEdge_30 {D : zD} {d : Nat} {G : zG} {h : zH} {Q : zO → zG → zH → Prop} {x1 x2 : Int} (p1 : z_is G (h 33 11) 50) (p2 : 0 ≤ (h 33 12)) (p3 : (h 33 12) < (G.2.2.2 (h 33 11)))
    (u1 : Q (.inl none) G (z_wr (z_wr h (h 33 11) (h 33 12) (z_ior (z_ishl x2 10) x1)) 33 12 ((h 33 12) + 1))) :
    z_Y D M_X1_addEdge d 30 [(0, 2, 33), (1, 0, x1), (2, 0, x2)] [] G h Q := by
  intro hl0
  refine z_aload_n (q := 31) 0 dX1_addEdge_30 rfl rfl ?_
  refine z_gf (q := 34) (ki := 11) (v := (2, (h 33 11))) fX1_50 rfl rfl (hl0.i 33 (by decide) rfl) dX1_addEdge_31 rfl ?_
  refine z_aload_n (q := 35) 0 dX1_addEdge_34 rfl rfl ?_
  refine z_gf (q := 38) (ki := 12) (v := (0, (h 33 12))) fX1_53 rfl rfl (hl0.i 33 (by decide) rfl) dX1_addEdge_35 rfl ?_
  refine z_iload_n (q := 39) 2 dX1_addEdge_38 rfl rfl ?_
  refine z_bipush (q := 41) dX1_addEdge_39 rfl (by decide) ?_
  refine z_r_ishl (q := 42) dX1_addEdge_41 rfl ?_
  refine z_iload_n (q := 43) 1 dX1_addEdge_42 rfl rfl ?_
  refine z_r_ior (q := 44) dX1_addEdge_43 rfl ?_
  refine z_isn (q := 45) p1 rfl p2 p3 dX1_addEdge_44 rfl ?_
  have hl1 := hl0.wr (v := (z_ior (z_ishl x2 10) x1)) p1 (i := (h 33 12)) rfl
  refine z_aload_n (q := 46) 0 dX1_addEdge_45 rfl rfl ?_
  refine z_dup (q := 47) (by decide) dX1_addEdge_46 rfl ?_
  refine z_gf (q := 50) (ki := 12) (v := (0, (h 33 12))) fX1_53 rfl (z_ldi rfl (w_na (z_isne (hl1.i 33 (by decide) rfl) p1 (by decide)))) (hl1.i 33 (by decide) rfl) dX1_addEdge_47 rfl ?_
  refine z_iconst (q := 51) dX1_addEdge_50 rfl ?_
  refine z_iadd (q := 52) dX1_addEdge_51 rfl ?_
  refine z_pf (q := 55) (ki := 12) fX1_53 rfl (z_sv0 rfl) (hl1.i 33 (by decide) rfl) dX1_addEdge_52 rfl ?_
  have hl2 := hl1.wr (v := ((h 33 12) + 1)) (hl1.i 33 (by decide) rfl) (i := 12) (by decide)
  exact z_vret rfl dX1_addEdge_55 ⟨hl2, u1⟩
theorem b_X1_addEdge_27 {D : zD} {d : Nat} {G : zG} {h : zH} {Q : zO → zG → zH → Prop} {s1 x1 x2 : Int}
    (u1 : z_Y D M_X1_addEdge d 30 [(0, 2, 33), (1, 0, x1), (2, 0, x2)] [] G (z_wr h 33 11 s1) Q) :
    z_Y D M_X1_addEdge d 27 [(0, 2, 33), (1, 0, x1), (2, 0, x2)] [(2, s1), (2, 33)] G h Q := by
  intro hl0
  refine z_pf (q := 30) (ki := 11) fX1_50 rfl (z_sv2 rfl) (hl0.i 33 (by decide) rfl) dX1_addEdge_27 rfl ?_
  have hl1 := hl0.wr (v := s1) (hl0.i 33 (by decide) rfl) (i := 11) (by decide)
  exact u1 hl1
theorem b_X1_addState_0 {D : zD} {d : Nat} {G : zG} {h : zH} {Q : zO → zG → zH → Prop} {x1 x2 : Int} (p1 : z_in (h 33 14)) (p2 : (h 33 14) < 1500 → 0 ≤ (h 33 14)) (p3 : (h 33 14) < 1500 → (h 33 14) < 1500)
    (u1 : (h 33 14) < 1500 → ¬ (h 48 (h 33 14)) = -1 → z_Y D M_X1_addState d 40 [(0, 2, 33), (1, 0, x1), (2, 0, x2)] [] G h Q)
    (u2 : (h 33 14) < 1500 → (h 48 (h 33 14)) = -1 → z_Y D M_X1_addState d 35 [(0, 2, 33), (1, 0, x1), (2, 0, x2)] [(2, (G.1 : Int)), (0, (h 33 14)), (2, 48)] (z_al G 1 10) (z_nw h G.1 (fun j => z_dfv (z_ty 1 j.toNat))) Q)
    (u3 : ¬ ((h 33 14) < 1500) → Q (.inl (some (0, 0))) G h) :
    z_Y D M_X1_addState d 0 [(0, 2, 33), (1, 0, x1), (2, 0, x2)] [] G h Q := by
  intro hl0
  refine z_aload_n (q := 1) 0 dX1_addState_0 rfl rfl ?_
  refine z_gf (q := 4) (ki := 14) (v := (0, (h 33 14))) fX1_64 rfl rfl (hl0.i 33 (by decide) rfl) dX1_addState_1 rfl ?_
  refine z_sipush (q := 7) dX1_addState_4 rfl (by decide) ?_
  refine z_icmp_lt (q := 10) (t := 12) p1 ⟨by decide, by decide⟩ dX1_addState_7 (by decide) rfl (fun c1 => ?_) (fun c1 => ?_)
  · refine z_aload_n (q := 13) 0 dX1_addState_12 rfl rfl ?_
    refine z_gf (q := 16) (ki := 9) (v := (2, 48)) fX1_42 rfl (z_ldr rfl (hl0.ref 44 rfl)) (hl0.i 33 (by decide) rfl) dX1_addState_13 rfl ?_
    refine z_aload_n (q := 17) 0 dX1_addState_16 rfl rfl ?_
    refine z_gf (q := 20) (ki := 14) (v := (0, (h 33 14))) fX1_64 rfl rfl (hl0.i 33 (by decide) rfl) dX1_addState_17 rfl ?_
    refine z_aale (q := 21) 56 (by decide) (by decide) (hl0.a 48 (by decide) rfl) (p2 c1) (p3 c1) (v := (h 48 (h 33 14))) rfl dX1_addState_20 rfl ?_
    refine z_ifnonnull (q := 24) (t := 40) dX1_addState_21 (by decide) rfl (fun c2 => ?_) (fun c2 => ?_)
    · exact u1 c1 c2 hl0
    · refine z_aload_n (q := 25) 0 dX1_addState_24 rfl rfl ?_
      refine z_gf (q := 28) (ki := 9) (v := (2, 48)) fX1_42 rfl (z_ldr rfl (hl0.ref 44 rfl)) (hl0.i 33 (by decide) rfl) dX1_addState_25 rfl ?_
      refine z_aload_n (q := 29) 0 dX1_addState_28 rfl rfl ?_
      refine z_gf (q := 32) (ki := 14) (v := (0, (h 33 14))) fX1_64 rfl rfl (hl0.i 33 (by decide) rfl) dX1_addState_29 rfl ?_
      refine z_new (q := 35) cb1 k314 k924 k120 dX1_addState_32 rfl ?_
      exact u2 c1 c2 (hl0.al ⟨by decide, by decide⟩)
  · refine z_iconst (q := 11) dX1_addState_10 rfl ?_
    exact z_bret rfl (by decide) dX1_addState_11 ⟨hl0, u3 c1⟩
theorem b_X1_addState_40 {D : zD} {d : Nat} {G : zG} {h : zH} {Q : zO → zG → zH → Prop} {x1 x2 : Int} (p1 : 0 ≤ (h 33 14)) (p2 : (h 33 14) < 1500) (p3 : z_is G (h 48 (h 33 14)) 1)
    (u1 : z_Kv D M_X2_hold d [(2, (h 48 (h 33 14))), (2, 38), (2, 40), (0, x2)] G h (fun G' h' => z_Y D M_X1_addState d 63 [(0, 2, 33), (1, 0, x1), (3, 2, (h 48 (h 33 14)))] [] G' h' Q)) :
    z_Y D M_X1_addState d 40 [(0, 2, 33), (1, 0, x1), (2, 0, x2)] [] G h Q := by
  intro hl0
  refine z_aload_n (q := 41) 0 dX1_addState_40 rfl rfl ?_
  refine z_gf (q := 44) (ki := 9) (v := (2, 48)) fX1_42 rfl (z_ldr rfl (hl0.ref 44 rfl)) (hl0.i 33 (by decide) rfl) dX1_addState_41 rfl ?_
  refine z_aload_n (q := 45) 0 dX1_addState_44 rfl rfl ?_
  refine z_gf (q := 48) (ki := 14) (v := (0, (h 33 14))) fX1_64 rfl rfl (hl0.i 33 (by decide) rfl) dX1_addState_45 rfl ?_
  refine z_aale (q := 49) 56 (by decide) (by decide) (hl0.a 48 (by decide) rfl) p1 p2 (v := (h 48 (h 33 14))) rfl dX1_addState_48 rfl ?_
  refine z_astore_n (q := 50) (L' := [(0, 2, 33), (1, 0, x1), (2, 0, x2), (3, 2, (h 48 (h 33 14)))]) dX1_addState_49 rfl (by decide) rfl ?_
  refine z_aload_n (q := 51) 3 dX1_addState_50 rfl rfl ?_
  refine z_aload_n (q := 52) 0 dX1_addState_51 rfl rfl ?_
  refine z_gf (q := 55) (ki := 3) (v := (2, 38)) fX1_21 rfl (z_ldr rfl (hl0.ref 35 rfl)) (hl0.i 33 (by decide) rfl) dX1_addState_52 rfl ?_
  refine z_aload_n (q := 56) 0 dX1_addState_55 rfl rfl ?_
  refine z_gf (q := 59) (ki := 4) (v := (2, 40)) fX1_24 rfl (z_ldr rfl (hl0.ref 37 rfl)) (hl0.i 33 (by decide) rfl) dX1_addState_56 rfl ?_
  refine z_iload_n (q := 60) 2 dX1_addState_59 rfl rfl ?_
  refine z_sub (L' := [(0, 2, 33), (1, 0, x1), (3, 2, (h 48 (h 33 14)))]) [0, 1, 3] rfl ?_
  exact z_goV (q := 63) (av := [(2, 38), (2, 40), (0, x2)]) (rest := []) cb1 p3 z_tov hl0 (u1) mo_X2_hold np_X2_hold k973 k974 k975 rfl (nle rfl) dX1_addState_60 rfl
theorem b_X1_addState_35 {D : zD} {d : Nat} {G : zG} {h : zH} {Q : zO → zG → zH → Prop} {s1 s2 x1 x2 : Int} (p1 : 0 ≤ s2)
    (u1 : z_Kv D M_X2_init d [(2, s2)] G h (fun G' h' => z_Y D M_X1_addState d 39 [(0, 2, 33), (1, 0, x1), (2, 0, x2)] [(2, s2), (0, s1), (2, 48)] G' h' Q)) :
    z_Y D M_X1_addState d 35 [(0, 2, 33), (1, 0, x1), (2, 0, x2)] [(2, s2), (0, s1), (2, 48)] G h Q := by
  intro hl0
  refine z_dup (q := 36) (by decide) dX1_addState_35 rfl ?_
  exact z_goIN (q := 39) (av := []) (rest := [(2, s2), (0, s1), (2, 48)]) p1 z_tov hl0 (u1) mo_X2_init np_X2_init rfl k932 k930 k931 rfl (nle rfl) dX1_addState_36 rfl
theorem b_X1_addState_63 {D : zD} {d : Nat} {G : zG} {h : zH} {Q : zO → zG → zH → Prop} {x1 x3 : Int} (p1 : 0 ≤ x1) (p2 : x1 < 4096)
    (u1 : z_Ki D M_X4_isLike d [(2, 38), (2, 42)] G (z_wr (z_wr h 33 14 ((h 33 14) + 1)) 49 x1 ((h 33 14) + 1)) (fun r G' h' => z_Y D M_X1_addState d 94 [(0, 2, 33), (3, 2, x3)] [(0, r)] G' h' Q)) :
    z_Y D M_X1_addState d 63 [(0, 2, 33), (1, 0, x1), (3, 2, x3)] [] G h Q := by
  intro hl0
  refine z_aload_n (q := 64) 0 dX1_addState_63 rfl rfl ?_
  refine z_dup (q := 65) (by decide) dX1_addState_64 rfl ?_
  refine z_gf (q := 68) (ki := 14) (v := (0, (h 33 14))) fX1_64 rfl rfl (hl0.i 33 (by decide) rfl) dX1_addState_65 rfl ?_
  refine z_iconst (q := 69) dX1_addState_68 rfl ?_
  refine z_iadd (q := 70) dX1_addState_69 rfl ?_
  refine z_pf (q := 73) (ki := 14) fX1_64 rfl (z_sv0 rfl) (hl0.i 33 (by decide) rfl) dX1_addState_70 rfl ?_
  have hl1 := hl0.wr (v := ((h 33 14) + 1)) (hl0.i 33 (by decide) rfl) (i := 14) (by decide)
  refine z_aload_n (q := 74) 0 dX1_addState_73 rfl rfl ?_
  refine z_gf (q := 77) (ki := 10) (v := (2, 49)) fX1_46 rfl (z_ldr rfl (hl1.ref 45 rfl)) (hl1.i 33 (by decide) rfl) dX1_addState_74 rfl ?_
  refine z_iload_n (q := 78) 1 dX1_addState_77 rfl rfl ?_
  refine z_aload_n (q := 79) 0 dX1_addState_78 rfl rfl ?_
  refine z_gf (q := 82) (ki := 14) (v := (0, ((h 33 14) + 1))) fX1_64 rfl (z_ldi rfl w_s) (hl1.i 33 (by decide) rfl) dX1_addState_79 rfl ?_
  refine z_isn (q := 83) (hl1.i 49 (by decide) rfl) (hl1.n 49 (by decide) rfl) p1 p2 dX1_addState_82 rfl ?_
  have hl2 := hl1.wr (v := ((h 33 14) + 1)) (hl1.i 49 (by decide) rfl) (i := x1) rfl
  refine z_aload_n (q := 84) 0 dX1_addState_83 rfl rfl ?_
  refine z_gf (q := 87) (ki := 3) (v := (2, 38)) fX1_21 rfl (z_ldr rfl (hl2.ref 35 rfl)) (hl2.i 33 (by decide) rfl) dX1_addState_84 rfl ?_
  refine z_aload_n (q := 88) 0 dX1_addState_87 rfl rfl ?_
  refine z_gf (q := 91) (ki := 5) (v := (2, 42)) fX1_27 rfl (z_ldr rfl (hl2.ref 39 rfl)) (hl2.i 33 (by decide) rfl) dX1_addState_88 rfl ?_
  refine z_sub (L' := [(0, 2, 33), (3, 2, x3)]) [0, 2] rfl ?_
  exact z_goV (q := 94) (av := [(2, 42)]) (rest := []) cb3 (hl2.i 38 (by decide) rfl) z_toi hl2 (u1) mo_X4_isLike np_X4_isLike k984 k716 k717 rfl (nle rfl) dX1_addState_91 rfl
theorem b_X1_addState_39 {D : zD} {d : Nat} {G : zG} {h : zH} {Q : zO → zG → zH → Prop} {s1 s2 x1 x2 : Int} (p1 : 0 ≤ s1) (p2 : s1 < 1500) (p3 : z_is G s2 1)
    (u1 : z_Y D M_X1_addState d 40 [(0, 2, 33), (1, 0, x1), (2, 0, x2)] [] G (z_wr h 48 s1 s2) Q) :
    z_Y D M_X1_addState d 39 [(0, 2, 33), (1, 0, x1), (2, 0, x2)] [(2, s2), (0, s1), (2, 48)] G h Q := by
  intro hl0
  refine z_asn (q := 40) 56 (by decide) (by decide) (hl0.i 48 (by decide) rfl) p3 (hl0.n 48 (by decide) rfl) p1 p2 dX1_addState_39 rfl ?_
  have hl1 := hl0.wr (v := s2) (hl0.i 48 (by decide) rfl) (i := s1) rfl
  exact u1 hl1
theorem b_X1_addState_94 {D : zD} {d : Nat} {G : zG} {h : zH} {Q : zO → zG → zH → Prop} {s0 x3 : Int} (p1 : z_in s0)
    (u1 : s0 = 0 → Q (.inl (some (0, 1))) G h)
    (u2 : ¬ (s0 = 0) → z_Ki D M_X4_isLike d [(2, 40), (2, 44)] G h (fun r G' h' => z_Y D M_X1_addState d 108 [(0, 2, 33), (3, 2, x3)] [(0, r)] G' h' Q)) :
    z_Y D M_X1_addState d 94 [(0, 2, 33), (3, 2, x3)] [(0, s0)] G h Q := by
  intro hl0
  refine z_if_eq (q := 97) (t := 126) p1 dX1_addState_94 (by decide) rfl (fun c1 => ?_) (fun c1 => ?_)
  · refine z_iconst (q := 127) dX1_addState_126 rfl ?_
    exact z_bret rfl (by decide) dX1_addState_127 ⟨hl0, u1 c1⟩
  · refine z_aload_n (q := 98) 0 dX1_addState_97 rfl rfl ?_
    refine z_gf (q := 101) (ki := 4) (v := (2, 40)) fX1_24 rfl (z_ldr rfl (hl0.ref 37 rfl)) (hl0.i 33 (by decide) rfl) dX1_addState_98 rfl ?_
    refine z_aload_n (q := 102) 0 dX1_addState_101 rfl rfl ?_
    refine z_gf (q := 105) (ki := 6) (v := (2, 44)) fX1_30 rfl (z_ldr rfl (hl0.ref 41 rfl)) (hl0.i 33 (by decide) rfl) dX1_addState_102 rfl ?_
    exact z_goV (q := 108) (av := [(2, 44)]) (rest := []) cb3 (hl0.i 40 (by decide) rfl) z_toi hl0 (u2 c1) mo_X4_isLike np_X4_isLike k984 k716 k717 rfl (nle rfl) dX1_addState_105 rfl
theorem b_X1_addState_108 {D : zD} {d : Nat} {G : zG} {h : zH} {Q : zO → zG → zH → Prop} {s0 x3 : Int} (p1 : z_in s0) (p2 : ¬ (s0 = 0) → z_is G x3 1)
    (u1 : s0 = 0 → Q (.inl (some (0, 1))) G h)
    (u2 : ¬ (s0 = 0) → Q (.inl (some (0, 1))) G (z_wr (z_wr h x3 9 1) 33 15 ((h 33 15) + 1))) :
    z_Y D M_X1_addState d 108 [(0, 2, 33), (3, 2, x3)] [(0, s0)] G h Q := by
  intro hl0
  refine z_if_eq (q := 111) (t := 126) p1 dX1_addState_108 (by decide) rfl (fun c1 => ?_) (fun c1 => ?_)
  · refine z_iconst (q := 127) dX1_addState_126 rfl ?_
    exact z_bret rfl (by decide) dX1_addState_127 ⟨hl0, u1 c1⟩
  · refine z_aload_n (q := 112) 1 dX1_addState_111 rfl rfl ?_
    refine z_iconst (q := 113) dX1_addState_112 rfl ?_
    refine z_pf (q := 116) (ki := 9) fX1_176 rfl (z_sv4 rfl (by decide)) (p2 c1) dX1_addState_113 rfl ?_
    have hl1 := hl0.wr (v := 1) (p2 c1) (i := 9) (by decide)
    refine z_aload_n (q := 117) 0 dX1_addState_116 rfl rfl ?_
    refine z_dup (q := 118) (by decide) dX1_addState_117 rfl ?_
    refine z_gf (q := 121) (ki := 15) (v := (0, (h 33 15))) fX1_67 rfl (z_ldi rfl (w_nj (by decide))) (hl1.i 33 (by decide) rfl) dX1_addState_118 rfl ?_
    refine z_iconst (q := 122) dX1_addState_121 rfl ?_
    refine z_iadd (q := 123) dX1_addState_122 rfl ?_
    refine z_pf (q := 126) (ki := 15) fX1_67 rfl (z_sv0 rfl) (hl1.i 33 (by decide) rfl) dX1_addState_123 rfl ?_
    have hl2 := hl1.wr (v := ((h 33 15) + 1)) (hl1.i 33 (by decide) rfl) (i := 15) (by decide)
    refine z_iconst (q := 127) dX1_addState_126 rfl ?_
    exact z_bret rfl (by decide) dX1_addState_127 ⟨hl2, u2 c1⟩
theorem b_X1_arrive_0 {D : zD} {d : Nat} {G : zG} {h : zH} {Q : zO → zG → zH → Prop} {x1 x2 x3 : Int}
    (u1 : z_Ki D M_X1_mixOfMade d [(2, 33)] G h (fun r G' h' => z_Y D M_X1_arrive d 4 [(0, 2, 33), (1, 2, x1), (2, 0, x2), (3, 0, x3)] [(0, r)] G' h' Q)) :
    z_Y D M_X1_arrive d 0 [(0, 2, 33), (1, 2, x1), (2, 0, x2), (3, 0, x3)] [] G h Q := by
  intro hl0
  refine z_aload_n (q := 1) 0 dX1_arrive_0 rfl rfl ?_
  exact z_goV (q := 4) (av := []) (rest := []) cb0 (hl0.i 33 (by decide) rfl) z_toi hl0 (u1) mo_X1_mixOfMade np_X1_mixOfMade k905 k907 k27 rfl (nle rfl) dX1_arrive_1 rfl
theorem b_X1_arrive_4 {D : zD} {d : Nat} {G : zG} {h : zH} {Q : zO → zG → zH → Prop} {s0 x1 x2 x3 : Int}
    (u1 : z_Ki D M_X1_slotOf d [(2, 33), (0, s0)] G h (fun r G' h' => z_Y D M_X1_arrive d 12 [(0, 2, 33), (1, 2, x1), (2, 0, x2), (3, 0, x3), (4, 0, s0)] [(0, r)] G' h' Q)) :
    z_Y D M_X1_arrive d 4 [(0, 2, 33), (1, 2, x1), (2, 0, x2), (3, 0, x3)] [(0, s0)] G h Q := by
  intro hl0
  refine z_istore (q := 6) (L' := [(0, 2, 33), (1, 2, x1), (2, 0, x2), (3, 0, x3), (4, 0, s0)]) dX1_arrive_4 rfl (by decide) rfl ?_
  refine z_aload_n (q := 7) 0 dX1_arrive_6 rfl rfl ?_
  refine z_iload (q := 9) 4 dX1_arrive_7 rfl rfl ?_
  exact z_goV (q := 12) (av := [(0, s0)]) (rest := []) cb0 (hl0.i 33 (by decide) rfl) z_toi hl0 (u1) mo_X1_slotOf np_X1_slotOf k913 k915 k28 rfl (nle rfl) dX1_arrive_9 rfl
theorem b_X1_arrive_12 {D : zD} {d : Nat} {G : zG} {h : zH} {Q : zO → zG → zH → Prop} {s0 x1 x2 x3 x4 : Int} (p1 : 0 ≤ s0) (p2 : s0 < 4096) (p3 : z_in (h 49 s0))
    (u1 : ¬ (h 49 s0) = 0 → z_Y D M_X1_arrive d 37 [(0, 2, 33), (1, 2, x1), (2, 0, x2), (3, 0, x3), (5, 0, s0)] [] G h Q)
    (u2 : ¬ (¬ (h 49 s0) = 0) → z_Ki D M_X1_addState d [(2, 33), (0, s0), (0, x4)] G h (fun r G' h' => z_Y D M_X1_arrive d 32 [(0, 2, 33), (1, 2, x1), (2, 0, x2), (3, 0, x3), (5, 0, s0)] [(0, r)] G' h' Q)) :
    z_Y D M_X1_arrive d 12 [(0, 2, 33), (1, 2, x1), (2, 0, x2), (3, 0, x3), (4, 0, x4)] [(0, s0)] G h Q := by
  intro hl0
  refine z_istore (q := 14) (L' := [(0, 2, 33), (1, 2, x1), (2, 0, x2), (3, 0, x3), (4, 0, x4), (5, 0, s0)]) dX1_arrive_12 rfl (by decide) rfl ?_
  refine z_aload_n (q := 15) 0 dX1_arrive_14 rfl rfl ?_
  refine z_gf (q := 18) (ki := 10) (v := (2, 49)) fX1_46 rfl (z_ldr rfl (hl0.ref 45 rfl)) (hl0.i 33 (by decide) rfl) dX1_arrive_15 rfl ?_
  refine z_iload (q := 20) 5 dX1_arrive_18 rfl rfl ?_
  refine z_iale (q := 21) (v := (h 49 s0)) (hl0.a 49 (by decide) rfl) p1 p2 rfl dX1_arrive_20 rfl ?_
  refine z_if_ne (q := 24) (t := 37) p3 dX1_arrive_21 (by decide) rfl (fun c1 => ?_) (fun c1 => ?_)
  · refine z_sub (L' := [(0, 2, 33), (1, 2, x1), (2, 0, x2), (3, 0, x3), (5, 0, s0)]) [0, 1, 2, 3, 5] rfl ?_
    exact u1 c1 hl0
  · refine z_aload_n (q := 25) 0 dX1_arrive_24 rfl rfl ?_
    refine z_iload (q := 27) 5 dX1_arrive_25 rfl rfl ?_
    refine z_iload (q := 29) 4 dX1_arrive_27 rfl rfl ?_
    refine z_sub (L' := [(0, 2, 33), (1, 2, x1), (2, 0, x2), (3, 0, x3), (5, 0, s0)]) [0, 1, 2, 3, 5] rfl ?_
    exact z_goV (q := 32) (av := [(0, s0), (0, x4)]) (rest := []) cb0 (hl0.i 33 (by decide) rfl) z_toi hl0 (u2 c1) mo_X1_addState np_X1_addState k926 k928 k30 rfl (nle rfl) dX1_arrive_29 rfl
theorem b_X1_arrive_37 {D : zD} {d : Nat} {G : zG} {h : zH} {Q : zO → zG → zH → Prop} {x1 x2 x3 x5 : Int} (hd : 1 ≤ d) (p1 : 0 ≤ x5) (p2 : x5 < 4096) (p3 : z_in ((h 49 x5) - 1)) (p4 : z_in x3) (p5 : ¬ (((h 49 x5) - 1) < x3) → 0 ≤ ((h 49 x5) - 1)) (p6 : ¬ (((h 49 x5) - 1) < x3) → ((h 49 x5) - 1) < 1500) (p7 : ¬ (((h 49 x5) - 1) < x3) → z_is G (h 48 ((h 49 x5) - 1)) 1) (p8 : ¬ (((h 49 x5) - 1) < x3) → z_is G x1 1) (p9 : ¬ (((h 49 x5) - 1) < x3) → z_in ((h (h 48 ((h 49 x5) - 1)) 6) + (h x1 6)))
    (u1 : ((h 49 x5) - 1) < x3 → Q (.inl (some (0, 1))) G h)
    (u2 : ¬ (((h 49 x5) - 1) < x3) → z_Kv D M_X1_addEdge d [(2, 33), (0, x2), (0, ((h 49 x5) - 1))] G (z_wr h (h 48 ((h 49 x5) - 1)) 6 (if ((h (h 48 ((h 49 x5) - 1)) 6) + (h x1 6)) < 1000000 then ((h (h 48 ((h 49 x5) - 1)) 6) + (h x1 6)) else 1000000)) (fun G' h' => z_Y D M_X1_arrive d 91 [] [] G' h' Q)) :
    z_Y D M_X1_arrive d 37 [(0, 2, 33), (1, 2, x1), (2, 0, x2), (3, 0, x3), (5, 0, x5)] [] G h Q := by
  intro hl0
  refine z_aload_n (q := 38) 0 dX1_arrive_37 rfl rfl ?_
  refine z_gf (q := 41) (ki := 10) (v := (2, 49)) fX1_46 rfl (z_ldr rfl (hl0.ref 45 rfl)) (hl0.i 33 (by decide) rfl) dX1_arrive_38 rfl ?_
  refine z_iload (q := 43) 4 dX1_arrive_41 rfl rfl ?_
  refine z_iale (q := 44) (v := (h 49 x5)) (hl0.a 49 (by decide) rfl) p1 p2 rfl dX1_arrive_43 rfl ?_
  refine z_iconst (q := 45) dX1_arrive_44 rfl ?_
  refine z_isub (q := 46) dX1_arrive_45 rfl ?_
  refine z_istore (q := 48) (L' := [(0, 2, 33), (1, 2, x1), (2, 0, x2), (3, 0, x3), (5, 0, x5), (6, 0, ((h 49 x5) - 1))]) dX1_arrive_46 rfl (by decide) rfl ?_
  refine z_iload (q := 50) 5 dX1_arrive_48 rfl rfl ?_
  refine z_iload_n (q := 51) 3 dX1_arrive_50 rfl rfl ?_
  refine z_icmp_lt (q := 54) (t := 91) p3 p4 dX1_arrive_51 (by decide) rfl (fun c1 => ?_) (fun c1 => ?_)
  · refine z_iconst (q := 92) dX1_arrive_91 rfl ?_
    exact z_bret rfl (by decide) dX1_arrive_92 ⟨hl0, u1 c1⟩
  · refine z_aload_n (q := 55) 0 dX1_arrive_54 rfl rfl ?_
    refine z_gf (q := 58) (ki := 9) (v := (2, 48)) fX1_42 rfl (z_ldr rfl (hl0.ref 44 rfl)) (hl0.i 33 (by decide) rfl) dX1_arrive_55 rfl ?_
    refine z_iload (q := 60) 5 dX1_arrive_58 rfl rfl ?_
    refine z_aale (q := 61) 56 (by decide) (by decide) (hl0.a 48 (by decide) rfl) (p5 c1) (p6 c1) (v := (h 48 ((h 49 x5) - 1))) rfl dX1_arrive_60 rfl ?_
    refine z_ldc (q := 63) (n := 1000000) k989 (by decide) dX1_arrive_61 rfl ?_
    refine z_aload_n (q := 64) 0 dX1_arrive_63 rfl rfl ?_
    refine z_gf (q := 67) (ki := 9) (v := (2, 48)) fX1_42 rfl (z_ldr rfl (hl0.ref 44 rfl)) (hl0.i 33 (by decide) rfl) dX1_arrive_64 rfl ?_
    refine z_iload (q := 69) 5 dX1_arrive_67 rfl rfl ?_
    refine z_aale (q := 70) 56 (by decide) (by decide) (hl0.a 48 (by decide) rfl) (p5 c1) (p6 c1) (v := (h 48 ((h 49 x5) - 1))) rfl dX1_arrive_69 rfl ?_
    refine z_gf (q := 73) (ki := 6) (v := (0, (h (h 48 ((h 49 x5) - 1)) 6))) fX1_114 rfl rfl (p7 c1) dX1_arrive_70 rfl ?_
    refine z_aload_n (q := 74) 1 dX1_arrive_73 rfl rfl ?_
    refine z_gf (q := 77) (ki := 6) (v := (0, (h x1 6))) fX1_114 rfl rfl (p8 c1) dX1_arrive_74 rfl ?_
    refine z_iadd (q := 78) dX1_arrive_77 rfl ?_
    refine z_min (q := 81) ⟨by decide, by decide⟩ (p9 c1) k990 k981 k117 k982 (by omega) (nle rfl) dX1_arrive_78 rfl ?_
    refine z_pf (q := 84) (ki := 6) fX1_114 rfl (z_sv0 rfl) (p7 c1) dX1_arrive_81 rfl ?_
    have hl1 := hl0.wr (v := (if ((h (h 48 ((h 49 x5) - 1)) 6) + (h x1 6)) < 1000000 then ((h (h 48 ((h 49 x5) - 1)) 6) + (h x1 6)) else 1000000)) (p7 c1) (i := 6) (by decide)
    refine z_aload_n (q := 85) 0 dX1_arrive_84 rfl rfl ?_
    refine z_iload_n (q := 86) 2 dX1_arrive_85 rfl rfl ?_
    refine z_iload (q := 88) 5 dX1_arrive_86 rfl rfl ?_
    refine z_sub (L' := []) [] rfl ?_
    exact z_goV (q := 91) (av := [(0, x2), (0, ((h 49 x5) - 1))]) (rest := []) cb0 (hl1.i 33 (by decide) rfl) z_tov hl1 (u2 c1) mo_X1_addEdge np_X1_addEdge k1030 k1032 k36 rfl (nle rfl) dX1_arrive_88 rfl
theorem b_X1_arrive_32 {D : zD} {d : Nat} {G : zG} {h : zH} {Q : zO → zG → zH → Prop} {s0 x1 x2 x3 x5 : Int} (p1 : z_in s0)
    (u1 : ¬ s0 = 0 → z_Y D M_X1_arrive d 37 [(0, 2, 33), (1, 2, x1), (2, 0, x2), (3, 0, x3), (5, 0, x5)] [] G h Q)
    (u2 : ¬ (¬ s0 = 0) → Q (.inl (some (0, 0))) G h) :
    z_Y D M_X1_arrive d 32 [(0, 2, 33), (1, 2, x1), (2, 0, x2), (3, 0, x3), (5, 0, x5)] [(0, s0)] G h Q := by
  intro hl0
  refine z_if_ne (q := 35) (t := 37) p1 dX1_arrive_32 (by decide) rfl (fun c1 => ?_) (fun c1 => ?_)
  · exact u1 c1 hl0
  · refine z_iconst (q := 36) dX1_arrive_35 rfl ?_
    exact z_bret rfl (by decide) dX1_arrive_36 ⟨hl0, u2 c1⟩
theorem b_X1_arrive_91 {D : zD} {d : Nat} {G : zG} {h : zH} {Q : zO → zG → zH → Prop}
    (u1 : Q (.inl (some (0, 1))) G h) :
    z_Y D M_X1_arrive d 91 [] [] G h Q := by
  intro hl0
  refine z_iconst (q := 92) dX1_arrive_91 rfl ?_
  exact z_bret rfl (by decide) dX1_arrive_92 ⟨hl0, u1⟩
theorem b_X1_begin_0 {D : zD} {d : Nat} {G : zG} {h : zH} {Q : zO → zG → zH → Prop} {x1 x2 x3 x4 : Int}
    (u1 : z_Kv D M_J7_fill_53178 d [(2, 49), (0, 0)] G h (fun G' h' => z_Y D M_X1_begin d 8 [(0, 2, 33), (1, 2, x1), (2, 2, x2), (3, 2, x3), (4, 2, x4)] [] G' h' Q)) :
    z_Y D M_X1_begin d 0 [(0, 2, 33), (1, 2, x1), (2, 2, x2), (3, 2, x3), (4, 2, x4)] [] G h Q := by
  intro hl0
  refine z_aload_n (q := 1) 0 dX1_begin_0 rfl rfl ?_
  refine z_gf (q := 4) (ki := 10) (v := (2, 49)) fX1_46 rfl (z_ldr rfl (hl0.ref 45 rfl)) (hl0.i 33 (by decide) rfl) dX1_begin_1 rfl ?_
  refine z_iconst (q := 5) dX1_begin_4 rfl ?_
  exact z_goS (q := 8) (av := [(2, 49), (0, 0)]) (rest := []) z_tov hl0 (u1) mo_J7_fill_53178 np_J7_fill_53178 k899 k816 rfl (nle rfl) dX1_begin_5 rfl
theorem b_X1_begin_8 {D : zD} {d : Nat} {G : zG} {h : zH} {Q : zO → zG → zH → Prop} {x1 x2 x3 x4 : Int}
    (u1 : z_Kv D M_X7_clear d [(2, 51)] G h (fun G' h' => z_Y D M_X1_begin d 15 [(0, 2, 33), (1, 2, x1), (2, 2, x2), (3, 2, x3), (4, 2, x4)] [] G' h' Q)) :
    z_Y D M_X1_begin d 8 [(0, 2, 33), (1, 2, x1), (2, 2, x2), (3, 2, x3), (4, 2, x4)] [] G h Q := by
  intro hl0
  refine z_aload_n (q := 9) 0 dX1_begin_8 rfl rfl ?_
  refine z_gf (q := 12) (ki := 13) (v := (2, 51)) fX1_60 rfl (z_ldr rfl (hl0.ref 46 rfl)) (hl0.i 33 (by decide) rfl) dX1_begin_9 rfl ?_
  exact z_goV (q := 15) (av := []) (rest := []) cb5 (hl0.i 51 (by decide) rfl) z_tov hl0 (u1) mo_X7_clear np_X7_clear k900 k901 k902 rfl (nle rfl) dX1_begin_12 rfl
theorem b_X1_begin_15 {D : zD} {d : Nat} {G : zG} {h : zH} {Q : zO → zG → zH → Prop} {x1 x2 x3 x4 : Int}
    (u1 : x3 = -1 → z_Y D M_X1_begin d 49 [(0, 2, 33), (1, 2, x1), (2, 2, x2), (3, 2, x3), (4, 2, x4)] [(2, 33)] G (z_wr (z_wr (z_wr (z_wr h 33 14 0) 33 12 0) 33 15 0) 33 16 0) Q)
    (u2 : ¬ x3 = -1 → x4 = -1 → z_Y D M_X1_begin d 49 [(0, 2, 33), (1, 2, x1), (2, 2, x2), (3, 2, x3), (4, 2, x4)] [(2, 33)] G (z_wr (z_wr (z_wr (z_wr h 33 14 0) 33 12 0) 33 15 0) 33 16 0) Q)
    (u3 : ¬ x3 = -1 → ¬ x4 = -1 → z_Y D M_X1_begin d 50 [(0, 2, 33), (1, 2, x1), (2, 2, x2), (3, 2, x3), (4, 2, x4)] [(0, 1), (2, 33)] G (z_wr (z_wr (z_wr (z_wr h 33 14 0) 33 12 0) 33 15 0) 33 16 0) Q) :
    z_Y D M_X1_begin d 15 [(0, 2, 33), (1, 2, x1), (2, 2, x2), (3, 2, x3), (4, 2, x4)] [] G h Q := by
  intro hl0
  refine z_aload_n (q := 16) 0 dX1_begin_15 rfl rfl ?_
  refine z_iconst (q := 17) dX1_begin_16 rfl ?_
  refine z_pf (q := 20) (ki := 14) fX1_64 rfl (z_sv0 rfl) (hl0.i 33 (by decide) rfl) dX1_begin_17 rfl ?_
  have hl1 := hl0.wr (v := 0) (hl0.i 33 (by decide) rfl) (i := 14) (by decide)
  refine z_aload_n (q := 21) 0 dX1_begin_20 rfl rfl ?_
  refine z_iconst (q := 22) dX1_begin_21 rfl ?_
  refine z_pf (q := 25) (ki := 12) fX1_53 rfl (z_sv0 rfl) (hl1.i 33 (by decide) rfl) dX1_begin_22 rfl ?_
  have hl2 := hl1.wr (v := 0) (hl1.i 33 (by decide) rfl) (i := 12) (by decide)
  refine z_aload_n (q := 26) 0 dX1_begin_25 rfl rfl ?_
  refine z_iconst (q := 27) dX1_begin_26 rfl ?_
  refine z_pf (q := 30) (ki := 15) fX1_67 rfl (z_sv0 rfl) (hl2.i 33 (by decide) rfl) dX1_begin_27 rfl ?_
  have hl3 := hl2.wr (v := 0) (hl2.i 33 (by decide) rfl) (i := 15) (by decide)
  refine z_aload_n (q := 31) 0 dX1_begin_30 rfl rfl ?_
  refine z_iconst (q := 32) dX1_begin_31 rfl ?_
  refine z_pf (q := 35) (ki := 16) fX1_70 rfl (z_sv0 rfl) (hl3.i 33 (by decide) rfl) dX1_begin_32 rfl ?_
  have hl4 := hl3.wr (v := 0) (hl3.i 33 (by decide) rfl) (i := 16) (by decide)
  refine z_aload_n (q := 36) 0 dX1_begin_35 rfl rfl ?_
  refine z_aload_n (q := 37) 3 dX1_begin_36 rfl rfl ?_
  refine z_ifnull (q := 40) (t := 49) dX1_begin_37 (by decide) rfl (fun c1 => ?_) (fun c1 => ?_)
  · exact u1 c1 hl4
  · refine z_aload (q := 42) 4 dX1_begin_40 rfl rfl ?_
    refine z_ifnull (q := 45) (t := 49) dX1_begin_42 (by decide) rfl (fun c2 => ?_) (fun c2 => ?_)
    · exact u2 c1 c2 hl4
    · refine z_iconst (q := 46) dX1_begin_45 rfl ?_
      refine z_goto (t := 50) dX1_begin_46 (by decide) ?_
      exact u3 c1 c2 hl4
theorem b_X1_begin_49 {D : zD} {d : Nat} {G : zG} {h : zH} {Q : zO → zG → zH → Prop} {x1 x2 x3 x4 : Int}
    (u1 : z_Y D M_X1_begin d 50 [(0, 2, 33), (1, 2, x1), (2, 2, x2), (3, 2, x3), (4, 2, x4)] [(0, 0), (2, 33)] G h Q) :
    z_Y D M_X1_begin d 49 [(0, 2, 33), (1, 2, x1), (2, 2, x2), (3, 2, x3), (4, 2, x4)] [(2, 33)] G h Q := by
  intro hl0
  refine z_iconst (q := 50) dX1_begin_49 rfl ?_
  exact u1 hl0
theorem b_X1_begin_50 {D : zD} {d : Nat} {G : zG} {h : zH} {Q : zO → zG → zH → Prop} {s1 x1 x2 x3 x4 : Int} (p1 : s1 = 0 ∨ s1 = 1)
    (u1 : z_Kv D M_X4_become d [(2, 38), (2, x1)] G (z_wr h 33 8 s1) (fun G' h' => z_Y D M_X1_begin d 61 [(0, 2, 33), (2, 2, x2), (3, 2, x3), (4, 2, x4)] [] G' h' Q)) :
    z_Y D M_X1_begin d 50 [(0, 2, 33), (1, 2, x1), (2, 2, x2), (3, 2, x3), (4, 2, x4)] [(0, s1), (2, 33)] G h Q := by
  intro hl0
  refine z_pf (q := 53) (ki := 8) fX1_36 rfl (z_sv4 rfl p1) (hl0.i 33 (by decide) rfl) dX1_begin_50 rfl ?_
  have hl1 := hl0.wr (v := s1) (hl0.i 33 (by decide) rfl) (i := 8) (by decide)
  refine z_aload_n (q := 54) 0 dX1_begin_53 rfl rfl ?_
  refine z_gf (q := 57) (ki := 3) (v := (2, 38)) fX1_21 rfl (z_ldr rfl (hl1.ref 35 rfl)) (hl1.i 33 (by decide) rfl) dX1_begin_54 rfl ?_
  refine z_aload_n (q := 58) 1 dX1_begin_57 rfl rfl ?_
  refine z_sub (L' := [(0, 2, 33), (2, 2, x2), (3, 2, x3), (4, 2, x4)]) [0, 2, 3, 4] rfl ?_
  exact z_goV (q := 61) (av := [(2, x1)]) (rest := []) cb3 (hl1.i 38 (by decide) rfl) z_tov hl1 (u1) mo_X4_become np_X4_become k904 k509 k510 rfl (nle rfl) dX1_begin_58 rfl
theorem b_X1_begin_61 {D : zD} {d : Nat} {G : zG} {h : zH} {Q : zO → zG → zH → Prop} {x2 x3 x4 : Int}
    (u1 : z_Kv D M_X4_become d [(2, 42), (2, x2)] G h (fun G' h' => z_Y D M_X1_begin d 69 [(0, 2, 33), (3, 2, x3), (4, 2, x4)] [] G' h' Q)) :
    z_Y D M_X1_begin d 61 [(0, 2, 33), (2, 2, x2), (3, 2, x3), (4, 2, x4)] [] G h Q := by
  intro hl0
  refine z_aload_n (q := 62) 0 dX1_begin_61 rfl rfl ?_
  refine z_gf (q := 65) (ki := 5) (v := (2, 42)) fX1_27 rfl (z_ldr rfl (hl0.ref 39 rfl)) (hl0.i 33 (by decide) rfl) dX1_begin_62 rfl ?_
  refine z_aload_n (q := 66) 1 dX1_begin_65 rfl rfl ?_
  refine z_sub (L' := [(0, 2, 33), (3, 2, x3), (4, 2, x4)]) [0, 2, 3] rfl ?_
  exact z_goV (q := 69) (av := [(2, x2)]) (rest := []) cb3 (hl0.i 42 (by decide) rfl) z_tov hl0 (u1) mo_X4_become np_X4_become k904 k509 k510 rfl (nle rfl) dX1_begin_66 rfl
theorem b_X1_begin_69 {D : zD} {d : Nat} {G : zG} {h : zH} {Q : zO → zG → zH → Prop} {x3 x4 : Int}
    (u1 : x3 = -1 → z_Y D M_X1_begin d 85 [(0, 2, 33), (4, 2, x4)] [(2, 46), (2, 40)] G h Q)
    (u2 : ¬ x3 = -1 → z_Y D M_X1_begin d 85 [(0, 2, 33), (4, 2, x4)] [(2, x3), (2, 40)] G h Q) :
    z_Y D M_X1_begin d 69 [(0, 2, 33), (3, 2, x3), (4, 2, x4)] [] G h Q := by
  intro hl0
  refine z_aload_n (q := 70) 0 dX1_begin_69 rfl rfl ?_
  refine z_gf (q := 73) (ki := 4) (v := (2, 40)) fX1_24 rfl (z_ldr rfl (hl0.ref 37 rfl)) (hl0.i 33 (by decide) rfl) dX1_begin_70 rfl ?_
  refine z_aload_n (q := 74) 1 dX1_begin_73 rfl rfl ?_
  refine z_ifnull (q := 77) (t := 81) dX1_begin_74 (by decide) rfl (fun c1 => ?_) (fun c1 => ?_)
  · refine z_aload_n (q := 82) 0 dX1_begin_81 rfl rfl ?_
    refine z_gf (q := 85) (ki := 7) (v := (2, 46)) fX1_33 rfl (z_ldr rfl (hl0.ref 43 rfl)) (hl0.i 33 (by decide) rfl) dX1_begin_82 rfl ?_
    refine z_sub (L' := [(0, 2, 33), (4, 2, x4)]) [0, 2] rfl ?_
    exact u1 c1 hl0
  · refine z_aload_n (q := 78) 1 dX1_begin_77 rfl rfl ?_
    refine z_goto (t := 85) dX1_begin_78 (by decide) ?_
    refine z_sub (L' := [(0, 2, 33), (4, 2, x4)]) [0, 2] rfl ?_
    exact u2 c1 hl0
theorem b_X1_begin_85 {D : zD} {d : Nat} {G : zG} {h : zH} {Q : zO → zG → zH → Prop} {s1 x4 : Int}
    (u1 : z_Kv D M_X4_become d [(2, 40), (2, s1)] G h (fun G' h' => z_Y D M_X1_begin d 88 [(0, 2, 33), (4, 2, x4)] [] G' h' Q)) :
    z_Y D M_X1_begin d 85 [(0, 2, 33), (4, 2, x4)] [(2, s1), (2, 40)] G h Q := by
  intro hl0
  exact z_goV (q := 88) (av := [(2, s1)]) (rest := []) cb3 (hl0.i 40 (by decide) rfl) z_tov hl0 (u1) mo_X4_become np_X4_become k904 k509 k510 rfl (nle rfl) dX1_begin_85 rfl
theorem b_X1_begin_88 {D : zD} {d : Nat} {G : zG} {h : zH} {Q : zO → zG → zH → Prop} {x4 : Int}
    (u1 : x4 = -1 → z_Y D M_X1_begin d 106 [(0, 2, 33)] [(2, 46), (2, 44)] G h Q)
    (u2 : ¬ x4 = -1 → z_Y D M_X1_begin d 106 [(0, 2, 33)] [(2, x4), (2, 44)] G h Q) :
    z_Y D M_X1_begin d 88 [(0, 2, 33), (4, 2, x4)] [] G h Q := by
  intro hl0
  refine z_aload_n (q := 89) 0 dX1_begin_88 rfl rfl ?_
  refine z_gf (q := 92) (ki := 6) (v := (2, 44)) fX1_30 rfl (z_ldr rfl (hl0.ref 41 rfl)) (hl0.i 33 (by decide) rfl) dX1_begin_89 rfl ?_
  refine z_aload (q := 94) 1 dX1_begin_92 rfl rfl ?_
  refine z_ifnull (q := 97) (t := 102) dX1_begin_94 (by decide) rfl (fun c1 => ?_) (fun c1 => ?_)
  · refine z_aload_n (q := 103) 0 dX1_begin_102 rfl rfl ?_
    refine z_gf (q := 106) (ki := 7) (v := (2, 46)) fX1_33 rfl (z_ldr rfl (hl0.ref 43 rfl)) (hl0.i 33 (by decide) rfl) dX1_begin_103 rfl ?_
    refine z_sub (L' := [(0, 2, 33)]) [0] rfl ?_
    exact u1 c1 hl0
  · refine z_aload (q := 99) 1 dX1_begin_97 rfl rfl ?_
    refine z_goto (t := 106) dX1_begin_99 (by decide) ?_
    refine z_sub (L' := [(0, 2, 33)]) [0] rfl ?_
    exact u2 c1 hl0
theorem b_X1_begin_106 {D : zD} {d : Nat} {G : zG} {h : zH} {Q : zO → zG → zH → Prop} {s1 : Int}
    (u1 : z_Kv D M_X4_become d [(2, 44), (2, s1)] G h (fun G' h' => z_Y D M_X1_begin d 109 [(0, 2, 33)] [] G' h' Q)) :
    z_Y D M_X1_begin d 106 [(0, 2, 33)] [(2, s1), (2, 44)] G h Q := by
  intro hl0
  exact z_goV (q := 109) (av := [(2, s1)]) (rest := []) cb3 (hl0.i 44 (by decide) rfl) z_tov hl0 (u1) mo_X4_become np_X4_become k904 k509 k510 rfl (nle rfl) dX1_begin_106 rfl
theorem b_X1_begin_109 {D : zD} {d : Nat} {G : zG} {h : zH} {Q : zO → zG → zH → Prop}
    (u1 : z_Ki D M_X1_mixOfMade d [(2, 33)] G h (fun r G' h' => z_Y D M_X1_begin d 113 [(0, 2, 33)] [(0, r)] G' h' Q)) :
    z_Y D M_X1_begin d 109 [(0, 2, 33)] [] G h Q := by
  intro hl0
  refine z_aload_n (q := 110) 0 dX1_begin_109 rfl rfl ?_
  exact z_goV (q := 113) (av := []) (rest := []) cb0 (hl0.i 33 (by decide) rfl) z_toi hl0 (u1) mo_X1_mixOfMade np_X1_mixOfMade k905 k907 k27 rfl (nle rfl) dX1_begin_110 rfl
theorem b_X1_begin_113 {D : zD} {d : Nat} {G : zG} {h : zH} {Q : zO → zG → zH → Prop} {s0 : Int}
    (u1 : z_Ki D M_X1_slotOf d [(2, 33), (0, s0)] G h (fun r G' h' => z_Y D M_X1_begin d 122 [(0, 2, 33), (5, 0, s0)] [(0, r), (2, 33)] G' h' Q)) :
    z_Y D M_X1_begin d 113 [(0, 2, 33)] [(0, s0)] G h Q := by
  intro hl0
  refine z_istore (q := 115) (L' := [(0, 2, 33), (5, 0, s0)]) dX1_begin_113 rfl (by decide) rfl ?_
  refine z_aload_n (q := 116) 0 dX1_begin_115 rfl rfl ?_
  refine z_aload_n (q := 117) 0 dX1_begin_116 rfl rfl ?_
  refine z_iload (q := 119) 1 dX1_begin_117 rfl rfl ?_
  exact z_goV (q := 122) (av := [(0, s0)]) (rest := [(2, 33)]) cb0 (hl0.i 33 (by decide) rfl) z_toi hl0 (u1) mo_X1_slotOf np_X1_slotOf k913 k915 k28 rfl (nle rfl) dX1_begin_119 rfl
theorem b_X1_begin_122 {D : zD} {d : Nat} {G : zG} {h : zH} {Q : zO → zG → zH → Prop} {s1 x5 : Int}
    (u1 : z_Ki D M_X1_addState d [(2, 33), (0, s1), (0, x5)] G h (fun r G' h' => z_Y D M_X1_begin d 127 [(0, 2, 33)] [(0, r)] G' h' Q)) :
    z_Y D M_X1_begin d 122 [(0, 2, 33), (5, 0, x5)] [(0, s1), (2, 33)] G h Q := by
  intro hl0
  refine z_iload (q := 124) 1 dX1_begin_122 rfl rfl ?_
  refine z_sub (L' := [(0, 2, 33)]) [0] rfl ?_
  exact z_goV (q := 127) (av := [(0, s1), (0, x5)]) (rest := []) cb0 (hl0.i 33 (by decide) rfl) z_toi hl0 (u1) mo_X1_addState np_X1_addState k926 k928 k30 rfl (nle rfl) dX1_begin_124 rfl
theorem b_X1_begin_127 {D : zD} {d : Nat} {G : zG} {h : zH} {Q : zO → zG → zH → Prop} {s0 : Int} (p1 : z_is G (h 48 0) 1)
    (u1 : Q (.inl none) G (z_wr h (h 48 0) 6 1)) :
    z_Y D M_X1_begin d 127 [(0, 2, 33)] [(0, s0)] G h Q := by
  intro hl0
  refine z_pop (q := 128) (by decide) dX1_begin_127 rfl ?_
  refine z_aload_n (q := 129) 0 dX1_begin_128 rfl rfl ?_
  refine z_gf (q := 132) (ki := 9) (v := (2, 48)) fX1_42 rfl (z_ldr rfl (hl0.ref 44 rfl)) (hl0.i 33 (by decide) rfl) dX1_begin_129 rfl ?_
  refine z_iconst (q := 133) dX1_begin_132 rfl ?_
  refine z_aale (q := 134) 56 (by decide) (by decide) (hl0.a 48 (by decide) rfl) (by decide) (by decide) (v := (h 48 0)) rfl dX1_begin_133 rfl ?_
  refine z_iconst (q := 135) dX1_begin_134 rfl ?_
  refine z_pf (q := 138) (ki := 6) fX1_114 rfl (z_sv0 rfl) p1 dX1_begin_135 rfl ?_
  have hl1 := hl0.wr (v := 1) p1 (i := 6) (by decide)
  exact z_vret rfl dX1_begin_138 ⟨hl1, u1⟩
theorem b_X1_expand_0 {D : zD} {d : Nat} {G : zG} {h : zH} {Q : zO → zG → zH → Prop} {x1 x2 : Int} (p1 : z_is G x1 1)
    (u1 : z_Kv D M_X2_lay d [(2, x1), (2, 34), (2, 36)] G h (fun G' h' => z_Y D M_X1_expand d 12 [(0, 2, 33), (1, 2, x1), (2, 0, x2)] [] G' h' Q)) :
    z_Y D M_X1_expand d 0 [(0, 2, 33), (1, 2, x1), (2, 0, x2)] [] G h Q := by
  intro hl0
  refine z_aload_n (q := 1) 1 dX1_expand_0 rfl rfl ?_
  refine z_aload_n (q := 2) 0 dX1_expand_1 rfl rfl ?_
  refine z_gf (q := 5) (ki := 1) (v := (2, 34)) fX1_12 rfl (z_ldr rfl (hl0.ref 31 rfl)) (hl0.i 33 (by decide) rfl) dX1_expand_2 rfl ?_
  refine z_aload_n (q := 6) 0 dX1_expand_5 rfl rfl ?_
  refine z_gf (q := 9) (ki := 2) (v := (2, 36)) fX1_18 rfl (z_ldr rfl (hl0.ref 33 rfl)) (hl0.i 33 (by decide) rfl) dX1_expand_6 rfl ?_
  exact z_goV (q := 12) (av := [(2, 34), (2, 36)]) (rest := []) cb1 p1 z_tov hl0 (u1) mo_X2_lay np_X2_lay k1011 k1012 k1013 rfl (nle rfl) dX1_expand_9 rfl
theorem b_X1_expand_12 {D : zD} {d : Nat} {G : zG} {h : zH} {Q : zO → zG → zH → Prop} {x1 x2 : Int} (p1 : z_is G x1 1)
    (u1 : z_Ki D M_X4_anys d [(2, 34)] G (z_wr (z_wr h x1 7 (h 33 12)) x1 8 (h 33 12)) (fun r G' h' => z_Y D M_X1_expand d 35 [(0, 2, 33), (1, 2, x1), (2, 0, x2)] [(0, r)] G' h' Q)) :
    z_Y D M_X1_expand d 12 [(0, 2, 33), (1, 2, x1), (2, 0, x2)] [] G h Q := by
  intro hl0
  refine z_aload_n (q := 13) 1 dX1_expand_12 rfl rfl ?_
  refine z_aload_n (q := 14) 0 dX1_expand_13 rfl rfl ?_
  refine z_gf (q := 17) (ki := 12) (v := (0, (h 33 12))) fX1_53 rfl rfl (hl0.i 33 (by decide) rfl) dX1_expand_14 rfl ?_
  refine z_pf (q := 20) (ki := 7) fX1_121 rfl (z_sv0 rfl) p1 dX1_expand_17 rfl ?_
  have hl1 := hl0.wr (v := (h 33 12)) p1 (i := 7) (by decide)
  refine z_aload_n (q := 21) 1 dX1_expand_20 rfl rfl ?_
  refine z_aload_n (q := 22) 0 dX1_expand_21 rfl rfl ?_
  refine z_gf (q := 25) (ki := 12) (v := (0, (h 33 12))) fX1_53 rfl (z_ldi rfl (w_nj (by decide))) (hl1.i 33 (by decide) rfl) dX1_expand_22 rfl ?_
  refine z_pf (q := 28) (ki := 8) fX1_124 rfl (z_sv0 rfl) p1 dX1_expand_25 rfl ?_
  have hl2 := hl1.wr (v := (h 33 12)) p1 (i := 8) (by decide)
  refine z_aload_n (q := 29) 0 dX1_expand_28 rfl rfl ?_
  refine z_gf (q := 32) (ki := 1) (v := (2, 34)) fX1_12 rfl (z_ldr rfl (hl2.ref 31 rfl)) (hl2.i 33 (by decide) rfl) dX1_expand_29 rfl ?_
  exact z_goV (q := 35) (av := []) (rest := []) cb3 (hl2.i 34 (by decide) rfl) z_toi hl2 (u1) mo_X4_anys np_X4_anys k1016 k690 k691 rfl (nle rfl) dX1_expand_32 rfl
theorem b_X1_expand_35 {D : zD} {d : Nat} {G : zG} {h : zH} {Q : zO → zG → zH → Prop} {s0 x1 x2 : Int}
    (u1 : z_Ki D M_X4_anys d [(2, 36)] G h (fun r G' h' => z_Y D M_X1_expand d 42 [(0, 2, 33), (1, 2, x1), (2, 0, x2)] [(0, r), (0, s0)] G' h' Q)) :
    z_Y D M_X1_expand d 35 [(0, 2, 33), (1, 2, x1), (2, 0, x2)] [(0, s0)] G h Q := by
  intro hl0
  refine z_aload_n (q := 36) 0 dX1_expand_35 rfl rfl ?_
  refine z_gf (q := 39) (ki := 2) (v := (2, 36)) fX1_18 rfl (z_ldr rfl (hl0.ref 33 rfl)) (hl0.i 33 (by decide) rfl) dX1_expand_36 rfl ?_
  exact z_goV (q := 42) (av := []) (rest := [(0, s0)]) cb3 (hl0.i 36 (by decide) rfl) z_toi hl0 (u1) mo_X4_anys np_X4_anys k1016 k690 k691 rfl (nle rfl) dX1_expand_39 rfl
theorem b_X1_expand_42 {D : zD} {d : Nat} {G : zG} {h : zH} {Q : zO → zG → zH → Prop} {s0 s1 x1 x2 : Int} (p1 : z_in (s0 + s1))
    (u1 : (s0 + s1) ≤ 0 → z_Y D M_X1_expand d 50 [(0, 2, 33), (1, 2, x1), (2, 0, x2), (3, 0, 1)] [] G h Q)
    (u2 : ¬ ((s0 + s1) ≤ 0) → Q (.inl (some (0, 1))) G h) :
    z_Y D M_X1_expand d 42 [(0, 2, 33), (1, 2, x1), (2, 0, x2)] [(0, s1), (0, s0)] G h Q := by
  intro hl0
  refine z_iadd (q := 43) dX1_expand_42 rfl ?_
  refine z_if_le (q := 46) (t := 48) p1 dX1_expand_43 (by decide) rfl (fun c1 => ?_) (fun c1 => ?_)
  · refine z_iconst (q := 49) dX1_expand_48 rfl ?_
    refine z_istore_n (q := 50) (L' := [(0, 2, 33), (1, 2, x1), (2, 0, x2), (3, 0, 1)]) dX1_expand_49 rfl (by decide) rfl ?_
    exact u1 c1 hl0
  · refine z_iconst (q := 47) dX1_expand_46 rfl ?_
    exact z_bret rfl (by decide) dX1_expand_47 ⟨hl0, u2 c1⟩
theorem b_X1_expand_50 {D : zD} {d : Nat} {G : zG} {h : zH} {Q : zO → zG → zH → Prop} {x1 x2 x3 : Int} (hd : 3 ≤ d) (p1 : z_in x3) (p2 : 14 < x3 → z_is G x1 1)
    (u1 : 14 < x3 → Q (.inl (some (0, 1))) G (z_wr h x1 8 (h 33 12)))
    (u2 : ¬ (14 < x3) → z_Y D M_X1_expand d 71 [(0, 2, 33), (1, 2, x1), (2, 0, x2), (3, 0, x3), (4, 0, (zma x3)), (5, 0, (zmB x3)), (6, 0, 0)] [] G h Q) :
    z_Y D M_X1_expand d 50 [(0, 2, 33), (1, 2, x1), (2, 0, x2), (3, 0, x3)] [] G h Q := by
  intro hl0
  refine z_iload_n (q := 51) 3 dX1_expand_50 rfl rfl ?_
  refine z_bipush (q := 53) dX1_expand_51 rfl (by decide) ?_
  refine z_icmp_gt (q := 56) (t := 190) p1 ⟨by decide, by decide⟩ dX1_expand_53 (by decide) rfl (fun c1 => ?_) (fun c1 => ?_)
  · refine z_aload_n (q := 191) 1 dX1_expand_190 rfl rfl ?_
    refine z_aload_n (q := 192) 0 dX1_expand_191 rfl rfl ?_
    refine z_gf (q := 195) (ki := 12) (v := (0, (h 33 12))) fX1_53 rfl rfl (hl0.i 33 (by decide) rfl) dX1_expand_192 rfl ?_
    refine z_pf (q := 198) (ki := 8) fX1_124 rfl (z_sv0 rfl) (p2 c1) dX1_expand_195 rfl ?_
    have hl1 := hl0.wr (v := (h 33 12)) (p2 c1) (i := 8) (by decide)
    refine z_iconst (q := 199) dX1_expand_198 rfl ?_
    exact z_bret rfl (by decide) dX1_expand_199 ⟨hl1, u1 c1⟩
  · refine z_iload_n (q := 57) 3 dX1_expand_56 rfl rfl ?_
    have e1 := a_X1_mostA (D := D) (G := G) (h := h) (d := d - 1) (by omega) x3 p1
    refine z_goS (q := 60) (av := [(0, x3)]) (rest := []) (z_toi) hl0 (z_Ei.K e1 (by omega) ?_) mo_X1_mostA np_X1_mostA k1017 k1018 rfl (nle rfl) dX1_expand_57 rfl
    refine z_istore (q := 62) (L' := [(0, 2, 33), (1, 2, x1), (2, 0, x2), (3, 0, x3), (4, 0, (zma x3))]) dX1_expand_60 rfl (by decide) rfl ?_
    refine z_iload_n (q := 63) 3 dX1_expand_62 rfl rfl ?_
    have e2 := a_X1_mostB (D := D) (G := G) (h := h) (d := d - 1) (by omega) x3 p1
    refine z_goS (q := 66) (av := [(0, x3)]) (rest := []) (z_toi) hl0 (z_Ei.K e2 (by omega) ?_) mo_X1_mostB np_X1_mostB k1021 k1022 rfl (nle rfl) dX1_expand_63 rfl
    refine z_istore (q := 68) (L' := [(0, 2, 33), (1, 2, x1), (2, 0, x2), (3, 0, x3), (4, 0, (zma x3)), (5, 0, (zmB x3))]) dX1_expand_66 rfl (by decide) rfl ?_
    refine z_iconst (q := 69) dX1_expand_68 rfl ?_
    refine z_istore (q := 71) (L' := [(0, 2, 33), (1, 2, x1), (2, 0, x2), (3, 0, x3), (4, 0, (zma x3)), (5, 0, (zmB x3)), (6, 0, 0)]) dX1_expand_69 rfl (by decide) rfl ?_
    exact u2 c1 hl0
theorem b_X1_expand_71 {D : zD} {d : Nat} {G : zG} {h : zH} {Q : zO → zG → zH → Prop} {x1 x2 x3 x4 x5 x6 : Int} (p1 : z_in x6) (p2 : z_in x4)
    (u1 : x4 < x6 → z_Y D M_X1_expand d 50 [(0, 2, 33), (1, 2, x1), (2, 0, x2), (3, 0, (x3 + 1))] [] G h Q)
    (u2 : ¬ (x4 < x6) → z_Y D M_X1_expand d 81 [(0, 2, 33), (1, 2, x1), (2, 0, x2), (3, 0, x3), (4, 0, x4), (5, 0, x5), (6, 0, x6), (7, 0, 0)] [] G h Q) :
    z_Y D M_X1_expand d 71 [(0, 2, 33), (1, 2, x1), (2, 0, x2), (3, 0, x3), (4, 0, x4), (5, 0, x5), (6, 0, x6)] [] G h Q := by
  intro hl0
  refine z_iload (q := 73) 6 dX1_expand_71 rfl rfl ?_
  refine z_iload (q := 75) 4 dX1_expand_73 rfl rfl ?_
  refine z_icmp_gt (q := 78) (t := 184) p1 p2 dX1_expand_75 (by decide) rfl (fun c1 => ?_) (fun c1 => ?_)
  · refine z_iinc (q := 187) (L' := [(0, 2, 33), (1, 2, x1), (2, 0, x2), (3, 0, (x3 + 1)), (4, 0, x4), (5, 0, x5), (6, 0, x6)]) 3 dX1_expand_184 rfl rfl (by decide) rfl ?_
    refine z_goto (t := 50) dX1_expand_187 (by decide) ?_
    refine z_sub (L' := [(0, 2, 33), (1, 2, x1), (2, 0, x2), (3, 0, (x3 + 1))]) [0, 1, 2, 3] rfl ?_
    exact u1 c1 hl0
  · refine z_iconst (q := 79) dX1_expand_78 rfl ?_
    refine z_istore (q := 81) (L' := [(0, 2, 33), (1, 2, x1), (2, 0, x2), (3, 0, x3), (4, 0, x4), (5, 0, x5), (6, 0, x6), (7, 0, 0)]) dX1_expand_79 rfl (by decide) rfl ?_
    exact u2 c1 hl0
theorem b_X1_expand_81 {D : zD} {d : Nat} {G : zG} {h : zH} {Q : zO → zG → zH → Prop} {x1 x2 x3 x4 x5 x6 x7 : Int} (p1 : z_in x7) (p2 : z_in x5)
    (u1 : x5 < x7 → z_Y D M_X1_expand d 71 [(0, 2, 33), (1, 2, x1), (2, 0, x2), (3, 0, x3), (4, 0, x4), (5, 0, x5), (6, 0, (x6 + 1))] [] G h Q)
    (u2 : ¬ (x5 < x7) → z_Ki D M_X3_change d [(2, 12), (2, 34), (2, 38), (0, x3), (0, x6), (0, x7)] G h (fun r G' h' => z_Y D M_X1_expand d 108 [(0, 2, 33), (1, 2, x1), (2, 0, x2), (3, 0, x3), (4, 0, x4), (5, 0, x5), (6, 0, x6), (7, 0, x7)] [(0, r)] G' h' Q)) :
    z_Y D M_X1_expand d 81 [(0, 2, 33), (1, 2, x1), (2, 0, x2), (3, 0, x3), (4, 0, x4), (5, 0, x5), (6, 0, x6), (7, 0, x7)] [] G h Q := by
  intro hl0
  refine z_iload (q := 83) 7 dX1_expand_81 rfl rfl ?_
  refine z_iload (q := 85) 5 dX1_expand_83 rfl rfl ?_
  refine z_icmp_gt (q := 88) (t := 178) p1 p2 dX1_expand_85 (by decide) rfl (fun c1 => ?_) (fun c1 => ?_)
  · refine z_iinc (q := 181) (L' := [(0, 2, 33), (1, 2, x1), (2, 0, x2), (3, 0, x3), (4, 0, x4), (5, 0, x5), (6, 0, (x6 + 1)), (7, 0, x7)]) 6 dX1_expand_178 rfl rfl (by decide) rfl ?_
    refine z_goto (t := 71) dX1_expand_181 (by decide) ?_
    refine z_sub (L' := [(0, 2, 33), (1, 2, x1), (2, 0, x2), (3, 0, x3), (4, 0, x4), (5, 0, x5), (6, 0, (x6 + 1))]) [0, 1, 2, 3, 4, 5, 6] rfl ?_
    exact u1 c1 hl0
  · refine z_aload_n (q := 89) 0 dX1_expand_88 rfl rfl ?_
    refine z_gf (q := 92) (ki := 0) (v := (2, 12)) fX1_73 rfl (z_ldr rfl (hl0.ref 47 rfl)) (hl0.i 33 (by decide) rfl) dX1_expand_89 rfl ?_
    refine z_aload_n (q := 93) 0 dX1_expand_92 rfl rfl ?_
    refine z_gf (q := 96) (ki := 1) (v := (2, 34)) fX1_12 rfl (z_ldr rfl (hl0.ref 31 rfl)) (hl0.i 33 (by decide) rfl) dX1_expand_93 rfl ?_
    refine z_aload_n (q := 97) 0 dX1_expand_96 rfl rfl ?_
    refine z_gf (q := 100) (ki := 3) (v := (2, 38)) fX1_21 rfl (z_ldr rfl (hl0.ref 35 rfl)) (hl0.i 33 (by decide) rfl) dX1_expand_97 rfl ?_
    refine z_iload_n (q := 101) 3 dX1_expand_100 rfl rfl ?_
    refine z_iload (q := 103) 6 dX1_expand_101 rfl rfl ?_
    refine z_iload (q := 105) 7 dX1_expand_103 rfl rfl ?_
    exact z_goV (q := 108) (av := [(2, 34), (2, 38), (0, x3), (0, x6), (0, x7)]) (rest := []) cb2 (hl0.i 12 (by decide) rfl) z_toi hl0 (u2 c1) mo_X3_change np_X3_change k1024 k729 k730 rfl (nle rfl) dX1_expand_105 rfl
theorem b_X1_expand_108 {D : zD} {d : Nat} {G : zG} {h : zH} {Q : zO → zG → zH → Prop} {s0 x1 x2 x3 x4 x5 x6 x7 : Int} (p1 : z_in s0) (p2 : ¬ (s0 = 0) → z_in ((h 33 8) % 2))
    (u1 : s0 = 0 → z_Y D M_X1_expand d 145 [(0, 2, 33), (1, 2, x1), (2, 0, x2), (3, 0, x3), (4, 0, x4), (5, 0, x5), (6, 0, x6), (7, 0, x7)] [] G h Q)
    (u2 : ¬ (s0 = 0) → ((h 33 8) % 2) = 0 → z_Y D M_X1_expand d 141 [(0, 2, 33), (1, 2, x1), (2, 0, x2), (3, 0, x3), (4, 0, x4), (5, 0, x5), (6, 0, x6), (7, 0, x7)] [] G h Q)
    (u3 : ¬ (s0 = 0) → ¬ (((h 33 8) % 2) = 0) → z_Ki D M_X3_change d [(2, 12), (2, 36), (2, 40), (0, x3), (0, x6), (0, x7)] G h (fun r G' h' => z_Y D M_X1_expand d 138 [(0, 2, 33), (1, 2, x1), (2, 0, x2), (3, 0, x3), (4, 0, x4), (5, 0, x5), (6, 0, x6), (7, 0, x7)] [(0, r)] G' h' Q)) :
    z_Y D M_X1_expand d 108 [(0, 2, 33), (1, 2, x1), (2, 0, x2), (3, 0, x3), (4, 0, x4), (5, 0, x5), (6, 0, x6), (7, 0, x7)] [(0, s0)] G h Q := by
  intro hl0
  refine z_if_eq (q := 111) (t := 145) p1 dX1_expand_108 (by decide) rfl (fun c1 => ?_) (fun c1 => ?_)
  · exact u1 c1 hl0
  · refine z_aload_n (q := 112) 0 dX1_expand_111 rfl rfl ?_
    refine z_gf (q := 115) (ki := 8) (v := (0, ((h 33 8) % 2))) fX1_36 rfl rfl (hl0.i 33 (by decide) rfl) dX1_expand_112 rfl ?_
    refine z_if_eq (q := 118) (t := 141) (p2 c1) dX1_expand_115 (by decide) rfl (fun c2 => ?_) (fun c2 => ?_)
    · exact u2 c1 c2 hl0
    · refine z_aload_n (q := 119) 0 dX1_expand_118 rfl rfl ?_
      refine z_gf (q := 122) (ki := 0) (v := (2, 12)) fX1_73 rfl (z_ldr rfl (hl0.ref 47 rfl)) (hl0.i 33 (by decide) rfl) dX1_expand_119 rfl ?_
      refine z_aload_n (q := 123) 0 dX1_expand_122 rfl rfl ?_
      refine z_gf (q := 126) (ki := 2) (v := (2, 36)) fX1_18 rfl (z_ldr rfl (hl0.ref 33 rfl)) (hl0.i 33 (by decide) rfl) dX1_expand_123 rfl ?_
      refine z_aload_n (q := 127) 0 dX1_expand_126 rfl rfl ?_
      refine z_gf (q := 130) (ki := 4) (v := (2, 40)) fX1_24 rfl (z_ldr rfl (hl0.ref 37 rfl)) (hl0.i 33 (by decide) rfl) dX1_expand_127 rfl ?_
      refine z_iload_n (q := 131) 3 dX1_expand_130 rfl rfl ?_
      refine z_iload (q := 133) 6 dX1_expand_131 rfl rfl ?_
      refine z_iload (q := 135) 7 dX1_expand_133 rfl rfl ?_
      exact z_goV (q := 138) (av := [(2, 36), (2, 40), (0, x3), (0, x6), (0, x7)]) (rest := []) cb2 (hl0.i 12 (by decide) rfl) z_toi hl0 (u3 c1 c2) mo_X3_change np_X3_change k1024 k729 k730 rfl (nle rfl) dX1_expand_135 rfl
theorem b_X1_expand_145 {D : zD} {d : Nat} {G : zG} {h : zH} {Q : zO → zG → zH → Prop} {x1 x2 x3 x4 x5 x6 x7 : Int}
    (u1 : z_Y D M_X1_expand d 146 [(0, 2, 33), (1, 2, x1), (2, 0, x2), (3, 0, x3), (4, 0, x4), (5, 0, x5), (6, 0, x6), (7, 0, x7)] [(0, 0)] G h Q) :
    z_Y D M_X1_expand d 145 [(0, 2, 33), (1, 2, x1), (2, 0, x2), (3, 0, x3), (4, 0, x4), (5, 0, x5), (6, 0, x6), (7, 0, x7)] [] G h Q := by
  intro hl0
  refine z_iconst (q := 146) dX1_expand_145 rfl ?_
  exact u1 hl0
theorem b_X1_expand_141 {D : zD} {d : Nat} {G : zG} {h : zH} {Q : zO → zG → zH → Prop} {x1 x2 x3 x4 x5 x6 x7 : Int}
    (u1 : z_Y D M_X1_expand d 146 [(0, 2, 33), (1, 2, x1), (2, 0, x2), (3, 0, x3), (4, 0, x4), (5, 0, x5), (6, 0, x6), (7, 0, x7)] [(0, 1)] G h Q) :
    z_Y D M_X1_expand d 141 [(0, 2, 33), (1, 2, x1), (2, 0, x2), (3, 0, x3), (4, 0, x4), (5, 0, x5), (6, 0, x6), (7, 0, x7)] [] G h Q := by
  intro hl0
  refine z_iconst (q := 142) dX1_expand_141 rfl ?_
  refine z_goto (t := 146) dX1_expand_142 (by decide) ?_
  exact u1 hl0
theorem b_X1_expand_138 {D : zD} {d : Nat} {G : zG} {h : zH} {Q : zO → zG → zH → Prop} {s0 x1 x2 x3 x4 x5 x6 x7 : Int} (p1 : z_in s0)
    (u1 : s0 = 0 → z_Y D M_X1_expand d 145 [(0, 2, 33), (1, 2, x1), (2, 0, x2), (3, 0, x3), (4, 0, x4), (5, 0, x5), (6, 0, x6), (7, 0, x7)] [] G h Q)
    (u2 : ¬ (s0 = 0) → z_Y D M_X1_expand d 141 [(0, 2, 33), (1, 2, x1), (2, 0, x2), (3, 0, x3), (4, 0, x4), (5, 0, x5), (6, 0, x6), (7, 0, x7)] [] G h Q) :
    z_Y D M_X1_expand d 138 [(0, 2, 33), (1, 2, x1), (2, 0, x2), (3, 0, x3), (4, 0, x4), (5, 0, x5), (6, 0, x6), (7, 0, x7)] [(0, s0)] G h Q := by
  intro hl0
  refine z_if_eq (q := 141) (t := 145) p1 dX1_expand_138 (by decide) rfl (fun c1 => ?_) (fun c1 => ?_)
  · exact u1 c1 hl0
  · exact u2 c1 hl0
theorem b_X1_expand_146 {D : zD} {d : Nat} {G : zG} {h : zH} {Q : zO → zG → zH → Prop} {s0 x1 x2 x3 x4 x5 x6 x7 : Int} (hd : 2 ≤ d) (p1 : z_in s0) (p2 : ¬ (s0 = 0) → 0 ≤ x3 ∧ x3 < 16) (p3 : ¬ (s0 = 0) → 0 ≤ x6 ∧ x6 < 8) (p4 : ¬ (s0 = 0) → 0 ≤ x7 ∧ x7 < 8)
    (u1 : s0 = 0 → z_Y D M_X1_expand d 81 [(0, 2, 33), (1, 2, x1), (2, 0, x2), (3, 0, x3), (4, 0, x4), (5, 0, x5), (6, 0, x6), (7, 0, (x7 + 1))] [] G h Q)
    (u2 : ¬ (s0 = 0) → z_Ki D M_X1_arrive d [(2, 33), (2, x1), (0, (zco x3 x6 x7)), (0, x2)] G h (fun r G' h' => z_Y D M_X1_expand d 167 [(0, 2, 33), (1, 2, x1), (2, 0, x2), (3, 0, x3), (4, 0, x4), (5, 0, x5), (6, 0, x6), (7, 0, x7)] [(0, r)] G' h' Q)) :
    z_Y D M_X1_expand d 146 [(0, 2, 33), (1, 2, x1), (2, 0, x2), (3, 0, x3), (4, 0, x4), (5, 0, x5), (6, 0, x6), (7, 0, x7)] [(0, s0)] G h Q := by
  intro hl0
  refine z_istore (q := 148) (L' := [(0, 2, 33), (1, 2, x1), (2, 0, x2), (3, 0, x3), (4, 0, x4), (5, 0, x5), (6, 0, x6), (7, 0, x7), (8, 0, s0)]) dX1_expand_146 rfl (by decide) rfl ?_
  refine z_iload (q := 150) 8 dX1_expand_148 rfl rfl ?_
  refine z_if_eq (q := 153) (t := 172) p1 dX1_expand_150 (by decide) rfl (fun c1 => ?_) (fun c1 => ?_)
  · refine z_iinc (q := 175) (L' := [(0, 2, 33), (1, 2, x1), (2, 0, x2), (3, 0, x3), (4, 0, x4), (5, 0, x5), (6, 0, x6), (7, 0, (x7 + 1)), (8, 0, s0)]) 7 dX1_expand_172 rfl rfl (by decide) rfl ?_
    refine z_goto (t := 81) dX1_expand_175 (by decide) ?_
    refine z_sub (L' := [(0, 2, 33), (1, 2, x1), (2, 0, x2), (3, 0, x3), (4, 0, x4), (5, 0, x5), (6, 0, x6), (7, 0, (x7 + 1))]) [0, 1, 2, 3, 4, 5, 6, 7] rfl ?_
    exact u1 c1 hl0
  · refine z_aload_n (q := 154) 0 dX1_expand_153 rfl rfl ?_
    refine z_aload_n (q := 155) 1 dX1_expand_154 rfl rfl ?_
    refine z_iload_n (q := 156) 3 dX1_expand_155 rfl rfl ?_
    refine z_iload (q := 158) 6 dX1_expand_156 rfl rfl ?_
    refine z_iload (q := 160) 7 dX1_expand_158 rfl rfl ?_
    have e1 := a_X0_of (D := D) (G := G) (h := h) (d := d - 1) (by omega) x3 x6 x7 (p2 c1) (p3 c1) (p4 c1)
    refine z_goS (q := 163) (av := [(0, x3), (0, x6), (0, x7)]) (rest := [(2, x1), (2, 33)]) (z_toi) hl0 (z_Ei.K e1 (by omega) ?_) mo_X0_of np_X0_of k1025 k647 rfl (nle rfl) dX1_expand_160 rfl
    refine z_iload_n (q := 164) 2 dX1_expand_163 rfl rfl ?_
    refine z_sub (L' := [(0, 2, 33), (1, 2, x1), (2, 0, x2), (3, 0, x3), (4, 0, x4), (5, 0, x5), (6, 0, x6), (7, 0, x7)]) [0, 1, 2, 3, 4, 5, 6, 7] rfl ?_
    exact z_goV (q := 167) (av := [(2, x1), (0, (zco x3 x6 x7)), (0, x2)]) (rest := []) cb0 (hl0.i 33 (by decide) rfl) z_toi hl0 (u2 c1) mo_X1_arrive np_X1_arrive k1026 k1028 k35 rfl (nle rfl) dX1_expand_164 rfl
theorem b_X1_expand_167 {D : zD} {d : Nat} {G : zG} {h : zH} {Q : zO → zG → zH → Prop} {s0 x1 x2 x3 x4 x5 x6 x7 : Int} (p1 : z_in s0)
    (u1 : ¬ s0 = 0 → z_Y D M_X1_expand d 81 [(0, 2, 33), (1, 2, x1), (2, 0, x2), (3, 0, x3), (4, 0, x4), (5, 0, x5), (6, 0, x6), (7, 0, (x7 + 1))] [] G h Q)
    (u2 : ¬ (¬ s0 = 0) → Q (.inl (some (0, 0))) G h) :
    z_Y D M_X1_expand d 167 [(0, 2, 33), (1, 2, x1), (2, 0, x2), (3, 0, x3), (4, 0, x4), (5, 0, x5), (6, 0, x6), (7, 0, x7)] [(0, s0)] G h Q := by
  intro hl0
  refine z_if_ne (q := 170) (t := 172) p1 dX1_expand_167 (by decide) rfl (fun c1 => ?_) (fun c1 => ?_)
  · refine z_iinc (q := 175) (L' := [(0, 2, 33), (1, 2, x1), (2, 0, x2), (3, 0, x3), (4, 0, x4), (5, 0, x5), (6, 0, x6), (7, 0, (x7 + 1))]) 7 dX1_expand_172 rfl rfl (by decide) rfl ?_
    refine z_goto (t := 81) dX1_expand_175 (by decide) ?_
    exact u1 c1 hl0
  · refine z_iconst (q := 171) dX1_expand_170 rfl ?_
    exact z_bret rfl (by decide) dX1_expand_171 ⟨hl0, u2 c1⟩
theorem b_X1_hasEdgeToEnd_0 {D : zD} {d : Nat} {G : zG} {h : zH} {Q : zO → zG → zH → Prop} {x1 : Int} (p1 : z_is G x1 1)
    (u1 : z_Y D M_X1_hasEdgeToEnd d 5 [(0, 2, 33), (1, 2, x1), (2, 0, (h x1 7))] [] G h Q) :
    z_Y D M_X1_hasEdgeToEnd d 0 [(0, 2, 33), (1, 2, x1)] [] G h Q := by
  intro hl0
  refine z_aload_n (q := 1) 1 dX1_hasEdgeToEnd_0 rfl rfl ?_
  refine z_gf (q := 4) (ki := 7) (v := (0, (h x1 7))) fX1_121 rfl rfl p1 dX1_hasEdgeToEnd_1 rfl ?_
  refine z_istore_n (q := 5) (L' := [(0, 2, 33), (1, 2, x1), (2, 0, (h x1 7))]) dX1_hasEdgeToEnd_4 rfl (by decide) rfl ?_
  exact u1 hl0
theorem b_X1_hasEdgeToEnd_5 {D : zD} {d : Nat} {G : zG} {h : zH} {Q : zO → zG → zH → Prop} {x1 x2 : Int} (p1 : z_is G x1 1) (p2 : z_in x2) (p3 : z_in (h x1 8)) (p4 : ¬ ((h x1 8) ≤ x2) → z_is G (h 33 11) 50) (p5 : ¬ ((h x1 8) ≤ x2) → 0 ≤ x2) (p6 : ¬ ((h x1 8) ≤ x2) → x2 < (G.2.2.2 (h 33 11))) (p7 : ¬ ((h x1 8) ≤ x2) → 0 ≤ (z_ishr (h (h 33 11) x2) 10)) (p8 : ¬ ((h x1 8) ≤ x2) → (z_ishr (h (h 33 11) x2) 10) < 1500) (p9 : ¬ ((h x1 8) ≤ x2) → z_is G (h 48 (z_ishr (h (h 33 11) x2) 10)) 1) (p10 : ¬ ((h x1 8) ≤ x2) → z_in ((h (h 48 (z_ishr (h (h 33 11) x2) 10)) 9) % 2))
    (u1 : (h x1 8) ≤ x2 → Q (.inl (some (0, 0))) G h)
    (u2 : ¬ ((h x1 8) ≤ x2) → ((h (h 48 (z_ishr (h (h 33 11) x2) 10)) 9) % 2) = 0 → z_Y D M_X1_hasEdgeToEnd d 5 [(0, 2, 33), (1, 2, x1), (2, 0, (x2 + 1))] [] G h Q)
    (u3 : ¬ ((h x1 8) ≤ x2) → ¬ (((h (h 48 (z_ishr (h (h 33 11) x2) 10)) 9) % 2) = 0) → Q (.inl (some (0, 1))) G h) :
    z_Y D M_X1_hasEdgeToEnd d 5 [(0, 2, 33), (1, 2, x1), (2, 0, x2)] [] G h Q := by
  intro hl0
  refine z_iload_n (q := 6) 2 dX1_hasEdgeToEnd_5 rfl rfl ?_
  refine z_aload_n (q := 7) 1 dX1_hasEdgeToEnd_6 rfl rfl ?_
  refine z_gf (q := 10) (ki := 8) (v := (0, (h x1 8))) fX1_124 rfl rfl p1 dX1_hasEdgeToEnd_7 rfl ?_
  refine z_icmp_ge (q := 13) (t := 41) p2 p3 dX1_hasEdgeToEnd_10 (by decide) rfl (fun c1 => ?_) (fun c1 => ?_)
  · refine z_iconst (q := 42) dX1_hasEdgeToEnd_41 rfl ?_
    exact z_bret rfl (by decide) dX1_hasEdgeToEnd_42 ⟨hl0, u1 c1⟩
  · refine z_aload_n (q := 14) 0 dX1_hasEdgeToEnd_13 rfl rfl ?_
    refine z_gf (q := 17) (ki := 9) (v := (2, 48)) fX1_42 rfl (z_ldr rfl (hl0.ref 44 rfl)) (hl0.i 33 (by decide) rfl) dX1_hasEdgeToEnd_14 rfl ?_
    refine z_aload_n (q := 18) 0 dX1_hasEdgeToEnd_17 rfl rfl ?_
    refine z_gf (q := 21) (ki := 11) (v := (2, (h 33 11))) fX1_50 rfl rfl (hl0.i 33 (by decide) rfl) dX1_hasEdgeToEnd_18 rfl ?_
    refine z_iload_n (q := 22) 2 dX1_hasEdgeToEnd_21 rfl rfl ?_
    refine z_iale (q := 23) (v := (h (h 33 11) x2)) (z_ati (p4 c1)) (p5 c1) (p6 c1) rfl dX1_hasEdgeToEnd_22 rfl ?_
    refine z_bipush (q := 25) dX1_hasEdgeToEnd_23 rfl (by decide) ?_
    refine z_r_ishr (q := 26) dX1_hasEdgeToEnd_25 rfl ?_
    refine z_aale (q := 27) 56 (by decide) (by decide) (hl0.a 48 (by decide) rfl) (p7 c1) (p8 c1) (v := (h 48 (z_ishr (h (h 33 11) x2) 10))) rfl dX1_hasEdgeToEnd_26 rfl ?_
    refine z_gf (q := 30) (ki := 9) (v := (0, ((h (h 48 (z_ishr (h (h 33 11) x2) 10)) 9) % 2))) fX1_176 rfl rfl (p9 c1) dX1_hasEdgeToEnd_27 rfl ?_
    refine z_if_eq (q := 33) (t := 35) (p10 c1) dX1_hasEdgeToEnd_30 (by decide) rfl (fun c2 => ?_) (fun c2 => ?_)
    · refine z_iinc (q := 38) (L' := [(0, 2, 33), (1, 2, x1), (2, 0, (x2 + 1))]) 2 dX1_hasEdgeToEnd_35 rfl rfl (by decide) rfl ?_
      refine z_goto (t := 5) dX1_hasEdgeToEnd_38 (by decide) ?_
      exact u2 c1 c2 hl0
    · refine z_iconst (q := 34) dX1_hasEdgeToEnd_33 rfl ?_
      exact z_bret rfl (by decide) dX1_hasEdgeToEnd_34 ⟨hl0, u3 c1 c2⟩
theorem b_X1_seek_0 {D : zD} {d : Nat} {G : zG} {h : zH} {Q : zO → zG → zH → Prop} {x1 x2 x3 x4 x5 : Int}
    (u1 : z_Kv D M_X1_begin d [(2, 33), (2, x1), (2, x2), (2, x3), (2, x4)] G h (fun G' h' => z_Y D M_X1_seek d 9 [(0, 2, 33), (5, 0, x5)] [] G' h' Q)) :
    z_Y D M_X1_seek d 0 [(0, 2, 33), (1, 2, x1), (2, 2, x2), (3, 2, x3), (4, 2, x4), (5, 0, x5)] [] G h Q := by
  intro hl0
  refine z_aload_n (q := 1) 0 dX1_seek_0 rfl rfl ?_
  refine z_aload_n (q := 2) 1 dX1_seek_1 rfl rfl ?_
  refine z_aload_n (q := 3) 2 dX1_seek_2 rfl rfl ?_
  refine z_aload_n (q := 4) 3 dX1_seek_3 rfl rfl ?_
  refine z_aload (q := 6) 4 dX1_seek_4 rfl rfl ?_
  refine z_sub (L' := [(0, 2, 33), (5, 0, x5)]) [0, 5] rfl ?_
  exact z_goV (q := 9) (av := [(2, x1), (2, x2), (2, x3), (2, x4)]) (rest := []) cb0 (hl0.i 33 (by decide) rfl) z_tov hl0 (u1) mo_X1_begin np_X1_begin k895 k897 k26 rfl (nle rfl) dX1_seek_6 rfl
theorem b_X1_seek_9 {D : zD} {d : Nat} {G : zG} {h : zH} {Q : zO → zG → zH → Prop} {x5 : Int} (p1 : z_in (h 33 15))
    (u1 : (h 33 15) ≤ 0 → z_Y D M_X1_seek d 30 [(0, 2, 33), (5, 0, x5), (6, 0, 0), (7, 0, 1)] [] G h Q)
    (u2 : ¬ ((h 33 15) ≤ 0) → z_Kv D M_X1_tellWays d [(2, 33), (0, 0), (0, 0)] G h (fun G' h' => z_Y D M_X1_seek d 22 [] [] G' h' Q)) :
    z_Y D M_X1_seek d 9 [(0, 2, 33), (5, 0, x5)] [] G h Q := by
  intro hl0
  refine z_aload_n (q := 10) 0 dX1_seek_9 rfl rfl ?_
  refine z_gf (q := 13) (ki := 15) (v := (0, (h 33 15))) fX1_67 rfl rfl (hl0.i 33 (by decide) rfl) dX1_seek_10 rfl ?_
  refine z_if_le (q := 16) (t := 24) p1 dX1_seek_13 (by decide) rfl (fun c1 => ?_) (fun c1 => ?_)
  · refine z_iconst (q := 25) dX1_seek_24 rfl ?_
    refine z_istore (q := 27) (L' := [(0, 2, 33), (5, 0, x5), (6, 0, 0)]) dX1_seek_25 rfl (by decide) rfl ?_
    refine z_iconst (q := 28) dX1_seek_27 rfl ?_
    refine z_istore (q := 30) (L' := [(0, 2, 33), (5, 0, x5), (6, 0, 0), (7, 0, 1)]) dX1_seek_28 rfl (by decide) rfl ?_
    exact u1 c1 hl0
  · refine z_aload_n (q := 17) 0 dX1_seek_16 rfl rfl ?_
    refine z_iconst (q := 18) dX1_seek_17 rfl ?_
    refine z_iconst (q := 19) dX1_seek_18 rfl ?_
    refine z_sub (L' := []) [] rfl ?_
    exact z_goV (q := 22) (av := [(0, 0), (0, 0)]) (rest := []) cb0 (hl0.i 33 (by decide) rfl) z_tov hl0 (u2 c1) mo_X1_tellWays np_X1_tellWays k985 k987 k31 rfl (nle rfl) dX1_seek_19 rfl
theorem b_X1_seek_30 {D : zD} {d : Nat} {G : zG} {h : zH} {Q : zO → zG → zH → Prop} {x5 x6 x7 : Int} (p1 : z_in x7) (p2 : z_in x5)
    (u1 : x5 < x7 → Q (.inl (some (0, (-1)))) G h)
    (u2 : ¬ (x5 < x7) → z_Y D M_X1_seek d 47 [(0, 2, 33), (5, 0, x5), (7, 0, x7), (8, 0, (h 33 14)), (9, 0, x6)] [] G h Q) :
    z_Y D M_X1_seek d 30 [(0, 2, 33), (5, 0, x5), (6, 0, x6), (7, 0, x7)] [] G h Q := by
  intro hl0
  refine z_iload (q := 32) 3 dX1_seek_30 rfl rfl ?_
  refine z_iload (q := 34) 1 dX1_seek_32 rfl rfl ?_
  refine z_icmp_gt (q := 37) (t := 107) p1 p2 dX1_seek_34 (by decide) rfl (fun c1 => ?_) (fun c1 => ?_)
  · refine z_iconst (q := 108) dX1_seek_107 rfl ?_
    exact z_iret rfl dX1_seek_108 ⟨hl0, u1 c1⟩
  · refine z_aload_n (q := 38) 0 dX1_seek_37 rfl rfl ?_
    refine z_gf (q := 41) (ki := 14) (v := (0, (h 33 14))) fX1_64 rfl rfl (hl0.i 33 (by decide) rfl) dX1_seek_38 rfl ?_
    refine z_istore (q := 43) (L' := [(0, 2, 33), (5, 0, x5), (6, 0, x6), (7, 0, x7), (8, 0, (h 33 14))]) dX1_seek_41 rfl (by decide) rfl ?_
    refine z_iload (q := 45) 2 dX1_seek_43 rfl rfl ?_
    refine z_istore (q := 47) (L' := [(0, 2, 33), (5, 0, x5), (6, 0, x6), (7, 0, x7), (8, 0, (h 33 14)), (9, 0, x6)]) dX1_seek_45 rfl (by decide) rfl ?_
    refine z_sub (L' := [(0, 2, 33), (5, 0, x5), (7, 0, x7), (8, 0, (h 33 14)), (9, 0, x6)]) [0, 1, 3, 4, 5] rfl ?_
    exact u2 c1 hl0
theorem b_X1_seek_22 {D : zD} {d : Nat} {G : zG} {h : zH} {Q : zO → zG → zH → Prop}
    (u1 : Q (.inl (some (0, 0))) G h) :
    z_Y D M_X1_seek d 22 [] [] G h Q := by
  intro hl0
  refine z_iconst (q := 23) dX1_seek_22 rfl ?_
  exact z_iret rfl dX1_seek_23 ⟨hl0, u1⟩
theorem b_X1_seek_47 {D : zD} {d : Nat} {G : zG} {h : zH} {Q : zO → zG → zH → Prop} {x5 x7 x8 x9 : Int} (p1 : z_in x9) (p2 : z_in x8) (p3 : x8 ≤ x9 → z_in (h 33 15)) (p4 : ¬ (x8 ≤ x9) → 0 ≤ x9) (p5 : ¬ (x8 ≤ x9) → x9 < 1500)
    (u1 : x8 ≤ x9 → (h 33 15) ≤ 0 → z_Y D M_X1_seek d 30 [(0, 2, 33), (5, 0, x5), (6, 0, x8), (7, 0, (x7 + 1))] [] G h Q)
    (u2 : x8 ≤ x9 → ¬ ((h 33 15) ≤ 0) → z_Kv D M_X1_tellWays d [(2, 33), (0, x7), (0, x8)] G h (fun G' h' => z_Y D M_X1_seek d 94 [(7, 0, x7)] [] G' h' Q))
    (u3 : ¬ (x8 ≤ x9) → z_Ki D M_X1_expand d [(2, 33), (2, (h 48 x9)), (0, x8)] G h (fun r G' h' => z_Y D M_X1_seek d 67 [(0, 2, 33), (5, 0, x5), (7, 0, x7), (8, 0, x8), (9, 0, x9)] [(0, r)] G' h' Q)) :
    z_Y D M_X1_seek d 47 [(0, 2, 33), (5, 0, x5), (7, 0, x7), (8, 0, x8), (9, 0, x9)] [] G h Q := by
  intro hl0
  refine z_iload (q := 49) 4 dX1_seek_47 rfl rfl ?_
  refine z_iload (q := 51) 3 dX1_seek_49 rfl rfl ?_
  refine z_icmp_ge (q := 54) (t := 79) p1 p2 dX1_seek_51 (by decide) rfl (fun c1 => ?_) (fun c1 => ?_)
  · refine z_aload_n (q := 80) 0 dX1_seek_79 rfl rfl ?_
    refine z_gf (q := 83) (ki := 15) (v := (0, (h 33 15))) fX1_67 rfl rfl (hl0.i 33 (by decide) rfl) dX1_seek_80 rfl ?_
    refine z_if_le (q := 86) (t := 97) (p3 c1) dX1_seek_83 (by decide) rfl (fun c2 => ?_) (fun c2 => ?_)
    · refine z_iload (q := 99) 3 dX1_seek_97 rfl rfl ?_
      refine z_istore (q := 101) (L' := [(0, 2, 33), (5, 0, x5), (6, 0, x8), (7, 0, x7), (8, 0, x8), (9, 0, x9)]) dX1_seek_99 rfl (by decide) rfl ?_
      refine z_iinc (q := 104) (L' := [(0, 2, 33), (5, 0, x5), (6, 0, x8), (7, 0, (x7 + 1)), (8, 0, x8), (9, 0, x9)]) 3 dX1_seek_101 rfl rfl (by decide) rfl ?_
      refine z_goto (t := 30) dX1_seek_104 (by decide) ?_
      refine z_sub (L' := [(0, 2, 33), (5, 0, x5), (6, 0, x8), (7, 0, (x7 + 1))]) [0, 1, 2, 3] rfl ?_
      exact u1 c1 c2 hl0
    · refine z_aload_n (q := 87) 0 dX1_seek_86 rfl rfl ?_
      refine z_iload (q := 89) 2 dX1_seek_87 rfl rfl ?_
      refine z_iload (q := 91) 3 dX1_seek_89 rfl rfl ?_
      refine z_sub (L' := [(7, 0, x7)]) [2] rfl ?_
      exact z_goV (q := 94) (av := [(0, x7), (0, x8)]) (rest := []) cb0 (hl0.i 33 (by decide) rfl) z_tov hl0 (u2 c1 c2) mo_X1_tellWays np_X1_tellWays k985 k987 k31 rfl (nle rfl) dX1_seek_91 rfl
  · refine z_aload_n (q := 55) 0 dX1_seek_54 rfl rfl ?_
    refine z_aload_n (q := 56) 0 dX1_seek_55 rfl rfl ?_
    refine z_gf (q := 59) (ki := 9) (v := (2, 48)) fX1_42 rfl (z_ldr rfl (hl0.ref 44 rfl)) (hl0.i 33 (by decide) rfl) dX1_seek_56 rfl ?_
    refine z_iload (q := 61) 4 dX1_seek_59 rfl rfl ?_
    refine z_aale (q := 62) 56 (by decide) (by decide) (hl0.a 48 (by decide) rfl) (p4 c1) (p5 c1) (v := (h 48 x9)) rfl dX1_seek_61 rfl ?_
    refine z_iload (q := 64) 3 dX1_seek_62 rfl rfl ?_
    exact z_goV (q := 67) (av := [(2, (h 48 x9)), (0, x8)]) (rest := []) cb0 (hl0.i 33 (by decide) rfl) z_toi hl0 (u3 c1) mo_X1_expand np_X1_expand k1007 k1009 k34 rfl (nle rfl) dX1_seek_64 rfl
theorem b_X1_seek_94 {D : zD} {d : Nat} {G : zG} {h : zH} {Q : zO → zG → zH → Prop} {x7 : Int}
    (u1 : Q (.inl (some (0, x7))) G h) :
    z_Y D M_X1_seek d 94 [(7, 0, x7)] [] G h Q := by
  intro hl0
  refine z_iload (q := 96) 0 dX1_seek_94 rfl rfl ?_
  exact z_iret rfl dX1_seek_96 ⟨hl0, u1⟩
theorem b_X1_seek_67 {D : zD} {d : Nat} {G : zG} {h : zH} {Q : zO → zG → zH → Prop} {s0 x5 x7 x8 x9 : Int} (p1 : z_in s0)
    (u1 : ¬ s0 = 0 → z_Y D M_X1_seek d 47 [(0, 2, 33), (5, 0, x5), (7, 0, x7), (8, 0, x8), (9, 0, (x9 + 1))] [] G h Q)
    (u2 : ¬ (¬ s0 = 0) → Q (.inl (some (0, (-3)))) G h) :
    z_Y D M_X1_seek d 67 [(0, 2, 33), (5, 0, x5), (7, 0, x7), (8, 0, x8), (9, 0, x9)] [(0, s0)] G h Q := by
  intro hl0
  refine z_if_ne (q := 70) (t := 73) p1 dX1_seek_67 (by decide) rfl (fun c1 => ?_) (fun c1 => ?_)
  · refine z_iinc (q := 76) (L' := [(0, 2, 33), (5, 0, x5), (7, 0, x7), (8, 0, x8), (9, 0, (x9 + 1))]) 4 dX1_seek_73 rfl rfl (by decide) rfl ?_
    refine z_goto (t := 47) dX1_seek_76 (by decide) ?_
    exact u1 c1 hl0
  · refine z_bipush (q := 72) dX1_seek_70 rfl (by decide) ?_
    exact z_iret rfl dX1_seek_72 ⟨hl0, u2 c1⟩
theorem b_X1_tellWays_0 {D : zD} {d : Nat} {G : zG} {h : zH} {Q : zO → zG → zH → Prop} {x1 x2 : Int}
    (u1 : z_Y D M_X1_tellWays d 2 [(0, 2, 33), (1, 0, x1), (2, 0, x2), (3, 0, x2)] [] G h Q) :
    z_Y D M_X1_tellWays d 0 [(0, 2, 33), (1, 0, x1), (2, 0, x2)] [] G h Q := by
  intro hl0
  refine z_iload_n (q := 1) 2 dX1_tellWays_0 rfl rfl ?_
  refine z_istore_n (q := 2) (L' := [(0, 2, 33), (1, 0, x1), (2, 0, x2), (3, 0, x2)]) dX1_tellWays_1 rfl (by decide) rfl ?_
  exact u1 hl0
theorem b_X1_tellWays_2 {D : zD} {d : Nat} {G : zG} {h : zH} {Q : zO → zG → zH → Prop} {x1 x2 x3 : Int} (hd : 1 ≤ d) (p1 : z_in x3) (p2 : z_in (h 33 14)) (p3 : ¬ ((h 33 14) ≤ x3) → 0 ≤ x3) (p4 : ¬ ((h 33 14) ≤ x3) → x3 < 1500) (p5 : ¬ ((h 33 14) ≤ x3) → z_is G (h 48 x3) 1) (p6 : ¬ ((h 33 14) ≤ x3) → z_in ((h (h 48 x3) 9) % 2)) (p7 : ¬ ((h 33 14) ≤ x3) → ¬ (((h (h 48 x3) 9) % 2) = 0) → z_in ((h 33 16) + (h (h 48 x3) 6)))
    (u1 : (h 33 14) ≤ x3 → z_Y D M_X1_tellWays d 55 [(0, 2, 33), (1, 0, x1), (3, 0, (x2 - 1))] [] G h Q)
    (u2 : ¬ ((h 33 14) ≤ x3) → ((h (h 48 x3) 9) % 2) = 0 → z_Y D M_X1_tellWays d 2 [(0, 2, 33), (1, 0, x1), (2, 0, x2), (3, 0, (x3 + 1))] [] G h Q)
    (u3 : ¬ ((h 33 14) ≤ x3) → ¬ (((h (h 48 x3) 9) % 2) = 0) → z_Y D M_X1_tellWays d 2 [(0, 2, 33), (1, 0, x1), (2, 0, x2), (3, 0, (x3 + 1))] [] G (z_wr h 33 16 (if ((h 33 16) + (h (h 48 x3) 6)) < 1000000 then ((h 33 16) + (h (h 48 x3) 6)) else 1000000)) Q) :
    z_Y D M_X1_tellWays d 2 [(0, 2, 33), (1, 0, x1), (2, 0, x2), (3, 0, x3)] [] G h Q := by
  intro hl0
  refine z_iload_n (q := 3) 3 dX1_tellWays_2 rfl rfl ?_
  refine z_aload_n (q := 4) 0 dX1_tellWays_3 rfl rfl ?_
  refine z_gf (q := 7) (ki := 14) (v := (0, (h 33 14))) fX1_64 rfl rfl (hl0.i 33 (by decide) rfl) dX1_tellWays_4 rfl ?_
  refine z_icmp_ge (q := 10) (t := 51) p1 p2 dX1_tellWays_7 (by decide) rfl (fun c1 => ?_) (fun c1 => ?_)
  · refine z_iload_n (q := 52) 2 dX1_tellWays_51 rfl rfl ?_
    refine z_iconst (q := 53) dX1_tellWays_52 rfl ?_
    refine z_isub (q := 54) dX1_tellWays_53 rfl ?_
    refine z_istore_n (q := 55) (L' := [(0, 2, 33), (1, 0, x1), (2, 0, x2), (3, 0, (x2 - 1))]) dX1_tellWays_54 rfl (by decide) rfl ?_
    refine z_sub (L' := [(0, 2, 33), (1, 0, x1), (3, 0, (x2 - 1))]) [0, 1, 3] rfl ?_
    exact u1 c1 hl0
  · refine z_aload_n (q := 11) 0 dX1_tellWays_10 rfl rfl ?_
    refine z_gf (q := 14) (ki := 9) (v := (2, 48)) fX1_42 rfl (z_ldr rfl (hl0.ref 44 rfl)) (hl0.i 33 (by decide) rfl) dX1_tellWays_11 rfl ?_
    refine z_iload_n (q := 15) 3 dX1_tellWays_14 rfl rfl ?_
    refine z_aale (q := 16) 56 (by decide) (by decide) (hl0.a 48 (by decide) rfl) (p3 c1) (p4 c1) (v := (h 48 x3)) rfl dX1_tellWays_15 rfl ?_
    refine z_gf (q := 19) (ki := 9) (v := (0, ((h (h 48 x3) 9) % 2))) fX1_176 rfl rfl (p5 c1) dX1_tellWays_16 rfl ?_
    refine z_if_eq (q := 22) (t := 45) (p6 c1) dX1_tellWays_19 (by decide) rfl (fun c2 => ?_) (fun c2 => ?_)
    · refine z_iinc (q := 48) (L' := [(0, 2, 33), (1, 0, x1), (2, 0, x2), (3, 0, (x3 + 1))]) 3 dX1_tellWays_45 rfl rfl (by decide) rfl ?_
      refine z_goto (t := 2) dX1_tellWays_48 (by decide) ?_
      exact u2 c1 c2 hl0
    · refine z_aload_n (q := 23) 0 dX1_tellWays_22 rfl rfl ?_
      refine z_ldc (q := 25) (n := 1000000) k989 (by decide) dX1_tellWays_23 rfl ?_
      refine z_aload_n (q := 26) 0 dX1_tellWays_25 rfl rfl ?_
      refine z_gf (q := 29) (ki := 16) (v := (0, (h 33 16))) fX1_70 rfl rfl (hl0.i 33 (by decide) rfl) dX1_tellWays_26 rfl ?_
      refine z_aload_n (q := 30) 0 dX1_tellWays_29 rfl rfl ?_
      refine z_gf (q := 33) (ki := 9) (v := (2, 48)) fX1_42 rfl (z_ldr rfl (hl0.ref 44 rfl)) (hl0.i 33 (by decide) rfl) dX1_tellWays_30 rfl ?_
      refine z_iload_n (q := 34) 3 dX1_tellWays_33 rfl rfl ?_
      refine z_aale (q := 35) 56 (by decide) (by decide) (hl0.a 48 (by decide) rfl) (p3 c1) (p4 c1) (v := (h 48 x3)) rfl dX1_tellWays_34 rfl ?_
      refine z_gf (q := 38) (ki := 6) (v := (0, (h (h 48 x3) 6))) fX1_114 rfl rfl (p5 c1) dX1_tellWays_35 rfl ?_
      refine z_iadd (q := 39) dX1_tellWays_38 rfl ?_
      refine z_min (q := 42) ⟨by decide, by decide⟩ (p7 c1 c2) k990 k981 k117 k982 (by omega) (nle rfl) dX1_tellWays_39 rfl ?_
      refine z_pf (q := 45) (ki := 16) fX1_70 rfl (z_sv0 rfl) (hl0.i 33 (by decide) rfl) dX1_tellWays_42 rfl ?_
      have hl1 := hl0.wr (v := (if ((h 33 16) + (h (h 48 x3) 6)) < 1000000 then ((h 33 16) + (h (h 48 x3) 6)) else 1000000)) (hl0.i 33 (by decide) rfl) (i := 16) (by decide)
      refine z_iinc (q := 48) (L' := [(0, 2, 33), (1, 0, x1), (2, 0, x2), (3, 0, (x3 + 1))]) 3 dX1_tellWays_45 rfl rfl (by decide) rfl ?_
      refine z_goto (t := 2) dX1_tellWays_48 (by decide) ?_
      exact u3 c1 c2 hl1
theorem b_X1_tellWays_55 {D : zD} {d : Nat} {G : zG} {h : zH} {Q : zO → zG → zH → Prop} {x1 x3 : Int} (p1 : z_in x3) (p2 : ¬ (x3 < 0) → 0 ≤ x3) (p3 : ¬ (x3 < 0) → x3 < 1500)
    (u1 : x3 < 0 → z_Kv D M_X7_start d [(2, 51)] G h (fun G' h' => z_Y D M_X1_tellWays d 91 [(0, 2, 33), (1, 0, x1)] [] G' h' Q))
    (u2 : ¬ (x3 < 0) → z_Ki D M_X1_hasEdgeToEnd d [(2, 33), (2, (h 48 x3))] G h (fun r G' h' => z_Y D M_X1_tellWays d 75 [(0, 2, 33), (1, 0, x1), (3, 0, x3)] [(0, r), (2, (h 48 x3))] G' h' Q)) :
    z_Y D M_X1_tellWays d 55 [(0, 2, 33), (1, 0, x1), (3, 0, x3)] [] G h Q := by
  intro hl0
  refine z_iload_n (q := 56) 2 dX1_tellWays_55 rfl rfl ?_
  refine z_if_lt (q := 59) (t := 84) p1 dX1_tellWays_56 (by decide) rfl (fun c1 => ?_) (fun c1 => ?_)
  · refine z_aload_n (q := 85) 0 dX1_tellWays_84 rfl rfl ?_
    refine z_gf (q := 88) (ki := 13) (v := (2, 51)) fX1_60 rfl (z_ldr rfl (hl0.ref 46 rfl)) (hl0.i 33 (by decide) rfl) dX1_tellWays_85 rfl ?_
    refine z_sub (L' := [(0, 2, 33), (1, 0, x1)]) [0, 1] rfl ?_
    exact z_goV (q := 91) (av := []) (rest := []) cb5 (hl0.i 51 (by decide) rfl) z_tov hl0 (u1 c1) mo_X7_start np_X7_start k995 k996 k997 rfl (nle rfl) dX1_tellWays_88 rfl
  · refine z_aload_n (q := 60) 0 dX1_tellWays_59 rfl rfl ?_
    refine z_gf (q := 63) (ki := 9) (v := (2, 48)) fX1_42 rfl (z_ldr rfl (hl0.ref 44 rfl)) (hl0.i 33 (by decide) rfl) dX1_tellWays_60 rfl ?_
    refine z_iload_n (q := 64) 2 dX1_tellWays_63 rfl rfl ?_
    refine z_aale (q := 65) 56 (by decide) (by decide) (hl0.a 48 (by decide) rfl) (p2 c1) (p3 c1) (v := (h 48 x3)) rfl dX1_tellWays_64 rfl ?_
    refine z_aload_n (q := 66) 0 dX1_tellWays_65 rfl rfl ?_
    refine z_aload_n (q := 67) 0 dX1_tellWays_66 rfl rfl ?_
    refine z_gf (q := 70) (ki := 9) (v := (2, 48)) fX1_42 rfl (z_ldr rfl (hl0.ref 44 rfl)) (hl0.i 33 (by decide) rfl) dX1_tellWays_67 rfl ?_
    refine z_iload_n (q := 71) 2 dX1_tellWays_70 rfl rfl ?_
    refine z_aale (q := 72) 56 (by decide) (by decide) (hl0.a 48 (by decide) rfl) (p2 c1) (p3 c1) (v := (h 48 x3)) rfl dX1_tellWays_71 rfl ?_
    exact z_goV (q := 75) (av := [(2, (h 48 x3))]) (rest := [(2, (h 48 x3))]) cb0 (hl0.i 33 (by decide) rfl) z_toi hl0 (u2 c1) mo_X1_hasEdgeToEnd np_X1_hasEdgeToEnd k991 k993 k32 rfl (nle rfl) dX1_tellWays_72 rfl
theorem b_X1_tellWays_91 {D : zD} {d : Nat} {G : zG} {h : zH} {Q : zO → zG → zH → Prop} {x1 : Int}
    (u1 : z_Y D M_X1_tellWays d 93 [(0, 2, 33), (1, 0, x1), (3, 0, 0)] [] G h Q) :
    z_Y D M_X1_tellWays d 91 [(0, 2, 33), (1, 0, x1)] [] G h Q := by
  intro hl0
  refine z_iconst (q := 92) dX1_tellWays_91 rfl ?_
  refine z_istore_n (q := 93) (L' := [(0, 2, 33), (1, 0, x1), (3, 0, 0)]) dX1_tellWays_92 rfl (by decide) rfl ?_
  exact u1 hl0
theorem b_X1_tellWays_75 {D : zD} {d : Nat} {G : zG} {h : zH} {Q : zO → zG → zH → Prop} {s0 s1 x1 x3 : Int} (p1 : z_is G s0 1) (p2 : s1 = 0 ∨ s1 = 1)
    (u1 : z_Y D M_X1_tellWays d 55 [(0, 2, 33), (1, 0, x1), (3, 0, (x3 + (-1)))] [] G (z_wr h s0 9 s1) Q) :
    z_Y D M_X1_tellWays d 75 [(0, 2, 33), (1, 0, x1), (3, 0, x3)] [(0, s1), (2, s0)] G h Q := by
  intro hl0
  refine z_pf (q := 78) (ki := 9) fX1_176 rfl (z_sv4 rfl p2) p1 dX1_tellWays_75 rfl ?_
  have hl1 := hl0.wr (v := s1) p1 (i := 9) (by decide)
  refine z_iinc (q := 81) (L' := [(0, 2, 33), (1, 0, x1), (3, 0, (x3 + (-1)))]) 2 dX1_tellWays_78 rfl rfl (by decide) rfl ?_
  refine z_goto (t := 55) dX1_tellWays_81 (by decide) ?_
  exact u1 hl1
theorem b_X1_tellWays_93 {D : zD} {d : Nat} {G : zG} {h : zH} {Q : zO → zG → zH → Prop} {x1 x3 : Int} (p1 : z_in x3) (p2 : z_in x1)
    (u1 : x1 ≤ x3 → Q (.inl none) G h)
    (u2 : ¬ (x1 ≤ x3) → z_Kv D M_X7_grow d [(2, 51), (2, 48), (2, (h 33 11))] G h (fun G' h' => z_Y D M_X1_tellWays d 113 [(0, 2, 33), (1, 0, x1), (3, 0, x3)] [] G' h' Q)) :
    z_Y D M_X1_tellWays d 93 [(0, 2, 33), (1, 0, x1), (3, 0, x3)] [] G h Q := by
  intro hl0
  refine z_iload_n (q := 94) 2 dX1_tellWays_93 rfl rfl ?_
  refine z_iload_n (q := 95) 1 dX1_tellWays_94 rfl rfl ?_
  refine z_icmp_ge (q := 98) (t := 119) p1 p2 dX1_tellWays_95 (by decide) rfl (fun c1 => ?_) (fun c1 => ?_)
  · exact z_vret rfl dX1_tellWays_119 ⟨hl0, u1 c1⟩
  · refine z_aload_n (q := 99) 0 dX1_tellWays_98 rfl rfl ?_
    refine z_gf (q := 102) (ki := 13) (v := (2, 51)) fX1_60 rfl (z_ldr rfl (hl0.ref 46 rfl)) (hl0.i 33 (by decide) rfl) dX1_tellWays_99 rfl ?_
    refine z_aload_n (q := 103) 0 dX1_tellWays_102 rfl rfl ?_
    refine z_gf (q := 106) (ki := 9) (v := (2, 48)) fX1_42 rfl (z_ldr rfl (hl0.ref 44 rfl)) (hl0.i 33 (by decide) rfl) dX1_tellWays_103 rfl ?_
    refine z_aload_n (q := 107) 0 dX1_tellWays_106 rfl rfl ?_
    refine z_gf (q := 110) (ki := 11) (v := (2, (h 33 11))) fX1_50 rfl rfl (hl0.i 33 (by decide) rfl) dX1_tellWays_107 rfl ?_
    exact z_goV (q := 113) (av := [(2, 48), (2, (h 33 11))]) (rest := []) cb5 (hl0.i 51 (by decide) rfl) z_tov hl0 (u2 c1) mo_X7_grow np_X7_grow k999 k1000 k1001 rfl (nle rfl) dX1_tellWays_110 rfl
theorem b_X1_tellWays_113 {D : zD} {d : Nat} {G : zG} {h : zH} {Q : zO → zG → zH → Prop} {x1 x3 : Int}
    (u1 : z_Y D M_X1_tellWays d 93 [(0, 2, 33), (1, 0, x1), (3, 0, (x3 + 1))] [] G h Q) :
    z_Y D M_X1_tellWays d 113 [(0, 2, 33), (1, 0, x1), (3, 0, x3)] [] G h Q := by
  intro hl0
  refine z_iinc (q := 116) (L' := [(0, 2, 33), (1, 0, x1), (3, 0, (x3 + 1))]) 2 dX1_tellWays_113 rfl rfl (by decide) rfl ?_
  refine z_goto (t := 93) dX1_tellWays_116 (by decide) ?_
  exact u1 hl0
