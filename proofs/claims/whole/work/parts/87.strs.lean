section Ldcw
variable {D : zD} {M : zM} {d pc q idx : Nat} {L : List (Nat × zV)} {st : List zV} {G : zG} {h : zH} {Q : zO → zG → zH → Prop}
theorem z_ldcwS {p : Program} {l : Launch} {e : Env} {R : Room} {s : State} {m : MethodId} {args : Array Value} {below : List Frame} {meth : Method} {c : Code} {T : State} {locs : List Loc} {cells slots : Nat}
    (X : Stand p l e R s m args below meth c T locs cells slots) (hexec : p.tables.exec = Jvm.exec) {own text : String} {index : Nat} {a : Addr} (hown : s.vm.findClass own = some m.cls)
    (hconst : (Cond.stringRef own index text).before args s = true) (hev : (Term.string own index).eval args s none [] s = some (.ref a)) {g : JFrame} (hg : g.method = m) (hdg : decode c.code g.pc = .ok (.ldc_w index, 3)) :
    ∀ target, Steps p.tables e below (T.setTop { g with pc := g.pc + 3, stack := .ref a :: g.stack }) target → Steps p.tables e below (T.setTop g) target := by
  obtain ⟨k, cf, i, a', hk, hcf, hcp, -, hr, hev'⟩ := Cond.stringRef_spec hown hconst
  cases hev.symm.trans hev'
  obtain ⟨k', hk', he⟩ := X.warmed.alike.2.2 _ _ hk
  have hr' : k'.resolved[index]? = some (some (.string a)) := by
    rcases X.warmed.entry hk hk' index with h | ⟨h, -⟩
    · rw [h]; exact hr
    · rw [hr] at h; cases h
  intro target hrest
  subst hg
  jvm_step X.here [hexec, hdg, ldc_w.wp_string (e := e) (s := T) (f := g) X.here.top hk' (by rw [he]; exact hcf) hcp hr']
  exact hrest
theorem z_ldcsw {i : Nat} {tx : String} (hm : (M.1.cls, idx, tx, i) ∈ z_sk) (hd : decode M.2.1 pc = .ok (.ldc_w idx, 3)) (hq : pc + 3 = q) (kk : z_F D M d q L ((2, -(10 + (i : Int))) :: st) G h Q) : z_F D M d pc L st G h Q := by
  subst hq
  refine z_pure (fun {p l e R s m args below meth c H locs cells slots ls Qw} cx hr hl kk => ?_) kk
  have := kk _ hl
  rw [z_sc_ref (by omega), show (-(10 + (i : Int))) = -((10 + i : Nat) : Int) by omega, z_adk _ (by omega)] at this
  intro T hT X
  obtain ⟨t, a1, b1⟩ := this T hT X
  have hZ := cx.wd.2.2.2.2.1 _ hm
  exact ⟨t, z_ldcwS X cx.1 cx.own (text := tx) hZ.1 hZ.2 (g := F0 m pc ls (z_sc D st)) rfl (by rw [cx.2.1]; exact hd) t a1, b1⟩
end Ldcw
theorem b_J3_checkIndex_8e157_0 {D : zD} {d : Nat} {G : zG} {h : zH} {Q : zO → zG → zH → Prop} {x0 x1 x2 : Int} (p1 : z_in x0) (p2 : ¬ (x0 < 0) → z_in x1)
    (u1 : x0 < 0 → z_Y D M_J3_checkIndex_8e157 d 9 [(0, 0, x0), (1, 0, x1), (2, 2, x2)] [] G h Q)
    (u2 : ¬ (x0 < 0) → x0 < x1 → Q (.inl (some (0, x0))) G h)
    (u3 : ¬ (x0 < 0) → ¬ (x0 < x1) → z_Y D M_J3_checkIndex_8e157 d 9 [(0, 0, x0), (1, 0, x1), (2, 2, x2)] [] G h Q) :
    z_Y D M_J3_checkIndex_8e157 d 0 [(0, 0, x0), (1, 0, x1), (2, 2, x2)] [] G h Q := by
  intro hl0
  refine z_iload_n (q := 1) 0 dJ3_checkIndex_8e157_0 rfl rfl ?_
  refine z_if_lt (q := 4) (t := 9) p1 dJ3_checkIndex_8e157_1 (by decide) rfl (fun c1 => ?_) (fun c1 => ?_)
  · exact u1 c1 hl0
  · refine z_iload_n (q := 5) 0 dJ3_checkIndex_8e157_4 rfl rfl ?_
    refine z_iload_n (q := 6) 1 dJ3_checkIndex_8e157_5 rfl rfl ?_
    refine z_icmp_lt (q := 9) (t := 16) p1 (p2 c1) dJ3_checkIndex_8e157_6 (by decide) rfl (fun c2 => ?_) (fun c2 => ?_)
    · refine z_iload_n (q := 17) 0 dJ3_checkIndex_8e157_16 rfl rfl ?_
      exact z_iret rfl dJ3_checkIndex_8e157_17 ⟨hl0, u2 c1 c2⟩
    · exact u3 c1 c2 hl0
theorem b_J3_checkIndex_8e157_9 {D : zD} {d : Nat} {G : zG} {h : zH} {Q : zO → zG → zH → Prop} {x0 x1 x2 : Int}
    (u1 : False) :
    z_Y D M_J3_checkIndex_8e157 d 9 [(0, 0, x0), (1, 0, x1), (2, 2, x2)] [] G h Q := by
  intro hl0
  refine z_aload_n (q := 10) 2 dJ3_checkIndex_8e157_9 rfl rfl ?_
  refine z_iload_n (q := 11) 0 dJ3_checkIndex_8e157_10 rfl rfl ?_
  refine z_iload_n (q := 12) 1 dJ3_checkIndex_8e157_11 rfl rfl ?_
  exact (u1).elim
theorem b_J0_checkIndex_df160_0 {D : zD} {d : Nat} {G : zG} {h : zH} {Q : zO → zG → zH → Prop} {x0 x1 : Int}
    (u1 : z_Ki D M_J3_checkIndex_8e157 d [(0, x0), (0, x1), (2, (z_rv D 50))] G h (fun r G' h' => z_Y D M_J0_checkIndex_df160 d 8 [] [(0, r)] G' h' Q)) :
    z_Y D M_J0_checkIndex_df160 d 0 [(0, 0, x0), (1, 0, x1)] [] G h Q := by
  intro hl0
  refine z_iload_n (q := 1) 0 dJ0_checkIndex_df160_0 rfl rfl ?_
  refine z_iload_n (q := 2) 1 dJ0_checkIndex_df160_1 rfl rfl ?_
  refine z_getr (q := 5) (c := 50) (by decide) (by decide) k579 dJ0_checkIndex_df160_2 rfl ?_
  refine z_sub (L' := []) [] rfl ?_
  exact z_goS (q := 8) (av := [(0, x0), (0, x1), (2, (z_rv D 50))]) (rest := []) z_toi hl0 (u1) mo_J3_checkIndex_8e157 np_J3_checkIndex_8e157 k581 k582 rfl (nle rfl) dJ0_checkIndex_df160_5 rfl
theorem b_J0_checkIndex_df160_8 {D : zD} {d : Nat} {G : zG} {h : zH} {Q : zO → zG → zH → Prop} {s0 : Int}
    (u1 : Q (.inl none) G h) :
    z_Y D M_J0_checkIndex_df160 d 8 [] [(0, s0)] G h Q := by
  intro hl0
  refine z_pop (q := 9) (by decide) dJ0_checkIndex_df160_8 rfl ?_
  exact z_vret rfl dJ0_checkIndex_df160_9 ⟨hl0, u1⟩
theorem b_J1_charAt_3b067_0 {D : zD} {d : Nat} {G : zG} {h : zH} {Q : zO → zG → zH → Prop} {x0 x1 : Int} {n : Int} {f : Int → Int} (pA : z_at D G h x0 52 n f)
    (u1 : z_Kv D M_J0_checkIndex_df160 d [(0, x1), (0, n)] G h (fun G' h' => z_Y D M_J1_charAt_3b067 d 6 [(0, 2, x0), (1, 0, x1)] [] G' h' Q)) :
    z_Y D M_J1_charAt_3b067 d 0 [(0, 2, x0), (1, 0, x1)] [] G h Q := by
  intro hl0
  refine z_iload_n (q := 1) 1 dJ1_charAt_3b067_0 rfl rfl ?_
  refine z_aload_n (q := 2) 0 dJ1_charAt_3b067_1 rfl rfl ?_
  refine z_alen (q := 3) 52 (by decide) (by decide) pA dJ1_charAt_3b067_2 rfl ?_
  exact z_goS (q := 6) (av := [(0, x1), (0, n)]) (rest := []) z_tov hl0 (u1) mo_J0_checkIndex_df160 np_J0_checkIndex_df160 k576 k577 rfl (nle rfl) dJ1_charAt_3b067_3 rfl
theorem b_J1_charAt_3b067_6 {D : zD} {d : Nat} {G : zG} {h : zH} {Q : zO → zG → zH → Prop} {x0 x1 : Int} {n : Int} {f : Int → Int} (pA : z_at D G h x0 52 n f) (p1 : 0 ≤ x1) (p2 : x1 < n) (p3 : 0 ≤ (z_iand (w8 (f x1)) 255)) (p4 : (z_iand (w8 (f x1)) 255) < 256) (p5 : narrow .char (.int (Int32.ofInt (z_iand (w8 (f x1)) 255))) = .int (Int32.ofInt (z_iand (w8 (f x1)) 255)))
    (u1 : Q (.inl (some (0, (z_iand (w8 (f x1)) 255)))) G h) :
    z_Y D M_J1_charAt_3b067 d 6 [(0, 2, x0), (1, 0, x1)] [] G h Q := by
  intro hl0
  refine z_aload_n (q := 7) 0 dJ1_charAt_3b067_6 rfl rfl ?_
  refine z_iload_n (q := 8) 1 dJ1_charAt_3b067_7 rfl rfl ?_
  refine z_bale (q := 9) (v := (f x1)) pA p1 p2 rfl dJ1_charAt_3b067_8 rfl ?_
  refine z_sipush (q := 12) dJ1_charAt_3b067_9 rfl (by decide) ?_
  refine z_r_iand (q := 13) dJ1_charAt_3b067_12 rfl ?_
  refine z_i2c (q := 14) p3 p4 dJ1_charAt_3b067_13 rfl ?_
  exact z_zret rfl p5 dJ1_charAt_3b067_14 ⟨hl0, u1⟩
theorem b_J0_coder_7d493_0 {D : zD} {d : Nat} {G : zG} {h : zH} {Q : zO → zG → zH → Prop} {i : Nat} (hi : i < 16) (p1 : narrow .byte (.int (Int32.ofInt 0)) = .int (Int32.ofInt 0))
    (u1 : Q (.inl (some (0, 0))) G h) :
    z_Y D M_J0_coder_7d493 d 0 [(0, 2, (-(10 + (i : Int))))] [] G h Q := by
  intro hl0
  refine z_getz (q := 3) k563 dJ0_coder_7d493_0 rfl ?_
  refine z_if_eq (q := 6) (t := 13) ⟨by decide, by decide⟩ dJ0_coder_7d493_3 (by decide) rfl (fun c => absurd c (by decide)) (fun _ => ?_)
  refine z_aload_n (q := 7) 0 dJ0_coder_7d493_6 rfl rfl ?_
  refine z_sgc (q := 10) i hi k1699 dJ0_coder_7d493_7 rfl ?_
  refine z_goto (t := 14) dJ0_coder_7d493_10 (by decide) ?_
  exact z_zret rfl p1 dJ0_coder_7d493_14 ⟨hl0, u1⟩
theorem b_J0_isLatin1_aae02_0 {D : zD} {d : Nat} {G : zG} {h : zH} {Q : zO → zG → zH → Prop} {i : Nat} (hi : i < 16)
    (u1 : Q (.inl (some (0, 1))) G h) :
    z_Y D M_J0_isLatin1_aae02 d 0 [(0, 2, (-(10 + (i : Int))))] [] G h Q := by
  intro hl0
  refine z_getz (q := 3) k563 dJ0_isLatin1_aae02_0 rfl ?_
  refine z_if_eq (q := 6) (t := 17) ⟨by decide, by decide⟩ dJ0_isLatin1_aae02_3 (by decide) rfl (fun c => absurd c (by decide)) (fun _ => ?_)
  refine z_aload_n (q := 7) 0 dJ0_isLatin1_aae02_6 rfl rfl ?_
  refine z_sgc (q := 10) i hi k1699 dJ0_isLatin1_aae02_7 rfl ?_
  refine z_if_ne (q := 13) (t := 17) ⟨by decide, by decide⟩ dJ0_isLatin1_aae02_10 (by decide) rfl (fun c => absurd c (by decide)) (fun _ => ?_)
  refine z_iconst (q := 14) dJ0_isLatin1_aae02_13 rfl ?_
  refine z_goto (t := 18) dJ0_isLatin1_aae02_14 (by decide) ?_
  exact z_bret rfl (by decide) dJ0_isLatin1_aae02_18 ⟨hl0, u1⟩
theorem b_J1_canEncode_9a6ad_0 {D : zD} {d : Nat} {G : zG} {h : zH} {Q : zO → zG → zH → Prop} {x0 : Int} (p1 : z_in x0)
    (u1 : x0 < 0 → Q (.inl (some (0, 0))) G h)
    (u2 : ¬ (x0 < 0) → 255 < x0 → Q (.inl (some (0, 0))) G h)
    (u3 : ¬ (x0 < 0) → ¬ (255 < x0) → Q (.inl (some (0, 1))) G h) :
    z_Y D M_J1_canEncode_9a6ad d 0 [(0, 0, x0)] [] G h Q := by
  intro hl0
  refine z_iload_n (q := 1) 0 dJ1_canEncode_9a6ad_0 rfl rfl ?_
  refine z_if_lt (q := 4) (t := 15) p1 dJ1_canEncode_9a6ad_1 (by decide) rfl (fun c1 => ?_) (fun c1 => ?_)
  · refine z_iconst (q := 16) dJ1_canEncode_9a6ad_15 rfl ?_
    exact z_bret rfl (by decide) dJ1_canEncode_9a6ad_16 ⟨hl0, u1 c1⟩
  · refine z_iload_n (q := 5) 0 dJ1_canEncode_9a6ad_4 rfl rfl ?_
    refine z_sipush (q := 8) dJ1_canEncode_9a6ad_5 rfl (by decide) ?_
    refine z_icmp_gt (q := 11) (t := 15) p1 ⟨by decide, by decide⟩ dJ1_canEncode_9a6ad_8 (by decide) rfl (fun c2 => ?_) (fun c2 => ?_)
    · refine z_iconst (q := 16) dJ1_canEncode_9a6ad_15 rfl ?_
      exact z_bret rfl (by decide) dJ1_canEncode_9a6ad_16 ⟨hl0, u2 c1 c2⟩
    · refine z_iconst (q := 12) dJ1_canEncode_9a6ad_11 rfl ?_
      refine z_goto (t := 16) dJ1_canEncode_9a6ad_12 (by decide) ?_
      exact z_bret rfl (by decide) dJ1_canEncode_9a6ad_16 ⟨hl0, u3 c1 c2⟩
theorem b_J1_indexOfChar_4cfef_0 {D : zD} {d : Nat} {G : zG} {h : zH} {Q : zO → zG → zH → Prop} {x0 x1 x2 x3 : Int} {n : Int} {f : Int → Int} (pA : z_at D G h x0 52 n f)
    (u1 : z_Y D M_J1_indexOfChar_4cfef d 7 [(0, 2, x0), (3, 0, x3), (4, 0, (w8 x1)), (5, 0, x2)] [] G h Q) :
    z_Y D M_J1_indexOfChar_4cfef d 0 [(0, 2, x0), (1, 0, x1), (2, 0, x2), (3, 0, x3)] [] G h Q := by
  intro hl0
  refine z_iload_n (q := 1) 1 dJ1_indexOfChar_4cfef_0 rfl rfl ?_
  refine z_i2b (q := 2) dJ1_indexOfChar_4cfef_1 rfl ?_
  refine z_istore (q := 4) (L' := [(0, 2, x0), (1, 0, x1), (2, 0, x2), (3, 0, x3), (4, 0, (w8 x1))]) dJ1_indexOfChar_4cfef_2 rfl (by decide) rfl ?_
  refine z_iload_n (q := 5) 2 dJ1_indexOfChar_4cfef_4 rfl rfl ?_
  refine z_istore (q := 7) (L' := [(0, 2, x0), (1, 0, x1), (2, 0, x2), (3, 0, x3), (4, 0, (w8 x1)), (5, 0, x2)]) dJ1_indexOfChar_4cfef_5 rfl (by decide) rfl ?_
  refine z_sub (L' := [(0, 2, x0), (3, 0, x3), (4, 0, (w8 x1)), (5, 0, x2)]) [0, 3, 4, 5] rfl ?_
  exact u1 hl0
theorem b_J1_indexOfChar_4cfef_7 {D : zD} {d : Nat} {G : zG} {h : zH} {Q : zO → zG → zH → Prop} {x0 x3 x4 x5 : Int} {n : Int} {f : Int → Int} (pA : z_at D G h x0 52 n f) (p1 : z_in x5) (p2 : z_in x3) (p3 : ¬ (x3 ≤ x5) → 0 ≤ x5) (p4 : ¬ (x3 ≤ x5) → x5 < n) (p5 : ¬ (x3 ≤ x5) → z_in (w8 (f x5))) (p6 : ¬ (x3 ≤ x5) → z_in x4)
    (u1 : x3 ≤ x5 → Q (.inl (some (0, (-1)))) G h)
    (u2 : ¬ (x3 ≤ x5) → ¬ (w8 (f x5)) = x4 → z_Y D M_J1_indexOfChar_4cfef d 7 [(0, 2, x0), (3, 0, x3), (4, 0, x4), (5, 0, (x5 + 1))] [] G h Q)
    (u3 : ¬ (x3 ≤ x5) → ¬ (¬ (w8 (f x5)) = x4) → Q (.inl (some (0, x5))) G h) :
    z_Y D M_J1_indexOfChar_4cfef d 7 [(0, 2, x0), (3, 0, x3), (4, 0, x4), (5, 0, x5)] [] G h Q := by
  intro hl0
  refine z_iload (q := 9) 3 dJ1_indexOfChar_4cfef_7 rfl rfl ?_
  refine z_iload_n (q := 10) 1 dJ1_indexOfChar_4cfef_9 rfl rfl ?_
  refine z_icmp_ge (q := 13) (t := 31) p1 p2 dJ1_indexOfChar_4cfef_10 (by decide) rfl (fun c1 => ?_) (fun c1 => ?_)
  · refine z_iconst (q := 32) dJ1_indexOfChar_4cfef_31 rfl ?_
    exact z_iret rfl dJ1_indexOfChar_4cfef_32 ⟨hl0, u1 c1⟩
  · refine z_aload_n (q := 14) 0 dJ1_indexOfChar_4cfef_13 rfl rfl ?_
    refine z_iload (q := 16) 3 dJ1_indexOfChar_4cfef_14 rfl rfl ?_
    refine z_bale (q := 17) (v := (f x5)) pA (p3 c1) (p4 c1) rfl dJ1_indexOfChar_4cfef_16 rfl ?_
    refine z_iload (q := 19) 2 dJ1_indexOfChar_4cfef_17 rfl rfl ?_
    refine z_icmp_ne (q := 22) (t := 25) (p5 c1) (p6 c1) dJ1_indexOfChar_4cfef_19 (by decide) rfl (fun c2 => ?_) (fun c2 => ?_)
    · refine z_iinc (q := 28) (L' := [(0, 2, x0), (3, 0, x3), (4, 0, x4), (5, 0, (x5 + 1))]) 3 dJ1_indexOfChar_4cfef_25 rfl rfl (by decide) rfl ?_
      refine z_goto (t := 7) dJ1_indexOfChar_4cfef_28 (by decide) ?_
      exact u2 c1 c2 hl0
    · refine z_iload (q := 24) 3 dJ1_indexOfChar_4cfef_22 rfl rfl ?_
      exact z_iret rfl dJ1_indexOfChar_4cfef_24 ⟨hl0, u3 c1 c2⟩
section StrA
variable {D : zD} {d : Nat} {G : zG} {h : zH} {Q : zO → zG → zH → Prop}
theorem z_sbr : ∀ i : Nat, i < 16 → ∀ j : Nat, j < 100 → 0 ≤ z_sby i j ∧ z_sby i j < 128 := by decide +kernel
theorem sby_rg {i : Nat} (hi : i < 16) {j : Int} (j0 : 0 ≤ j) (j1 : j < 100) : 0 ≤ z_sby i j ∧ z_sby i j < 128 ∧ w8 (z_sby i j) = z_sby i j ∧ z_iand (w8 (z_sby i j)) 255 = z_sby i j := by
  have q := z_sbr i hi j.toNat (by omega)
  rw [show ((j.toNat : Nat) : Int) = j by omega] at q
  have e : w8 (z_sby i j) = z_sby i j := by unfold w8; omega
  refine ⟨q.1, q.2, e, ?_⟩
  rw [e, z_iand255]; omega
theorem slk_i {i : Nat} (hi : i < 16) : 0 ≤ ((z_sl.getD i 0 : Nat) : Int) ∧ ((z_sl.getD i 0 : Nat) : Int) < 100 := by
  have := z_slk i hi
  omega
theorem a_J3_checkIndex (hd : 0 ≤ d) (k n x : Int) (k0 : 0 ≤ k) (k1 : k < n) (n1 : n < 1000) : z_Ei D M_J3_checkIndex_8e157 d [(0, k), (0, n), (2, x)] G h k h :=
  z_begin mo_J3_checkIndex_8e157 rfl (nle rfl) (b_J3_checkIndex_8e157_0 ⟨by omega, by omega⟩ (fun _ => ⟨by omega, by omega⟩) (fun c => absurd k0 (by omega)) (fun _ _ => ⟨rfl, rfl, rfl⟩) (fun _ c => absurd k1 c))
theorem a_J0_checkIndex (hd : 1 ≤ d) (k n : Int) (k0 : 0 ≤ k) (k1 : k < n) (n1 : n < 1000) : z_Ev D M_J0_checkIndex_df160 d [(0, k), (0, n)] G h h := by
  refine z_begin mo_J0_checkIndex_df160 rfl (nle rfl) (b_J0_checkIndex_df160_0 (z_Ki.of (d2 := d - 1) (by omega) (a_J3_checkIndex (by omega) k n _ k0 k1 n1) ?_))
  rintro out G' h' hl' ⟨r1, rfl, rfl⟩
  exact ⟨_, r1, b_J0_checkIndex_df160_8 ⟨rfl, rfl, rfl⟩⟩
theorem a_J1_charAt (hd : 2 ≤ d) (i : Nat) (hi : i < 16) (k : Int) (k0 : 0 ≤ k) (k1 : k < ((z_sl.getD i 0 : Nat) : Int)) : z_Ei D M_J1_charAt_3b067 d [(2, (-(30 + (i : Int)))), (0, k)] G h (z_sby i k) h := by
  have sl := slk_i hi
  have sb := sby_rg hi k0 (by omega)
  refine z_begin mo_J1_charAt_3b067 rfl (nle rfl) (b_J1_charAt_3b067_0 (z_cs i hi) (z_Kv.of (d2 := d - 1) (by omega) (a_J0_checkIndex (by omega) k _ k0 k1 (by omega)) ?_))
  rintro out G' h' hl' ⟨r1, rfl, rfl⟩
  refine ⟨r1, b_J1_charAt_3b067_6 (z_cs i hi) k0 k1 (by rw [sb.2.2.2]; omega) (by rw [sb.2.2.2]; omega) (by rw [sb.2.2.2]; exact (z_chn (by omega) (by omega)).2) ⟨?_, rfl, rfl⟩⟩
  rw [sb.2.2.2]
theorem a_J0_coder (hd : 0 ≤ d) (i : Nat) (hi : i < 16) : z_Ei D M_J0_coder_7d493 d [(2, (-(10 + (i : Int))))] G h 0 h := z_begin mo_J0_coder_7d493 rfl (nle rfl) (b_J0_coder_7d493_0 hi (by decide) ⟨rfl, rfl, rfl⟩)
theorem a_J0_isLatin1 (hd : 0 ≤ d) (i : Nat) (hi : i < 16) : z_Ei D M_J0_isLatin1_aae02 d [(2, (-(10 + (i : Int))))] G h 1 h := z_begin mo_J0_isLatin1_aae02 rfl (nle rfl) (b_J0_isLatin1_aae02_0 hi ⟨rfl, rfl, rfl⟩)
theorem a_J1_canEncode (hd : 0 ≤ d) (x : Int) (hx : z_in x) : z_Ei D M_J1_canEncode_9a6ad d [(0, x)] G h (z_b (0 ≤ (x : Int) ∧ (x : Int) ≤ 255)) h :=
  z_begin mo_J1_canEncode_9a6ad rfl (nle rfl) (b_J1_canEncode_9a6ad_0 hx (fun c => ⟨by rw [z_b0 (by omega)], rfl, rfl⟩) (fun _ c => ⟨by rw [z_b0 (by omega)], rfl, rfl⟩) (fun _ c => ⟨by rw [z_b1 (by omega)], rfl, rfl⟩))
/-- the place of a byte in a text, from a place on -/
def zix (i : Nat) (ch : Int) : Nat → Int → Int
  | 0, _ => -1
  | n + 1, k => if z_sby i k = ch then k else zix i ch n (k + 1)
def zixo (i : Nat) (ch k : Int) : Int := zix i ch (z_sl.getD i 0 - k.toNat) k
theorem l_ixc (i : Nat) (hi : i < 16) {ch : Int} (c0 : 0 ≤ ch) (c1 : ch ≤ 127) : ∀ (n : Nat) (k : Int), ((z_sl.getD i 0 : Nat) : Int) = k + n → 0 ≤ k → z_Y D M_J1_indexOfChar_4cfef d 7 [(0, 2, (-(30 + (i : Int)))), (3, 0, ((z_sl.getD i 0 : Nat) : Int)), (4, 0, ch), (5, 0, k)] [] G h (fun o G' h' => o = .inl (some (0, zix i ch n k)) ∧ G' = G ∧ h' = h) := by
  have sl := slk_i hi
  intro n
  induction n with
  | zero =>
    intro k e k0
    exact b_J1_indexOfChar_4cfef_7 (z_cs i hi) ⟨by omega, by omega⟩ ⟨by omega, by omega⟩ (fun c => by omega) (fun c => by omega) (fun c => by omega) (fun c => by omega) (fun _ => ⟨rfl, rfl, rfl⟩) (fun c => by omega) (fun c => by omega)
  | succ n ih =>
    intro k e k0
    have sb := sby_rg hi k0 (by omega)
    refine b_J1_indexOfChar_4cfef_7 (z_cs i hi) ⟨by omega, by omega⟩ ⟨by omega, by omega⟩ (fun _ => k0) (fun _ => by omega) (fun _ => by rw [sb.2.2.1]; exact ⟨by omega, by omega⟩) (fun _ => ⟨by omega, by omega⟩) (fun c => by omega) (fun _ c => ?_) (fun _ c => ⟨?_, rfl, rfl⟩)
    · rw [sb.2.2.1] at c
      rw [zix, if_neg c]
      exact ih (k + 1) (by omega) (by omega)
    · rw [sb.2.2.1] at c
      rw [zix, if_pos (Classical.not_not.mp c)]
end StrA
theorem b_J0_length_8abf5_0 {D : zD} {d : Nat} {G : zG} {h : zH} {Q : zO → zG → zH → Prop} (hd : 2 ≤ d) {i : Nat} (hi : i < 16)
    (u1 : Q (.inl (some (0, (z_ishr ((z_sl.getD i 0 : Nat) : Int) 0)))) G h) :
    z_Y D M_J0_length_8abf5 d 0 [(0, 2, (-(10 + (i : Int))))] [] G h Q := by
  intro hl0
  refine z_aload_n (q := 1) 0 dJ0_length_8abf5_0 rfl rfl ?_
  refine z_sgv (q := 4) i hi k1698 dJ0_length_8abf5_1 rfl ?_
  refine z_alen (q := 5) 52 (by decide) (by decide) (z_cs i hi) dJ0_length_8abf5_4 rfl ?_
  refine z_aload_n (q := 6) 0 dJ0_length_8abf5_5 rfl rfl ?_
  have e1 := a_J0_coder (D := D) (G := G) (h := h) (d := d - 1) (by omega) i hi
  refine z_goVs (q := 9) (av := []) (rest := [(0, ((z_sl.getD i 0 : Nat) : Int))]) i hi (z_toi) hl0 (z_Ei.K e1 (by omega) ?_) mo_J0_coder_7d493 np_J0_coder_7d493 k559 k560 k561 rfl (nle rfl) dJ0_length_8abf5_6 rfl
  refine z_r_ishr (q := 10) dJ0_length_8abf5_9 rfl ?_
  exact z_iret rfl dJ0_length_8abf5_10 ⟨hl0, u1⟩
section StrB
variable {D : zD} {d : Nat} {G : zG} {h : zH} {Q : zO → zG → zH → Prop}
theorem a_J0_length (hd : 2 ≤ d) (i : Nat) (hi : i < 16) : z_Ei D M_J0_length_8abf5 d [(2, (-(10 + (i : Int))))] G h ((z_sl.getD i 0 : Nat) : Int) h := by
  have sl := slk_i hi
  refine z_begin mo_J0_length_8abf5 rfl (nle rfl) (b_J0_length_8abf5_0 hd hi ⟨?_, rfl, rfl⟩)
  rw [z_ishr_n ⟨by omega, by omega⟩ (by omega) (by omega)]
  simp
end StrB
theorem b_J0_charAt_5068e_0 {D : zD} {d : Nat} {G : zG} {h : zH} {Q : zO → zG → zH → Prop} {x1 : Int} (hd : 2 ≤ d) {i : Nat} (hi : i < 16)
    (u1 : z_Ki D M_J1_charAt_3b067 d [(2, (-(30 + (i : Int)))), (0, x1)] G h (fun r G' h' => z_Y D M_J0_charAt_5068e d 15 [] [(0, r)] G' h' Q)) :
    z_Y D M_J0_charAt_5068e d 0 [(0, 2, (-(10 + (i : Int)))), (1, 0, x1)] [] G h Q := by
  intro hl0
  refine z_aload_n (q := 1) 0 dJ0_charAt_5068e_0 rfl rfl ?_
  have e1 := a_J0_isLatin1 (D := D) (G := G) (h := h) (d := d - 1) (by omega) i hi
  refine z_goVs (q := 4) (av := []) (rest := []) i hi (z_toi) hl0 (z_Ei.K e1 (by omega) ?_) mo_J0_isLatin1_aae02 np_J0_isLatin1_aae02 k569 k570 k571 rfl (nle rfl) dJ0_charAt_5068e_1 rfl
  refine z_if_eq (q := 7) (t := 16) ⟨by decide, by decide⟩ dJ0_charAt_5068e_4 (by decide) rfl (fun c => absurd c (by decide)) (fun _ => ?_)
  refine z_aload_n (q := 8) 0 dJ0_charAt_5068e_7 rfl rfl ?_
  refine z_sgv (q := 11) i hi k1698 dJ0_charAt_5068e_8 rfl ?_
  refine z_iload_n (q := 12) 1 dJ0_charAt_5068e_11 rfl rfl ?_
  refine z_sub (L' := []) [] rfl ?_
  exact z_goS (q := 15) (av := [(2, (-(30 + (i : Int)))), (0, x1)]) (rest := []) z_toi hl0 (u1) mo_J1_charAt_3b067 np_J1_charAt_3b067 k573 k574 rfl (nle rfl) dJ0_charAt_5068e_12 rfl
theorem b_J0_charAt_5068e_15 {D : zD} {d : Nat} {G : zG} {h : zH} {Q : zO → zG → zH → Prop} {s0 : Int} (p1 : narrow .char (.int (Int32.ofInt s0)) = .int (Int32.ofInt s0))
    (u1 : Q (.inl (some (0, s0))) G h) :
    z_Y D M_J0_charAt_5068e d 15 [] [(0, s0)] G h Q := by
  intro hl0
  exact z_zret rfl p1 dJ0_charAt_5068e_15 ⟨hl0, u1⟩
theorem b_J1_indexOf_4cfef_0 {D : zD} {d : Nat} {G : zG} {h : zH} {Q : zO → zG → zH → Prop} {x0 x1 x2 x3 : Int} (hd : 2 ≤ d) {n : Int} {f : Int → Int} (pA : z_at D G h x0 52 n f) (p1 : z_in x1) (p2 : 0 ≤ (x1 : Int) ∧ (x1 : Int) ≤ 255 → z_in x2) (p3 : 0 ≤ (x1 : Int) ∧ (x1 : Int) ≤ 255 → z_in x3) (p4 : 0 ≤ (x1 : Int) ∧ (x1 : Int) ≤ 255 → z_in n) (p5 : 0 ≤ (x1 : Int) ∧ (x1 : Int) ≤ 255 → z_in (if x2 < 0 then 0 else x2)) (p6 : 0 ≤ (x1 : Int) ∧ (x1 : Int) ≤ 255 → z_in (if n < x3 then n else x3))
    (u1 : 0 ≤ (x1 : Int) ∧ (x1 : Int) ≤ 255 → (if x2 < 0 then 0 else x2) < (if n < x3 then n else x3) → z_Ki D M_J1_indexOfChar_4cfef d [(2, x0), (0, x1), (0, (if x2 < 0 then 0 else x2)), (0, (if n < x3 then n else x3))] G h (fun r G' h' => z_Y D M_J1_indexOf_4cfef d 36 [] [(0, r)] G' h' Q))
    (u2 : 0 ≤ (x1 : Int) ∧ (x1 : Int) ≤ 255 → ¬ ((if x2 < 0 then 0 else x2) < (if n < x3 then n else x3)) → Q (.inl (some (0, (-1)))) G h)
    (u3 : ¬ (0 ≤ (x1 : Int) ∧ (x1 : Int) ≤ 255) → Q (.inl (some (0, (-1)))) G h) :
    z_Y D M_J1_indexOf_4cfef d 0 [(0, 2, x0), (1, 0, x1), (2, 0, x2), (3, 0, x3)] [] G h Q := by
  intro hl0
  refine z_iload_n (q := 1) 1 dJ1_indexOf_4cfef_0 rfl rfl ?_
  have e1 := a_J1_canEncode (D := D) (G := G) (h := h) (d := d - 1) (by omega) x1 p1
  refine z_goS (q := 4) (av := [(0, x1)]) (rest := []) (z_toi) hl0 (z_Ei.K e1 (by omega) ?_) mo_J1_canEncode_9a6ad np_J1_canEncode_9a6ad k1385 k1386 rfl (nle rfl) dJ1_indexOf_4cfef_1 rfl
  by_cases c1 : 0 ≤ (x1 : Int) ∧ (x1 : Int) ≤ 255
  · rw [z_b1 c1]
    refine z_if_ne (q := 7) (t := 9) ⟨by decide, by decide⟩ dJ1_indexOf_4cfef_4 (by decide) rfl (fun _ => ?_) (fun c => absurd c (by decide))
    refine z_iload_n (q := 10) 2 dJ1_indexOf_4cfef_9 rfl rfl ?_
    refine z_iconst (q := 11) dJ1_indexOf_4cfef_10 rfl ?_
    refine z_max (q := 14) (p2 c1) ⟨by decide, by decide⟩ k1388 k978 k117 k979 (by omega) (nle rfl) dJ1_indexOf_4cfef_11 rfl ?_
    refine z_istore_n (q := 15) (L' := [(0, 2, x0), (1, 0, x1), (2, 0, (if x2 < 0 then 0 else x2)), (3, 0, x3)]) dJ1_indexOf_4cfef_14 rfl (by decide) rfl ?_
    refine z_iload_n (q := 16) 3 dJ1_indexOf_4cfef_15 rfl rfl ?_
    refine z_aload_n (q := 17) 0 dJ1_indexOf_4cfef_16 rfl rfl ?_
    refine z_alen (q := 18) 52 (by decide) (by decide) pA dJ1_indexOf_4cfef_17 rfl ?_
    refine z_min (q := 21) (p3 c1) (p4 c1) k1389 k981 k117 k982 (by omega) (nle rfl) dJ1_indexOf_4cfef_18 rfl ?_
    refine z_istore_n (q := 22) (L' := [(0, 2, x0), (1, 0, x1), (2, 0, (if x2 < 0 then 0 else x2)), (3, 0, (if n < x3 then n else x3))]) dJ1_indexOf_4cfef_21 rfl (by decide) rfl ?_
    refine z_iload_n (q := 23) 2 dJ1_indexOf_4cfef_22 rfl rfl ?_
    refine z_iload_n (q := 24) 3 dJ1_indexOf_4cfef_23 rfl rfl ?_
    refine z_icmp_lt (q := 27) (t := 29) (p5 c1) (p6 c1) dJ1_indexOf_4cfef_24 (by decide) rfl (fun c2 => ?_) (fun c2 => ?_)
    · refine z_aload_n (q := 30) 0 dJ1_indexOf_4cfef_29 rfl rfl ?_
      refine z_iload_n (q := 31) 1 dJ1_indexOf_4cfef_30 rfl rfl ?_
      refine z_iload_n (q := 32) 2 dJ1_indexOf_4cfef_31 rfl rfl ?_
      refine z_iload_n (q := 33) 3 dJ1_indexOf_4cfef_32 rfl rfl ?_
      refine z_sub (L' := []) [] rfl ?_
      exact z_goS (q := 36) (av := [(2, x0), (0, x1), (0, (if x2 < 0 then 0 else x2)), (0, (if n < x3 then n else x3))]) (rest := []) z_toi hl0 (u1 c1 c2) mo_J1_indexOfChar_4cfef np_J1_indexOfChar_4cfef k1390 k1391 rfl (nle rfl) dJ1_indexOf_4cfef_33 rfl
    · refine z_iconst (q := 28) dJ1_indexOf_4cfef_27 rfl ?_
      exact z_iret rfl dJ1_indexOf_4cfef_28 ⟨hl0, u2 c1 c2⟩
  · rw [z_b0 c1]
    refine z_if_ne (q := 7) (t := 9) ⟨by decide, by decide⟩ dJ1_indexOf_4cfef_4 (by decide) rfl (fun c => absurd c (by decide)) (fun _ => ?_)
    refine z_iconst (q := 8) dJ1_indexOf_4cfef_7 rfl ?_
    exact z_iret rfl dJ1_indexOf_4cfef_8 ⟨hl0, u3 c1⟩
theorem b_J1_indexOf_4cfef_36 {D : zD} {d : Nat} {G : zG} {h : zH} {Q : zO → zG → zH → Prop} {s0 : Int}
    (u1 : Q (.inl (some (0, s0))) G h) :
    z_Y D M_J1_indexOf_4cfef d 36 [] [(0, s0)] G h Q := by
  intro hl0
  exact z_iret rfl dJ1_indexOf_4cfef_36 ⟨hl0, u1⟩
theorem b_J0_indexOf_7cf53_0 {D : zD} {d : Nat} {G : zG} {h : zH} {Q : zO → zG → zH → Prop} {x1 x2 : Int} (hd : 3 ≤ d) {i : Nat} (hi : i < 16)
    (u1 : z_Ki D M_J1_indexOf_4cfef d [(2, (-(30 + (i : Int)))), (0, x1), (0, x2), (0, ((z_sl.getD i 0 : Nat) : Int))] G h (fun r G' h' => z_Y D M_J0_indexOf_7cf53 d 20 [] [(0, r)] G' h' Q)) :
    z_Y D M_J0_indexOf_7cf53 d 0 [(0, 2, (-(10 + (i : Int)))), (1, 0, x1), (2, 0, x2)] [] G h Q := by
  intro hl0
  refine z_aload_n (q := 1) 0 dJ0_indexOf_7cf53_0 rfl rfl ?_
  have e1 := a_J0_isLatin1 (D := D) (G := G) (h := h) (d := d - 1) (by omega) i hi
  refine z_goVs (q := 4) (av := []) (rest := []) i hi (z_toi) hl0 (z_Ei.K e1 (by omega) ?_) mo_J0_isLatin1_aae02 np_J0_isLatin1_aae02 k569 k570 k571 rfl (nle rfl) dJ0_indexOf_7cf53_1 rfl
  refine z_if_eq (q := 7) (t := 23) ⟨by decide, by decide⟩ dJ0_indexOf_7cf53_4 (by decide) rfl (fun c => absurd c (by decide)) (fun _ => ?_)
  refine z_aload_n (q := 8) 0 dJ0_indexOf_7cf53_7 rfl rfl ?_
  refine z_sgv (q := 11) i hi k1698 dJ0_indexOf_7cf53_8 rfl ?_
  refine z_iload_n (q := 12) 1 dJ0_indexOf_7cf53_11 rfl rfl ?_
  refine z_iload_n (q := 13) 2 dJ0_indexOf_7cf53_12 rfl rfl ?_
  refine z_aload_n (q := 14) 0 dJ0_indexOf_7cf53_13 rfl rfl ?_
  have e2 := a_J0_length (D := D) (G := G) (h := h) (d := d - 1) (by omega) i hi
  refine z_goVs (q := 17) (av := []) (rest := [(0, x2), (0, x1), (2, (-(30 + (i : Int))))]) i hi (z_toi) hl0 (z_Ei.K e2 (by omega) ?_) mo_J0_length_8abf5 np_J0_length_8abf5 k1381 k556 k557 rfl (nle rfl) dJ0_indexOf_7cf53_14 rfl
  refine z_sub (L' := []) [] rfl ?_
  exact z_goS (q := 20) (av := [(2, (-(30 + (i : Int)))), (0, x1), (0, x2), (0, ((z_sl.getD i 0 : Nat) : Int))]) (rest := []) z_toi hl0 (u1) mo_J1_indexOf_4cfef np_J1_indexOf_4cfef k1382 k1383 rfl (nle rfl) dJ0_indexOf_7cf53_17 rfl
theorem b_J0_indexOf_7cf53_20 {D : zD} {d : Nat} {G : zG} {h : zH} {Q : zO → zG → zH → Prop} {s0 : Int}
    (u1 : Q (.inl (some (0, s0))) G h) :
    z_Y D M_J0_indexOf_7cf53 d 20 [] [(0, s0)] G h Q := by
  intro hl0
  refine z_goto (t := 36) dJ0_indexOf_7cf53_20 (by decide) ?_
  exact z_iret rfl dJ0_indexOf_7cf53_36 ⟨hl0, u1⟩
section StrC
variable {D : zD} {d : Nat} {G : zG} {h : zH} {Q : zO → zG → zH → Prop}
theorem a_J0_charAt (hd : 4 ≤ d) (i : Nat) (hi : i < 16) (k : Int) (k0 : 0 ≤ k) (k1 : k < ((z_sl.getD i 0 : Nat) : Int)) : z_Ei D M_J0_charAt_5068e d [(2, (-(10 + (i : Int)))), (0, k)] G h (z_sby i k) h := by
  have sl := slk_i hi
  have sb := sby_rg hi k0 (by omega)
  refine z_begin mo_J0_charAt_5068e rfl (nle rfl) (b_J0_charAt_5068e_0 (by omega) hi (z_Ki.of (d2 := d - 1) (by omega) (a_J1_charAt (by omega) i hi k k0 k1) ?_))
  rintro out G' h' hl' ⟨r1, rfl, rfl⟩
  exact ⟨_, r1, b_J0_charAt_5068e_15 (z_chn (by omega) (by omega)).2 ⟨rfl, rfl, rfl⟩⟩
theorem a_J1_indexOf (hd : 2 ≤ d) (i : Nat) (hi : i < 16) (ch k : Int) (c0 : 0 ≤ ch) (c1 : ch ≤ 127) (k0 : 0 ≤ k) (k1 : k < 1000) : z_Ei D M_J1_indexOf_4cfef d [(2, (-(30 + (i : Int)))), (0, ch), (0, k), (0, ((z_sl.getD i 0 : Nat) : Int))] G h (zixo i ch k) h := by
  have sl := slk_i hi
  have e1 : (if k < 0 then 0 else k) = k := if_neg (by omega)
  have e2 : (if ((z_sl.getD i 0 : Nat) : Int) < ((z_sl.getD i 0 : Nat) : Int) then ((z_sl.getD i 0 : Nat) : Int) else ((z_sl.getD i 0 : Nat) : Int)) = ((z_sl.getD i 0 : Nat) : Int) := if_neg (by omega)
  refine z_begin mo_J1_indexOf_4cfef rfl (nle rfl) (b_J1_indexOf_4cfef_0 hd (z_cs i hi) ⟨by omega, by omega⟩ (fun _ => ⟨by omega, by omega⟩) (fun _ => ⟨by omega, by omega⟩) (fun _ => ⟨by omega, by omega⟩) (fun _ => by rw [e1]; exact ⟨by omega, by omega⟩) (fun _ => by rw [e2]; exact ⟨by omega, by omega⟩) (fun _ c => ?_) (fun _ c => ⟨?_, rfl, rfl⟩) (fun c => absurd ⟨c0, by omega⟩ c))
  · rw [e1, e2] at c ⊢
    have w : w8 ch = ch := by unfold w8; omega
    have q := l_ixc (D := D) (d := d - 1) (G := G) (h := h) i hi c0 c1 (z_sl.getD i 0 - k.toNat) k (by omega) k0
    refine z_Ki.of (d2 := d - 1) (Q2 := fun o G' h' => o = .inl (some (0, zixo i ch k)) ∧ G' = G ∧ h' = h) (by omega) (z_begin mo_J1_indexOfChar_4cfef rfl (nle rfl) (b_J1_indexOfChar_4cfef_0 (z_cs i hi) (by rw [w]; exact q))) ?_
    rintro out G' h' hl' ⟨r1, rfl, rfl⟩
    exact ⟨_, r1, b_J1_indexOf_4cfef_36 ⟨rfl, rfl, rfl⟩⟩
  · rw [e1, e2] at c
    have z : z_sl.getD i 0 - k.toNat = 0 := by omega
    unfold zixo
    rw [z]
    rfl
theorem a_J0_indexOf (hd : 3 ≤ d) (i : Nat) (hi : i < 16) (ch k : Int) (c0 : 0 ≤ ch) (c1 : ch ≤ 127) (k0 : 0 ≤ k) (k1 : k < 1000) : z_Ei D M_J0_indexOf_7cf53 d [(2, (-(10 + (i : Int)))), (0, ch), (0, k)] G h (zixo i ch k) h := by
  refine z_begin mo_J0_indexOf_7cf53 rfl (nle rfl) (b_J0_indexOf_7cf53_0 hd hi (z_Ki.of (d2 := d - 1) (by omega) (a_J1_indexOf (by omega) i hi ch k c0 c1 k0 k1) ?_))
  rintro out G' h' hl' ⟨r1, rfl, rfl⟩
  exact ⟨_, r1, b_J0_indexOf_7cf53_20 ⟨rfl, rfl, rfl⟩⟩
end StrC
theorem b_X10_spells_0 {D : zD} {d : Nat} {G : zG} {h : zH} {Q : zO → zG → zH → Prop} {x1 x2 x3 : Int} (hd : 3 ≤ d) {i : Nat} (hi : i < 16) (p1 : z_in ((z_sl.getD i 0 : Nat) : Int)) (p2 : z_in ((x3 - x2) + 1))
    (u1 : ((z_sl.getD i 0 : Nat) : Int) = ((x3 - x2) + 1) → z_Y D M_X10_spells d 17 [(0, 2, (-(10 + (i : Int)))), (1, 2, x1), (2, 0, x2), (4, 0, 0)] [] G h Q)
    (u2 : ¬ (((z_sl.getD i 0 : Nat) : Int) = ((x3 - x2) + 1)) → Q (.inl (some (0, 0))) G h) :
    z_Y D M_X10_spells d 0 [(0, 2, (-(10 + (i : Int)))), (1, 2, x1), (2, 0, x2), (3, 0, x3)] [] G h Q := by
  intro hl0
  refine z_aload_n (q := 1) 0 dX10_spells_0 rfl rfl ?_
  have e1 := a_J0_length (D := D) (G := G) (h := h) (d := d - 1) (by omega) i hi
  refine z_goVs (q := 4) (av := []) (rest := []) i hi (z_toi) hl0 (z_Ei.K e1 (by omega) ?_) mo_J0_length_8abf5 np_J0_length_8abf5 k555 k556 k557 rfl (nle rfl) dX10_spells_1 rfl
  refine z_iload_n (q := 5) 3 dX10_spells_4 rfl rfl ?_
  refine z_iload_n (q := 6) 2 dX10_spells_5 rfl rfl ?_
  refine z_isub (q := 7) dX10_spells_6 rfl ?_
  refine z_iconst (q := 8) dX10_spells_7 rfl ?_
  refine z_iadd (q := 9) dX10_spells_8 rfl ?_
  refine z_icmp_eq (q := 12) (t := 14) p1 p2 dX10_spells_9 (by decide) rfl (fun c1 => ?_) (fun c1 => ?_)
  · refine z_iconst (q := 15) dX10_spells_14 rfl ?_
    refine z_istore (q := 17) (L' := [(0, 2, (-(10 + (i : Int)))), (1, 2, x1), (2, 0, x2), (3, 0, x3), (4, 0, 0)]) dX10_spells_15 rfl (by decide) rfl ?_
    refine z_sub (L' := [(0, 2, (-(10 + (i : Int)))), (1, 2, x1), (2, 0, x2), (4, 0, 0)]) [0, 1, 2, 4] rfl ?_
    exact u1 c1 hl0
  · refine z_iconst (q := 13) dX10_spells_12 rfl ?_
    exact z_bret rfl (by decide) dX10_spells_13 ⟨hl0, u2 c1⟩
theorem b_X10_spells_17 {D : zD} {d : Nat} {G : zG} {h : zH} {Q : zO → zG → zH → Prop} {x1 x2 x4 : Int} (hd : 5 ≤ d) {i : Nat} (hi : i < 16) (p1 : z_in x4) (p2 : z_in ((z_sl.getD i 0 : Nat) : Int)) (p3 : ¬ (((z_sl.getD i 0 : Nat) : Int) ≤ x4) → 0 ≤ x4) (p4 : ¬ (((z_sl.getD i 0 : Nat) : Int) ≤ x4) → x4 < ((z_sl.getD i 0 : Nat) : Int)) (p5 : ¬ (((z_sl.getD i 0 : Nat) : Int) ≤ x4) → z_is G x1 52) (p6 : ¬ (((z_sl.getD i 0 : Nat) : Int) ≤ x4) → 0 ≤ (x2 + x4)) (p7 : ¬ (((z_sl.getD i 0 : Nat) : Int) ≤ x4) → (x2 + x4) < (G.2.2.2 x1)) (p8 : ¬ (((z_sl.getD i 0 : Nat) : Int) ≤ x4) → z_in (z_sby i x4)) (p9 : ¬ (((z_sl.getD i 0 : Nat) : Int) ≤ x4) → z_in (w8 (h x1 (x2 + x4))))
    (u1 : ((z_sl.getD i 0 : Nat) : Int) ≤ x4 → Q (.inl (some (0, 1))) G h)
    (u2 : ¬ (((z_sl.getD i 0 : Nat) : Int) ≤ x4) → (z_sby i x4) = (w8 (h x1 (x2 + x4))) → z_Y D M_X10_spells d 17 [(0, 2, (-(10 + (i : Int)))), (1, 2, x1), (2, 0, x2), (4, 0, (x4 + 1))] [] G h Q)
    (u3 : ¬ (((z_sl.getD i 0 : Nat) : Int) ≤ x4) → ¬ ((z_sby i x4) = (w8 (h x1 (x2 + x4)))) → Q (.inl (some (0, 0))) G h) :
    z_Y D M_X10_spells d 17 [(0, 2, (-(10 + (i : Int)))), (1, 2, x1), (2, 0, x2), (4, 0, x4)] [] G h Q := by
  intro hl0
  refine z_iload (q := 19) 3 dX10_spells_17 rfl rfl ?_
  refine z_aload_n (q := 20) 0 dX10_spells_19 rfl rfl ?_
  have e1 := a_J0_length (D := D) (G := G) (h := h) (d := d - 1) (by omega) i hi
  refine z_goVs (q := 23) (av := []) (rest := [(0, x4)]) i hi (z_toi) hl0 (z_Ei.K e1 (by omega) ?_) mo_J0_length_8abf5 np_J0_length_8abf5 k555 k556 k557 rfl (nle rfl) dX10_spells_20 rfl
  refine z_icmp_ge (q := 26) (t := 49) p1 p2 dX10_spells_23 (by decide) rfl (fun c1 => ?_) (fun c1 => ?_)
  · refine z_iconst (q := 50) dX10_spells_49 rfl ?_
    exact z_bret rfl (by decide) dX10_spells_50 ⟨hl0, u1 c1⟩
  · refine z_aload_n (q := 27) 0 dX10_spells_26 rfl rfl ?_
    refine z_iload (q := 29) 3 dX10_spells_27 rfl rfl ?_
    have e2 := a_J0_charAt (D := D) (G := G) (h := h) (d := d - 1) (by omega) i hi x4 (p3 c1) (p4 c1)
    refine z_goVs (q := 32) (av := [(0, x4)]) (rest := []) i hi (z_toi) hl0 (z_Ei.K e2 (by omega) ?_) mo_J0_charAt_5068e np_J0_charAt_5068e k565 k566 k567 rfl (nle rfl) dX10_spells_29 rfl
    refine z_aload_n (q := 33) 1 dX10_spells_32 rfl rfl ?_
    refine z_iload_n (q := 34) 2 dX10_spells_33 rfl rfl ?_
    refine z_iload (q := 36) 3 dX10_spells_34 rfl rfl ?_
    refine z_iadd (q := 37) dX10_spells_36 rfl ?_
    refine z_bale (q := 38) (v := (h x1 (x2 + x4))) (z_ati (p5 c1)) (p6 c1) (p7 c1) rfl dX10_spells_37 rfl ?_
    refine z_icmp_eq (q := 41) (t := 43) (p8 c1) (p9 c1) dX10_spells_38 (by decide) rfl (fun c2 => ?_) (fun c2 => ?_)
    · refine z_iinc (q := 46) (L' := [(0, 2, (-(10 + (i : Int)))), (1, 2, x1), (2, 0, x2), (4, 0, (x4 + 1))]) 3 dX10_spells_43 rfl rfl (by decide) rfl ?_
      refine z_goto (t := 17) dX10_spells_46 (by decide) ?_
      exact u2 c1 c2 hl0
    · refine z_iconst (q := 42) dX10_spells_41 rfl ?_
      exact z_bret rfl (by decide) dX10_spells_42 ⟨hl0, u3 c1 c2⟩
theorem b_X10_wordOf_0 {D : zD} {d : Nat} {G : zG} {h : zH} {Q : zO → zG → zH → Prop} {x0 : Int} (p1 : ¬ x0 = 1 → ¬ x0 = 2 → ¬ x0 = 3 → ¬ x0 = 4 → ¬ x0 = 5 → ¬ x0 = 6 → ¬ x0 = 7 → ¬ x0 = 8 → ¬ x0 = 9 → ¬ x0 = 10 → ¬ x0 = 11 → ¬ x0 = 12 → ¬ x0 = 13 → ¬ x0 = 14 → z_in x0)
    (u1 : x0 = 1 → Q (.inl (some (2, (-(10 + ((0 : Nat) : Int)))))) G h)
    (u2 : ¬ x0 = 1 → x0 = 2 → Q (.inl (some (2, (-(10 + ((1 : Nat) : Int)))))) G h)
    (u3 : ¬ x0 = 1 → ¬ x0 = 2 → x0 = 3 → Q (.inl (some (2, (-(10 + ((2 : Nat) : Int)))))) G h)
    (u4 : ¬ x0 = 1 → ¬ x0 = 2 → ¬ x0 = 3 → x0 = 4 → Q (.inl (some (2, (-(10 + ((3 : Nat) : Int)))))) G h)
    (u5 : ¬ x0 = 1 → ¬ x0 = 2 → ¬ x0 = 3 → ¬ x0 = 4 → x0 = 5 → Q (.inl (some (2, (-(10 + ((4 : Nat) : Int)))))) G h)
    (u6 : ¬ x0 = 1 → ¬ x0 = 2 → ¬ x0 = 3 → ¬ x0 = 4 → ¬ x0 = 5 → x0 = 6 → Q (.inl (some (2, (-(10 + ((5 : Nat) : Int)))))) G h)
    (u7 : ¬ x0 = 1 → ¬ x0 = 2 → ¬ x0 = 3 → ¬ x0 = 4 → ¬ x0 = 5 → ¬ x0 = 6 → x0 = 7 → Q (.inl (some (2, (-(10 + ((6 : Nat) : Int)))))) G h)
    (u8 : ¬ x0 = 1 → ¬ x0 = 2 → ¬ x0 = 3 → ¬ x0 = 4 → ¬ x0 = 5 → ¬ x0 = 6 → ¬ x0 = 7 → x0 = 8 → Q (.inl (some (2, (-(10 + ((7 : Nat) : Int)))))) G h)
    (u9 : ¬ x0 = 1 → ¬ x0 = 2 → ¬ x0 = 3 → ¬ x0 = 4 → ¬ x0 = 5 → ¬ x0 = 6 → ¬ x0 = 7 → ¬ x0 = 8 → x0 = 9 → Q (.inl (some (2, (-(10 + ((8 : Nat) : Int)))))) G h)
    (u10 : ¬ x0 = 1 → ¬ x0 = 2 → ¬ x0 = 3 → ¬ x0 = 4 → ¬ x0 = 5 → ¬ x0 = 6 → ¬ x0 = 7 → ¬ x0 = 8 → ¬ x0 = 9 → x0 = 10 → Q (.inl (some (2, (-(10 + ((9 : Nat) : Int)))))) G h)
    (u11 : ¬ x0 = 1 → ¬ x0 = 2 → ¬ x0 = 3 → ¬ x0 = 4 → ¬ x0 = 5 → ¬ x0 = 6 → ¬ x0 = 7 → ¬ x0 = 8 → ¬ x0 = 9 → ¬ x0 = 10 → x0 = 11 → Q (.inl (some (2, (-(10 + ((10 : Nat) : Int)))))) G h)
    (u12 : ¬ x0 = 1 → ¬ x0 = 2 → ¬ x0 = 3 → ¬ x0 = 4 → ¬ x0 = 5 → ¬ x0 = 6 → ¬ x0 = 7 → ¬ x0 = 8 → ¬ x0 = 9 → ¬ x0 = 10 → ¬ x0 = 11 → x0 = 12 → Q (.inl (some (2, (-(10 + ((11 : Nat) : Int)))))) G h)
    (u13 : ¬ x0 = 1 → ¬ x0 = 2 → ¬ x0 = 3 → ¬ x0 = 4 → ¬ x0 = 5 → ¬ x0 = 6 → ¬ x0 = 7 → ¬ x0 = 8 → ¬ x0 = 9 → ¬ x0 = 10 → ¬ x0 = 11 → ¬ x0 = 12 → x0 = 13 → Q (.inl (some (2, (-(10 + ((12 : Nat) : Int)))))) G h)
    (u14 : ¬ x0 = 1 → ¬ x0 = 2 → ¬ x0 = 3 → ¬ x0 = 4 → ¬ x0 = 5 → ¬ x0 = 6 → ¬ x0 = 7 → ¬ x0 = 8 → ¬ x0 = 9 → ¬ x0 = 10 → ¬ x0 = 11 → ¬ x0 = 12 → ¬ x0 = 13 → x0 = 14 → Q (.inl (some (2, (-(10 + ((13 : Nat) : Int)))))) G h)
    (u15 : ¬ x0 = 1 → ¬ x0 = 2 → ¬ x0 = 3 → ¬ x0 = 4 → ¬ x0 = 5 → ¬ x0 = 6 → ¬ x0 = 7 → ¬ x0 = 8 → ¬ x0 = 9 → ¬ x0 = 10 → ¬ x0 = 11 → ¬ x0 = 12 → ¬ x0 = 13 → ¬ x0 = 14 → Q (.inl (some (2, (-(10 + ((14 : Nat) : Int)))))) G h) :
    z_Y D M_X10_wordOf d 0 [(0, 0, x0)] [] G h Q := by
  intro hl0
  refine z_iload_n (q := 1) 0 dX10_wordOf_0 rfl rfl ?_
  by_cases c1 : x0 = 1
  · refine z_tswIn (t := 72) 1 c1 ⟨by decide, by decide⟩ dX10_wordOf_1 (by decide) (by decide) rfl (by decide) ?_
    refine z_ldcs (q := 74) (i := 0) (tx := "turn") (by decide) dX10_wordOf_72 rfl ?_
    exact z_aret rfl (by simp) dX10_wordOf_74 ⟨hl0, u1 c1⟩
  by_cases c2 : x0 = 2
  · refine z_tswIn (t := 75) 2 c2 ⟨by decide, by decide⟩ dX10_wordOf_1 (by decide) (by decide) rfl (by decide) ?_
    refine z_ldcs (q := 77) (i := 1) (tx := "drop") (by decide) dX10_wordOf_75 rfl ?_
    exact z_aret rfl (by simp) dX10_wordOf_77 ⟨hl0, u2 c1 c2⟩
  by_cases c3 : x0 = 3
  · refine z_tswIn (t := 78) 3 c3 ⟨by decide, by decide⟩ dX10_wordOf_1 (by decide) (by decide) rfl (by decide) ?_
    refine z_ldcs (q := 80) (i := 2) (tx := "split") (by decide) dX10_wordOf_78 rfl ?_
    exact z_aret rfl (by simp) dX10_wordOf_80 ⟨hl0, u3 c1 c2 c3⟩
  by_cases c4 : x0 = 4
  · refine z_tswIn (t := 81) 4 c4 ⟨by decide, by decide⟩ dX10_wordOf_1 (by decide) (by decide) rfl (by decide) ?_
    refine z_ldcs (q := 83) (i := 3) (tx := "fill") (by decide) dX10_wordOf_81 rfl ?_
    exact z_aret rfl (by simp) dX10_wordOf_83 ⟨hl0, u4 c1 c2 c3 c4⟩
  by_cases c5 : x0 = 5
  · refine z_tswIn (t := 84) 5 c5 ⟨by decide, by decide⟩ dX10_wordOf_1 (by decide) (by decide) rfl (by decide) ?_
    refine z_ldcs (q := 86) (i := 4) (tx := "join") (by decide) dX10_wordOf_84 rfl ?_
    exact z_aret rfl (by simp) dX10_wordOf_86 ⟨hl0, u5 c1 c2 c3 c4 c5⟩
  by_cases c6 : x0 = 6
  · refine z_tswIn (t := 87) 6 c6 ⟨by decide, by decide⟩ dX10_wordOf_1 (by decide) (by decide) rfl (by decide) ?_
    refine z_ldcs (q := 89) (i := 5) (tx := "fold") (by decide) dX10_wordOf_87 rfl ?_
    exact z_aret rfl (by simp) dX10_wordOf_89 ⟨hl0, u6 c1 c2 c3 c4 c5 c6⟩
  by_cases c7 : x0 = 7
  · refine z_tswIn (t := 90) 7 c7 ⟨by decide, by decide⟩ dX10_wordOf_1 (by decide) (by decide) rfl (by decide) ?_
    refine z_ldcs (q := 92) (i := 6) (tx := "unfold") (by decide) dX10_wordOf_90 rfl ?_
    exact z_aret rfl (by simp) dX10_wordOf_92 ⟨hl0, u7 c1 c2 c3 c4 c5 c6 c7⟩
  by_cases c8 : x0 = 8
  · refine z_tswIn (t := 93) 8 c8 ⟨by decide, by decide⟩ dX10_wordOf_1 (by decide) (by decide) rfl (by decide) ?_
    refine z_ldcs (q := 95) (i := 7) (tx := "sort") (by decide) dX10_wordOf_93 rfl ?_
    exact z_aret rfl (by simp) dX10_wordOf_95 ⟨hl0, u8 c1 c2 c3 c4 c5 c6 c7 c8⟩
  by_cases c9 : x0 = 9
  · refine z_tswIn (t := 96) 9 c9 ⟨by decide, by decide⟩ dX10_wordOf_1 (by decide) (by decide) rfl (by decide) ?_
    refine z_ldcs (q := 98) (i := 8) (tx := "single") (by decide) dX10_wordOf_96 rfl ?_
    exact z_aret rfl (by simp) dX10_wordOf_98 ⟨hl0, u9 c1 c2 c3 c4 c5 c6 c7 c8 c9⟩
  by_cases c10 : x0 = 10
  · refine z_tswIn (t := 99) 10 c10 ⟨by decide, by decide⟩ dX10_wordOf_1 (by decide) (by decide) rfl (by decide) ?_
    refine z_ldcs (q := 101) (i := 9) (tx := "count") (by decide) dX10_wordOf_99 rfl ?_
    exact z_aret rfl (by simp) dX10_wordOf_101 ⟨hl0, u10 c1 c2 c3 c4 c5 c6 c7 c8 c9 c10⟩
  by_cases c11 : x0 = 11
  · refine z_tswIn (t := 102) 11 c11 ⟨by decide, by decide⟩ dX10_wordOf_1 (by decide) (by decide) rfl (by decide) ?_
    refine z_ldcs (q := 104) (i := 10) (tx := "sum") (by decide) dX10_wordOf_102 rfl ?_
    exact z_aret rfl (by simp) dX10_wordOf_104 ⟨hl0, u11 c1 c2 c3 c4 c5 c6 c7 c8 c9 c10 c11⟩
  by_cases c12 : x0 = 12
  · refine z_tswIn (t := 105) 12 c12 ⟨by decide, by decide⟩ dX10_wordOf_1 (by decide) (by decide) rfl (by decide) ?_
    refine z_ldcs (q := 107) (i := 11) (tx := "keep") (by decide) dX10_wordOf_105 rfl ?_
    exact z_aret rfl (by simp) dX10_wordOf_107 ⟨hl0, u12 c1 c2 c3 c4 c5 c6 c7 c8 c9 c10 c11 c12⟩
  by_cases c13 : x0 = 13
  · refine z_tswIn (t := 108) 13 c13 ⟨by decide, by decide⟩ dX10_wordOf_1 (by decide) (by decide) rfl (by decide) ?_
    refine z_ldcs (q := 110) (i := 12) (tx := "head") (by decide) dX10_wordOf_108 rfl ?_
    exact z_aret rfl (by simp) dX10_wordOf_110 ⟨hl0, u13 c1 c2 c3 c4 c5 c6 c7 c8 c9 c10 c11 c12 c13⟩
  by_cases c14 : x0 = 14
  · refine z_tswIn (t := 111) 14 c14 ⟨by decide, by decide⟩ dX10_wordOf_1 (by decide) (by decide) rfl (by decide) ?_
    refine z_ldcs (q := 113) (i := 13) (tx := "swap") (by decide) dX10_wordOf_111 rfl ?_
    exact z_aret rfl (by simp) dX10_wordOf_113 ⟨hl0, u14 c1 c2 c3 c4 c5 c6 c7 c8 c9 c10 c11 c12 c13 c14⟩
  refine z_tswOut (t := 114) (p1 c1 c2 c3 c4 c5 c6 c7 c8 c9 c10 c11 c12 c13 c14) dX10_wordOf_1 (by omega) (by decide) ?_
  refine z_ldcs (q := 116) (i := 14) (tx := "repeat") (by decide) dX10_wordOf_114 rfl ?_
  exact z_aret rfl (by simp) dX10_wordOf_116 ⟨hl0, u15 c1 c2 c3 c4 c5 c6 c7 c8 c9 c10 c11 c12 c13 c14⟩
theorem b_X13_stepAtHand_0 {D : zD} {d : Nat} {G : zG} {h : zH} {Q : zO → zG → zH → Prop} (p1 : z_in (h 88 18))
    (u1 : (h 88 18) = 1 → z_Y D M_X13_stepAtHand d 14 [(0, 2, 88), (1, 0, 1), (2, 0, 1)] [] G h Q)
    (u2 : ¬ ((h 88 18) = 1) → Q (.inl (some (0, 0))) G h) :
    z_Y D M_X13_stepAtHand d 0 [(0, 2, 88)] [] G h Q := by
  intro hl0
  refine z_aload_n (q := 1) 0 dX13_stepAtHand_0 rfl rfl ?_
  refine z_gf (q := 4) (ki := 18) (v := (0, (h 88 18))) fX13_261 rfl rfl (hl0.i 88 (by decide) rfl) dX13_stepAtHand_1 rfl ?_
  refine z_iconst (q := 5) dX13_stepAtHand_4 rfl ?_
  refine z_icmp_eq (q := 8) (t := 10) p1 ⟨by decide, by decide⟩ dX13_stepAtHand_5 (by decide) rfl (fun c1 => ?_) (fun c1 => ?_)
  · refine z_iconst (q := 11) dX13_stepAtHand_10 rfl ?_
    refine z_istore_n (q := 12) (L' := [(0, 2, 88), (1, 0, 1)]) dX13_stepAtHand_11 rfl (by decide) rfl ?_
    refine z_iconst (q := 13) dX13_stepAtHand_12 rfl ?_
    refine z_istore_n (q := 14) (L' := [(0, 2, 88), (1, 0, 1), (2, 0, 1)]) dX13_stepAtHand_13 rfl (by decide) rfl ?_
    exact u1 c1 hl0
  · refine z_iconst (q := 9) dX13_stepAtHand_8 rfl ?_
    exact z_iret rfl dX13_stepAtHand_9 ⟨hl0, u2 c1⟩
theorem b_X13_stepAtHand_14 {D : zD} {d : Nat} {G : zG} {h : zH} {Q : zO → zG → zH → Prop} {x1 x2 : Int} (hd : 5 ≤ d) (p1 : z_in x2) (p2 : z_in ((z_sl.getD 15 0 : Nat) : Int)) (p3 : ¬ (((z_sl.getD 15 0 : Nat) : Int) ≤ x2) → 0 ≤ x2) (p4 : ¬ (((z_sl.getD 15 0 : Nat) : Int) ≤ x2) → x2 < 1000) (p5 : ¬ (((z_sl.getD 15 0 : Nat) : Int) ≤ x2) → z_in ((zixo 15 32 x2) - x2)) (p6 : ¬ (((z_sl.getD 15 0 : Nat) : Int) ≤ x2) → z_in ((h 88 17) - (h 88 16)))
    (u1 : ((z_sl.getD 15 0 : Nat) : Int) ≤ x2 → Q (.inl (some (0, 0))) G h)
    (u2 : ¬ (((z_sl.getD 15 0 : Nat) : Int) ≤ x2) → ¬ ((zixo 15 32 x2) - x2) = ((h 88 17) - (h 88 16)) → z_Y D M_X13_stepAtHand d 54 [(0, 2, 88), (1, 0, x1), (2, 0, x2), (3, 0, (zixo 15 32 x2))] [(0, 0)] G h Q)
    (u3 : ¬ (((z_sl.getD 15 0 : Nat) : Int) ≤ x2) → ¬ (¬ ((zixo 15 32 x2) - x2) = ((h 88 17) - (h 88 16))) → z_Y D M_X13_stepAtHand d 54 [(0, 2, 88), (1, 0, x1), (2, 0, x2), (3, 0, (zixo 15 32 x2))] [(0, 1)] G h Q) :
    z_Y D M_X13_stepAtHand d 14 [(0, 2, 88), (1, 0, x1), (2, 0, x2)] [] G h Q := by
  intro hl0
  refine z_iload_n (q := 15) 2 dX13_stepAtHand_14 rfl rfl ?_
  refine z_ldcsw (q := 18) (i := 15) (tx := " turn drop split fill join fold unfold sort single count sum keep head swap repeat ") (by decide) dX13_stepAtHand_15 rfl ?_
  have e1 := a_J0_length (D := D) (G := G) (h := h) (d := d - 1) (by omega) 15 (by decide)
  refine z_goVs (q := 21) (av := []) (rest := [(0, x2)]) 15 (by decide) (z_toi) hl0 (z_Ei.K e1 (by omega) ?_) mo_J0_length_8abf5 np_J0_length_8abf5 k1376 k556 k557 rfl (nle rfl) dX13_stepAtHand_18 rfl
  refine z_icmp_ge (q := 24) (t := 127) p1 p2 dX13_stepAtHand_21 (by decide) rfl (fun c1 => ?_) (fun c1 => ?_)
  · refine z_iconst (q := 128) dX13_stepAtHand_127 rfl ?_
    exact z_iret rfl dX13_stepAtHand_128 ⟨hl0, u1 c1⟩
  · refine z_ldcsw (q := 27) (i := 15) (tx := " turn drop split fill join fold unfold sort single count sum keep head swap repeat ") (by decide) dX13_stepAtHand_24 rfl ?_
    refine z_bipush (q := 29) dX13_stepAtHand_27 rfl (by decide) ?_
    refine z_iload_n (q := 30) 2 dX13_stepAtHand_29 rfl rfl ?_
    have e2 := a_J0_indexOf (D := D) (G := G) (h := h) (d := d - 1) (by omega) 15 (by decide) 32 x2 (by decide) (by decide) (p3 c1) (p4 c1)
    refine z_goVs (q := 33) (av := [(0, 32), (0, x2)]) (rest := []) 15 (by decide) (z_toi) hl0 (z_Ei.K e2 (by omega) ?_) mo_J0_indexOf_7cf53 np_J0_indexOf_7cf53 k1377 k1378 k1379 rfl (nle rfl) dX13_stepAtHand_30 rfl
    refine z_istore_n (q := 34) (L' := [(0, 2, 88), (1, 0, x1), (2, 0, x2), (3, 0, (zixo 15 32 x2))]) dX13_stepAtHand_33 rfl (by decide) rfl ?_
    refine z_iload_n (q := 35) 3 dX13_stepAtHand_34 rfl rfl ?_
    refine z_iload_n (q := 36) 2 dX13_stepAtHand_35 rfl rfl ?_
    refine z_isub (q := 37) dX13_stepAtHand_36 rfl ?_
    refine z_aload_n (q := 38) 0 dX13_stepAtHand_37 rfl rfl ?_
    refine z_gf (q := 41) (ki := 17) (v := (0, (h 88 17))) fX13_242 rfl rfl (hl0.i 88 (by decide) rfl) dX13_stepAtHand_38 rfl ?_
    refine z_aload_n (q := 42) 0 dX13_stepAtHand_41 rfl rfl ?_
    refine z_gf (q := 45) (ki := 16) (v := (0, (h 88 16))) fX13_258 rfl rfl (hl0.i 88 (by decide) rfl) dX13_stepAtHand_42 rfl ?_
    refine z_isub (q := 46) dX13_stepAtHand_45 rfl ?_
    refine z_icmp_ne (q := 49) (t := 53) (p5 c1) (p6 c1) dX13_stepAtHand_46 (by decide) rfl (fun c2 => ?_) (fun c2 => ?_)
    · refine z_iconst (q := 54) dX13_stepAtHand_53 rfl ?_
      exact u2 c1 c2 hl0
    · refine z_iconst (q := 50) dX13_stepAtHand_49 rfl ?_
      refine z_goto (t := 54) dX13_stepAtHand_50 (by decide) ?_
      exact u3 c1 c2 hl0
theorem b_X13_stepAtHand_54 {D : zD} {d : Nat} {G : zG} {h : zH} {Q : zO → zG → zH → Prop} {s0 x1 x2 x3 : Int}
    (u1 : z_Y D M_X13_stepAtHand d 59 [(0, 2, 88), (1, 0, x1), (2, 0, x2), (3, 0, x3), (4, 0, s0), (5, 0, 0)] [] G h Q) :
    z_Y D M_X13_stepAtHand d 54 [(0, 2, 88), (1, 0, x1), (2, 0, x2), (3, 0, x3)] [(0, s0)] G h Q := by
  intro hl0
  refine z_istore (q := 56) (L' := [(0, 2, 88), (1, 0, x1), (2, 0, x2), (3, 0, x3), (4, 0, s0)]) dX13_stepAtHand_54 rfl (by decide) rfl ?_
  refine z_iconst (q := 57) dX13_stepAtHand_56 rfl ?_
  refine z_istore (q := 59) (L' := [(0, 2, 88), (1, 0, x1), (2, 0, x2), (3, 0, x3), (4, 0, s0), (5, 0, 0)]) dX13_stepAtHand_57 rfl (by decide) rfl ?_
  exact u1 hl0
theorem b_X13_stepAtHand_59 {D : zD} {d : Nat} {G : zG} {h : zH} {Q : zO → zG → zH → Prop} {x1 x2 x3 x4 x5 : Int} (hd : 5 ≤ d) (p1 : z_in x5) (p2 : z_in (x3 - x2)) (p3 : ¬ ((x3 - x2) ≤ x5) → z_in x4) (p4 : ¬ ((x3 - x2) ≤ x5) → ¬ (x4 = 0) → 0 ≤ (x2 + x5)) (p5 : ¬ ((x3 - x2) ≤ x5) → ¬ (x4 = 0) → (x2 + x5) < ((z_sl.getD 15 0 : Nat) : Int)) (p6 : ¬ ((x3 - x2) ≤ x5) → ¬ (x4 = 0) → 0 ≤ ((h 88 16) + x5)) (p7 : ¬ ((x3 - x2) ≤ x5) → ¬ (x4 = 0) → ((h 88 16) + x5) < 1000) (p8 : ¬ ((x3 - x2) ≤ x5) → ¬ (x4 = 0) → z_in (z_sby 15 (x2 + x5))) (p9 : ¬ ((x3 - x2) ≤ x5) → ¬ (x4 = 0) → z_in (w8 (h 100 ((h 88 16) + x5))))
    (u1 : (x3 - x2) ≤ x5 → z_Y D M_X13_stepAtHand d 110 [(0, 2, 88), (1, 0, x1), (3, 0, x3), (4, 0, x4)] [] G h Q)
    (u2 : ¬ ((x3 - x2) ≤ x5) → x4 = 0 → z_Y D M_X13_stepAtHand d 110 [(0, 2, 88), (1, 0, x1), (3, 0, x3), (4, 0, x4)] [] G h Q)
    (u3 : ¬ ((x3 - x2) ≤ x5) → ¬ (x4 = 0) → ¬ (z_sby 15 (x2 + x5)) = (w8 (h 100 ((h 88 16) + x5))) → z_Y D M_X13_stepAtHand d 102 [(0, 2, 88), (1, 0, x1), (2, 0, x2), (3, 0, x3), (5, 0, x5)] [(0, 0)] G h Q)
    (u4 : ¬ ((x3 - x2) ≤ x5) → ¬ (x4 = 0) → ¬ (¬ (z_sby 15 (x2 + x5)) = (w8 (h 100 ((h 88 16) + x5)))) → z_Y D M_X13_stepAtHand d 102 [(0, 2, 88), (1, 0, x1), (2, 0, x2), (3, 0, x3), (5, 0, x5)] [(0, 1)] G h Q) :
    z_Y D M_X13_stepAtHand d 59 [(0, 2, 88), (1, 0, x1), (2, 0, x2), (3, 0, x3), (4, 0, x4), (5, 0, x5)] [] G h Q := by
  intro hl0
  refine z_iload (q := 61) 5 dX13_stepAtHand_59 rfl rfl ?_
  refine z_iload_n (q := 62) 3 dX13_stepAtHand_61 rfl rfl ?_
  refine z_iload_n (q := 63) 2 dX13_stepAtHand_62 rfl rfl ?_
  refine z_isub (q := 64) dX13_stepAtHand_63 rfl ?_
  refine z_icmp_ge (q := 67) (t := 110) p1 p2 dX13_stepAtHand_64 (by decide) rfl (fun c1 => ?_) (fun c1 => ?_)
  · refine z_sub (L' := [(0, 2, 88), (1, 0, x1), (3, 0, x3), (4, 0, x4)]) [0, 1, 3, 4] rfl ?_
    exact u1 c1 hl0
  · refine z_iload (q := 69) 4 dX13_stepAtHand_67 rfl rfl ?_
    refine z_if_eq (q := 72) (t := 110) (p3 c1) dX13_stepAtHand_69 (by decide) rfl (fun c2 => ?_) (fun c2 => ?_)
    · refine z_sub (L' := [(0, 2, 88), (1, 0, x1), (3, 0, x3), (4, 0, x4)]) [0, 1, 3, 4] rfl ?_
      exact u2 c1 c2 hl0
    · refine z_ldcsw (q := 75) (i := 15) (tx := " turn drop split fill join fold unfold sort single count sum keep head swap repeat ") (by decide) dX13_stepAtHand_72 rfl ?_
      refine z_iload_n (q := 76) 2 dX13_stepAtHand_75 rfl rfl ?_
      refine z_iload (q := 78) 5 dX13_stepAtHand_76 rfl rfl ?_
      refine z_iadd (q := 79) dX13_stepAtHand_78 rfl ?_
      have e1 := a_J0_charAt (D := D) (G := G) (h := h) (d := d - 1) (by omega) 15 (by decide) (x2 + x5) (p4 c1 c2) (p5 c1 c2)
      refine z_goVs (q := 82) (av := [(0, (x2 + x5))]) (rest := []) 15 (by decide) (z_toi) hl0 (z_Ei.K e1 (by omega) ?_) mo_J0_charAt_5068e np_J0_charAt_5068e k1428 k566 k567 rfl (nle rfl) dX13_stepAtHand_79 rfl
      refine z_aload_n (q := 83) 0 dX13_stepAtHand_82 rfl rfl ?_
      refine z_gf (q := 86) (ki := 13) (v := (2, 100)) fX13_48 rfl (z_ldr rfl (hl0.ref 92 rfl)) (hl0.i 88 (by decide) rfl) dX13_stepAtHand_83 rfl ?_
      refine z_aload_n (q := 87) 0 dX13_stepAtHand_86 rfl rfl ?_
      refine z_gf (q := 90) (ki := 16) (v := (0, (h 88 16))) fX13_258 rfl rfl (hl0.i 88 (by decide) rfl) dX13_stepAtHand_87 rfl ?_
      refine z_iload (q := 92) 5 dX13_stepAtHand_90 rfl rfl ?_
      refine z_iadd (q := 93) dX13_stepAtHand_92 rfl ?_
      refine z_bale (q := 94) (v := (h 100 ((h 88 16) + x5))) (hl0.a 100 (by decide) rfl) (p6 c1 c2) (p7 c1 c2) rfl dX13_stepAtHand_93 rfl ?_
      refine z_icmp_ne (q := 97) (t := 101) (p8 c1 c2) (p9 c1 c2) dX13_stepAtHand_94 (by decide) rfl (fun c3 => ?_) (fun c3 => ?_)
      · refine z_iconst (q := 102) dX13_stepAtHand_101 rfl ?_
        refine z_sub (L' := [(0, 2, 88), (1, 0, x1), (2, 0, x2), (3, 0, x3), (5, 0, x5)]) [0, 1, 2, 3, 5] rfl ?_
        exact u3 c1 c2 c3 hl0
      · refine z_iconst (q := 98) dX13_stepAtHand_97 rfl ?_
        refine z_goto (t := 102) dX13_stepAtHand_98 (by decide) ?_
        refine z_sub (L' := [(0, 2, 88), (1, 0, x1), (2, 0, x2), (3, 0, x3), (5, 0, x5)]) [0, 1, 2, 3, 5] rfl ?_
        exact u4 c1 c2 c3 hl0
theorem b_X13_stepAtHand_110 {D : zD} {d : Nat} {G : zG} {h : zH} {Q : zO → zG → zH → Prop} {x1 x3 x4 : Int} (p1 : z_in x4)
    (u1 : x4 = 0 → z_Y D M_X13_stepAtHand d 14 [(0, 2, 88), (1, 0, (x1 + 1)), (2, 0, (x3 + 1))] [] G h Q)
    (u2 : ¬ (x4 = 0) → Q (.inl (some (0, x1))) G h) :
    z_Y D M_X13_stepAtHand d 110 [(0, 2, 88), (1, 0, x1), (3, 0, x3), (4, 0, x4)] [] G h Q := by
  intro hl0
  refine z_iload (q := 112) 3 dX13_stepAtHand_110 rfl rfl ?_
  refine z_if_eq (q := 115) (t := 117) p1 dX13_stepAtHand_112 (by decide) rfl (fun c1 => ?_) (fun c1 => ?_)
  · refine z_iinc (q := 120) (L' := [(0, 2, 88), (1, 0, (x1 + 1)), (3, 0, x3), (4, 0, x4)]) 1 dX13_stepAtHand_117 rfl rfl (by decide) rfl ?_
    refine z_iload_n (q := 121) 2 dX13_stepAtHand_120 rfl rfl ?_
    refine z_iconst (q := 122) dX13_stepAtHand_121 rfl ?_
    refine z_iadd (q := 123) dX13_stepAtHand_122 rfl ?_
    refine z_istore_n (q := 124) (L' := [(0, 2, 88), (1, 0, (x1 + 1)), (2, 0, (x3 + 1)), (3, 0, x3), (4, 0, x4)]) dX13_stepAtHand_123 rfl (by decide) rfl ?_
    refine z_goto (t := 14) dX13_stepAtHand_124 (by decide) ?_
    refine z_sub (L' := [(0, 2, 88), (1, 0, (x1 + 1)), (2, 0, (x3 + 1))]) [0, 1, 2] rfl ?_
    exact u1 c1 hl0
  · refine z_iload_n (q := 116) 1 dX13_stepAtHand_115 rfl rfl ?_
    exact z_iret rfl dX13_stepAtHand_116 ⟨hl0, u2 c1⟩
theorem b_X13_stepAtHand_102 {D : zD} {d : Nat} {G : zG} {h : zH} {Q : zO → zG → zH → Prop} {s0 x1 x2 x3 x5 : Int}
    (u1 : z_Y D M_X13_stepAtHand d 59 [(0, 2, 88), (1, 0, x1), (2, 0, x2), (3, 0, x3), (4, 0, s0), (5, 0, (x5 + 1))] [] G h Q) :
    z_Y D M_X13_stepAtHand d 102 [(0, 2, 88), (1, 0, x1), (2, 0, x2), (3, 0, x3), (5, 0, x5)] [(0, s0)] G h Q := by
  intro hl0
  refine z_istore (q := 104) (L' := [(0, 2, 88), (1, 0, x1), (2, 0, x2), (3, 0, x3), (4, 0, s0), (5, 0, x5)]) dX13_stepAtHand_102 rfl (by decide) rfl ?_
  refine z_iinc (q := 107) (L' := [(0, 2, 88), (1, 0, x1), (2, 0, x2), (3, 0, x3), (4, 0, s0), (5, 0, (x5 + 1))]) 5 dX13_stepAtHand_104 rfl rfl (by decide) rfl ?_
  refine z_goto (t := 59) dX13_stepAtHand_107 (by decide) ?_
  exact u1 hl0
