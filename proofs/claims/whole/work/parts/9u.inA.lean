/-! the class is made -/
theorem i_X4_5 {D : zD} {d : Nat} {h : zH} (hd : 1 ≤ d) (f0 : frI 6 h) : z_C D M_X4_init d [(2, 5)] (gL 6) h (fun o G' h' => o = .inl none ∧ G' = gL 7 ∧ h' = (z_wr (z_wr (z_wr h 5 0 6) 5 1 1) 5 2 1)) := by
  refine z_enter mo_X4_init (L := [(0, 2, 5)]) rfl (nle rfl) ?_
  refine z_aload_n (q := 1) 0 dX4_init_0 rfl rfl ?_
  refine z_objInit (q := 4) (by decide) k144 k127 k128 (by omega) (nle rfl) dX4_init_1 rfl ?_
  refine z_aload_n (q := 5) 0 dX4_init_4 rfl rfl ?_
  refine z_bipush (q := 7) dX4_init_5 rfl (by decide) ?_
  refine n_newa (q := 9) (k := 6) 51 (by decide) (by decide) rfl k168 (by decide) (by decide) rfl f0 dX4_init_7 rfl ?_
  have f1 := f0.up (k' := 7) (by decide)
  refine z_pF (q := 12) (ki := 0) fX4_9 rfl hc3 rfl (z_sv2 rfl) (gI (by decide)) dX4_init_9 rfl ?_
  have f2 := f1.w 5 0 6 (by decide)
  refine z_aload_n (q := 13) 0 dX4_init_12 rfl rfl ?_
  refine z_iconst (q := 14) dX4_init_13 rfl ?_
  refine z_pf (q := 17) (ki := 1) fX4_13 rfl (z_sv0 rfl) (gI (by decide)) dX4_init_14 rfl ?_
  have f3 := f2.w 5 1 1 (by decide)
  refine z_aload_n (q := 18) 0 dX4_init_17 rfl rfl ?_
  refine z_iconst (q := 19) dX4_init_18 rfl ?_
  refine z_pf (q := 22) (ki := 2) fX4_17 rfl (z_sv0 rfl) (gI (by decide)) dX4_init_19 rfl ?_
  have f4 := f3.w 5 2 1 (by decide)
  exact z_vret rfl dX4_init_22 ⟨rfl, rfl, rfl⟩
theorem i_X5_4 {D : zD} {d : Nat} {h : zH} (hd : 2 ≤ d) (f0 : frI 5 h) : z_C D M_X5_init d [(2, 4)] (gL 5) h (fun o G' h' => o = .inl none ∧ G' = gL 7 ∧ h' = (z_wr (z_wr (z_wr (z_wr (z_wr (z_wr h 5 0 6) 5 1 1) 5 2 1) 4 0 5) 4 1 0) 4 2 (-1))) := by
  refine z_enter mo_X5_init (L := [(0, 2, 4)]) rfl (nle rfl) ?_
  refine z_aload_n (q := 1) 0 dX5_init_0 rfl rfl ?_
  refine z_objInit (q := 4) (by decide) k138 k127 k128 (by omega) (nle rfl) dX5_init_1 rfl ?_
  refine z_aload_n (q := 5) 0 dX5_init_4 rfl rfl ?_
  refine n_new (q := 8) (k := 5) cb3 k139 k140 k99 rfl f0 dX5_init_5 rfl ?_
  have f1 := f0.up (k' := 6) (by decide)
  refine z_dup (q := 9) (by decide) dX5_init_8 rfl ?_
  refine n_invN (q := 12) (d2 := d - 1) (rest := [(2, 5), (2, 4)]) (av := []) (by decide) (i_X4_5 (by omega) f1) mo_X4_init np_X4_init rfl k143 k141 k142 (by omega) rfl (nle rfl) dX5_init_9 rfl ?_
  have f2 := (((f1.up (k' := 7) (by decide)).w 5 0 6 (by decide)).w 5 1 1 (by decide)).w 5 2 1 (by decide)
  refine z_pF (q := 15) (ki := 0) fX5_12 rfl hc4 rfl (z_sv2 rfl) (gI (by decide)) dX5_init_12 rfl ?_
  have f3 := f2.w 4 0 5 (by decide)
  refine z_aload_n (q := 16) 0 dX5_init_15 rfl rfl ?_
  refine z_iconst (q := 17) dX5_init_16 rfl ?_
  refine z_pf (q := 20) (ki := 1) fX5_18 rfl (z_sv0 rfl) (gI (by decide)) dX5_init_17 rfl ?_
  have f4 := f3.w 4 1 0 (by decide)
  refine z_aload_n (q := 21) 0 dX5_init_20 rfl rfl ?_
  refine z_iconst (q := 22) dX5_init_21 rfl ?_
  refine z_pf (q := 25) (ki := 2) fX5_22 rfl (z_sv0 rfl) (gI (by decide)) dX5_init_22 rfl ?_
  have f5 := f4.w 4 2 (-1) (by decide)
  exact z_vret rfl dX5_init_25 ⟨rfl, rfl, rfl⟩
theorem i_X9_8 {D : zD} {d : Nat} {h : zH} (hd : 1 ≤ d) (f0 : frI 9 h) : z_C D M_X9_init d [(2, 8)] (gL 9) h (fun o G' h' => o = .inl none ∧ G' = gL 10 ∧ h' = (z_wr (z_wr h 8 0 9) 8 1 0)) := by
  refine z_enter mo_X9_init (L := [(0, 2, 8)]) rfl (nle rfl) ?_
  refine z_aload_n (q := 1) 0 dX9_init_0 rfl rfl ?_
  refine z_objInit (q := 4) (by decide) k211 k127 k128 (by omega) (nle rfl) dX9_init_1 rfl ?_
  refine z_aload_n (q := 5) 0 dX9_init_4 rfl rfl ?_
  refine z_bipush (q := 7) dX9_init_5 rfl (by decide) ?_
  refine n_newa (q := 9) (k := 9) 50 (by decide) (by decide) rfl k222 (by decide) (by decide) rfl f0 dX9_init_7 rfl ?_
  have f1 := f0.up (k' := 10) (by decide)
  refine z_pF (q := 12) (ki := 0) fX9_9 rfl hc7 rfl (z_sv2 rfl) (gI (by decide)) dX9_init_9 rfl ?_
  have f2 := f1.w 8 0 9 (by decide)
  refine z_aload_n (q := 13) 0 dX9_init_12 rfl rfl ?_
  refine z_iconst (q := 14) dX9_init_13 rfl ?_
  refine z_pf (q := 17) (ki := 1) fX9_13 rfl (z_sv0 rfl) (gI (by decide)) dX9_init_14 rfl ?_
  have f3 := f2.w 8 1 0 (by decide)
  exact z_vret rfl dX9_init_17 ⟨rfl, rfl, rfl⟩
theorem i_X10_7 {D : zD} {d : Nat} {h : zH} (hd : 2 ≤ d) (f0 : frI 8 h) : z_C D M_X10_init d [(2, 7)] (gL 8) h (fun o G' h' => o = .inl none ∧ G' = gL 12 ∧ h' = (z_wr (z_wr (z_wr (z_wr (z_wr (z_wr (z_wr h 8 0 9) 8 1 0) 7 0 8) 7 1 0) 7 2 (-1)) 7 9 10) 7 10 11)) := by
  refine z_enter mo_X10_init (L := [(0, 2, 7)]) rfl (nle rfl) ?_
  refine z_aload_n (q := 1) 0 dX10_init_0 rfl rfl ?_
  refine z_objInit (q := 4) (by decide) k205 k127 k128 (by omega) (nle rfl) dX10_init_1 rfl ?_
  refine z_aload_n (q := 5) 0 dX10_init_4 rfl rfl ?_
  refine n_new (q := 8) (k := 8) cb7 k206 k207 k101 rfl f0 dX10_init_5 rfl ?_
  have f1 := f0.up (k' := 9) (by decide)
  refine z_dup (q := 9) (by decide) dX10_init_8 rfl ?_
  refine n_invN (q := 12) (d2 := d - 1) (rest := [(2, 8), (2, 7)]) (av := []) (by decide) (i_X9_8 (by omega) f1) mo_X9_init np_X9_init rfl k210 k208 k209 (by omega) rfl (nle rfl) dX10_init_9 rfl ?_
  have f2 := ((f1.up (k' := 10) (by decide)).w 8 0 9 (by decide)).w 8 1 0 (by decide)
  refine z_pF (q := 15) (ki := 0) fX10_12 rfl hc8 rfl (z_sv2 rfl) (gI (by decide)) dX10_init_12 rfl ?_
  have f3 := f2.w 7 0 8 (by decide)
  refine z_aload_n (q := 16) 0 dX10_init_15 rfl rfl ?_
  refine z_iconst (q := 17) dX10_init_16 rfl ?_
  refine z_pf (q := 20) (ki := 1) fX10_18 rfl (z_sv0 rfl) (gI (by decide)) dX10_init_17 rfl ?_
  have f4 := f3.w 7 1 0 (by decide)
  refine z_aload_n (q := 21) 0 dX10_init_20 rfl rfl ?_
  refine z_iconst (q := 22) dX10_init_21 rfl ?_
  refine z_pf (q := 25) (ki := 2) fX10_22 rfl (z_sv0 rfl) (gI (by decide)) dX10_init_22 rfl ?_
  have f5 := f4.w 7 2 (-1) (by decide)
  refine z_aload_n (q := 26) 0 dX10_init_25 rfl rfl ?_
  refine z_iconst (q := 27) dX10_init_26 rfl ?_
  refine n_newa (q := 29) (k := 10) 50 (by decide) (by decide) rfl k222 (by decide) (by decide) rfl f5 dX10_init_27 rfl ?_
  have f6 := f5.up (k' := 11) (by decide)
  refine z_pF (q := 32) (ki := 9) fX10_25 rfl hc8 rfl (z_sv2 rfl) (gI (by decide)) dX10_init_29 rfl ?_
  have f7 := f6.w 7 9 10 (by decide)
  refine z_aload_n (q := 33) 0 dX10_init_32 rfl rfl ?_
  refine z_iconst (q := 34) dX10_init_33 rfl ?_
  refine n_newa (q := 36) (k := 11) 50 (by decide) (by decide) rfl k222 (by decide) (by decide) rfl f7 dX10_init_34 rfl ?_
  have f8 := f7.up (k' := 12) (by decide)
  refine z_pF (q := 39) (ki := 10) fX10_29 rfl hc8 rfl (z_sv2 rfl) (gI (by decide)) dX10_init_36 rfl ?_
  have f9 := f8.w 7 10 11 (by decide)
  exact z_vret rfl dX10_init_39 ⟨rfl, rfl, rfl⟩
theorem i_X3_12 {D : zD} {d : Nat} {h : zH} (hd : 1 ≤ d) (f0 : frI 13 h) : z_C D M_X3_init d [(2, 12)] (gL 13) h (fun o G' h' => o = .inl none ∧ G' = gL 19 ∧ h' = (z_wr (z_wr (z_wr (z_wr (z_wr (z_wr h 12 0 13) 12 1 14) 12 2 15) 12 3 16) 12 4 17) 12 5 18)) := by
  refine z_enter mo_X3_init (L := [(0, 2, 12)]) rfl (nle rfl) ?_
  refine z_aload_n (q := 1) 0 dX3_init_0 rfl rfl ?_
  refine z_objInit (q := 4) (by decide) k265 k127 k128 (by omega) (nle rfl) dX3_init_1 rfl ?_
  refine z_aload_n (q := 5) 0 dX3_init_4 rfl rfl ?_
  refine z_bipush (q := 7) dX3_init_5 rfl (by decide) ?_
  refine n_newa (q := 9) (k := 13) 50 (by decide) (by decide) rfl k222 (by decide) (by decide) rfl f0 dX3_init_7 rfl ?_
  have f1 := f0.up (k' := 14) (by decide)
  refine z_pF (q := 12) (ki := 0) fX3_11 rfl hc2 rfl (z_sv2 rfl) (gI (by decide)) dX3_init_9 rfl ?_
  have f2 := f1.w 12 0 13 (by decide)
  refine z_aload_n (q := 13) 0 dX3_init_12 rfl rfl ?_
  refine z_bipush (q := 15) dX3_init_13 rfl (by decide) ?_
  refine n_newa (q := 17) (k := 14) 50 (by decide) (by decide) rfl k222 (by decide) (by decide) rfl f2 dX3_init_15 rfl ?_
  have f3 := f2.up (k' := 15) (by decide)
  refine z_pF (q := 20) (ki := 1) fX3_17 rfl hc2 rfl (z_sv2 rfl) (gI (by decide)) dX3_init_17 rfl ?_
  have f4 := f3.w 12 1 14 (by decide)
  refine z_aload_n (q := 21) 0 dX3_init_20 rfl rfl ?_
  refine z_bipush (q := 23) dX3_init_21 rfl (by decide) ?_
  refine n_newa (q := 25) (k := 15) 50 (by decide) (by decide) rfl k222 (by decide) (by decide) rfl f4 dX3_init_23 rfl ?_
  have f5 := f4.up (k' := 16) (by decide)
  refine z_pF (q := 28) (ki := 2) fX3_20 rfl hc2 rfl (z_sv2 rfl) (gI (by decide)) dX3_init_25 rfl ?_
  have f6 := f5.w 12 2 15 (by decide)
  refine z_aload_n (q := 29) 0 dX3_init_28 rfl rfl ?_
  refine z_bipush (q := 31) dX3_init_29 rfl (by decide) ?_
  refine n_newa (q := 33) (k := 16) 50 (by decide) (by decide) rfl k222 (by decide) (by decide) rfl f6 dX3_init_31 rfl ?_
  have f7 := f6.up (k' := 17) (by decide)
  refine z_pF (q := 36) (ki := 3) fX3_23 rfl hc2 rfl (z_sv2 rfl) (gI (by decide)) dX3_init_33 rfl ?_
  have f8 := f7.w 12 3 16 (by decide)
  refine z_aload_n (q := 37) 0 dX3_init_36 rfl rfl ?_
  refine z_bipush (q := 39) dX3_init_37 rfl (by decide) ?_
  refine n_newa (q := 41) (k := 17) 50 (by decide) (by decide) rfl k222 (by decide) (by decide) rfl f8 dX3_init_39 rfl ?_
  have f9 := f8.up (k' := 18) (by decide)
  refine z_pF (q := 44) (ki := 4) fX3_26 rfl hc2 rfl (z_sv2 rfl) (gI (by decide)) dX3_init_41 rfl ?_
  have f10 := f9.w 12 4 17 (by decide)
  refine z_aload_n (q := 45) 0 dX3_init_44 rfl rfl ?_
  refine z_bipush (q := 47) dX3_init_45 rfl (by decide) ?_
  refine n_newa (q := 49) (k := 18) 50 (by decide) (by decide) rfl k222 (by decide) (by decide) rfl f10 dX3_init_47 rfl ?_
  have f11 := f10.up (k' := 19) (by decide)
  refine z_pF (q := 52) (ki := 5) fX3_29 rfl hc2 rfl (z_sv2 rfl) (gI (by decide)) dX3_init_49 rfl ?_
  have f12 := f11.w 12 5 18 (by decide)
  exact z_vret rfl dX3_init_52 ⟨rfl, rfl, rfl⟩
theorem i_X4_20 {D : zD} {d : Nat} {h : zH} (hd : 1 ≤ d) (f0 : frI 21 h) : z_C D M_X4_init d [(2, 20)] (gL 21) h (fun o G' h' => o = .inl none ∧ G' = gL 22 ∧ h' = (z_wr (z_wr (z_wr h 20 0 21) 20 1 1) 20 2 1)) := by
  refine z_enter mo_X4_init (L := [(0, 2, 20)]) rfl (nle rfl) ?_
  refine z_aload_n (q := 1) 0 dX4_init_0 rfl rfl ?_
  refine z_objInit (q := 4) (by decide) k144 k127 k128 (by omega) (nle rfl) dX4_init_1 rfl ?_
  refine z_aload_n (q := 5) 0 dX4_init_4 rfl rfl ?_
  refine z_bipush (q := 7) dX4_init_5 rfl (by decide) ?_
  refine n_newa (q := 9) (k := 21) 51 (by decide) (by decide) rfl k168 (by decide) (by decide) rfl f0 dX4_init_7 rfl ?_
  have f1 := f0.up (k' := 22) (by decide)
  refine z_pF (q := 12) (ki := 0) fX4_9 rfl hc3 rfl (z_sv2 rfl) (gI (by decide)) dX4_init_9 rfl ?_
  have f2 := f1.w 20 0 21 (by decide)
  refine z_aload_n (q := 13) 0 dX4_init_12 rfl rfl ?_
  refine z_iconst (q := 14) dX4_init_13 rfl ?_
  refine z_pf (q := 17) (ki := 1) fX4_13 rfl (z_sv0 rfl) (gI (by decide)) dX4_init_14 rfl ?_
  have f3 := f2.w 20 1 1 (by decide)
  refine z_aload_n (q := 18) 0 dX4_init_17 rfl rfl ?_
  refine z_iconst (q := 19) dX4_init_18 rfl ?_
  refine z_pf (q := 22) (ki := 2) fX4_17 rfl (z_sv0 rfl) (gI (by decide)) dX4_init_19 rfl ?_
  have f4 := f3.w 20 2 1 (by decide)
  exact z_vret rfl dX4_init_22 ⟨rfl, rfl, rfl⟩
theorem i_X4_22 {D : zD} {d : Nat} {h : zH} (hd : 1 ≤ d) (f0 : frI 23 h) : z_C D M_X4_init d [(2, 22)] (gL 23) h (fun o G' h' => o = .inl none ∧ G' = gL 24 ∧ h' = (z_wr (z_wr (z_wr h 22 0 23) 22 1 1) 22 2 1)) := by
  refine z_enter mo_X4_init (L := [(0, 2, 22)]) rfl (nle rfl) ?_
  refine z_aload_n (q := 1) 0 dX4_init_0 rfl rfl ?_
  refine z_objInit (q := 4) (by decide) k144 k127 k128 (by omega) (nle rfl) dX4_init_1 rfl ?_
  refine z_aload_n (q := 5) 0 dX4_init_4 rfl rfl ?_
  refine z_bipush (q := 7) dX4_init_5 rfl (by decide) ?_
  refine n_newa (q := 9) (k := 23) 51 (by decide) (by decide) rfl k168 (by decide) (by decide) rfl f0 dX4_init_7 rfl ?_
  have f1 := f0.up (k' := 24) (by decide)
  refine z_pF (q := 12) (ki := 0) fX4_9 rfl hc3 rfl (z_sv2 rfl) (gI (by decide)) dX4_init_9 rfl ?_
  have f2 := f1.w 22 0 23 (by decide)
  refine z_aload_n (q := 13) 0 dX4_init_12 rfl rfl ?_
  refine z_iconst (q := 14) dX4_init_13 rfl ?_
  refine z_pf (q := 17) (ki := 1) fX4_13 rfl (z_sv0 rfl) (gI (by decide)) dX4_init_14 rfl ?_
  have f3 := f2.w 22 1 1 (by decide)
  refine z_aload_n (q := 18) 0 dX4_init_17 rfl rfl ?_
  refine z_iconst (q := 19) dX4_init_18 rfl ?_
  refine z_pf (q := 22) (ki := 2) fX4_17 rfl (z_sv0 rfl) (gI (by decide)) dX4_init_19 rfl ?_
  have f4 := f3.w 22 2 1 (by decide)
  exact z_vret rfl dX4_init_22 ⟨rfl, rfl, rfl⟩
theorem i_X8_19 {D : zD} {d : Nat} {h : zH} (hd : 2 ≤ d) (f0 : frI 20 h) : z_C D M_X8_init d [(2, 19), (2, 12)] (gL 20) h (fun o G' h' => o = .inl none ∧ G' = gL 24 ∧ h' = (z_wr (z_wr (z_wr (z_wr (z_wr (z_wr (z_wr (z_wr (z_wr h 20 0 21) 20 1 1) 20 2 1) 19 1 20) 22 0 23) 22 1 1) 22 2 1) 19 2 22) 19 0 12)) := by
  refine z_enter mo_X8_init (L := [(0, 2, 19), (1, 2, 12)]) rfl (nle rfl) ?_
  refine z_aload_n (q := 1) 0 dX8_init_0 rfl rfl ?_
  refine z_objInit (q := 4) (by decide) k290 k127 k128 (by omega) (nle rfl) dX8_init_1 rfl ?_
  refine z_aload_n (q := 5) 0 dX8_init_4 rfl rfl ?_
  refine n_new (q := 8) (k := 20) cb3 k291 k140 k99 rfl f0 dX8_init_5 rfl ?_
  have f1 := f0.up (k' := 21) (by decide)
  refine z_dup (q := 9) (by decide) dX8_init_8 rfl ?_
  refine n_invN (q := 12) (d2 := d - 1) (rest := [(2, 20), (2, 19)]) (av := []) (by decide) (i_X4_20 (by omega) f1) mo_X4_init np_X4_init rfl k143 k292 k142 (by omega) rfl (nle rfl) dX8_init_9 rfl ?_
  have f2 := (((f1.up (k' := 22) (by decide)).w 20 0 21 (by decide)).w 20 1 1 (by decide)).w 20 2 1 (by decide)
  refine z_pf (q := 15) (ki := 1) fX8_12 rfl (z_sv2 rfl) (gI (by decide)) dX8_init_12 rfl ?_
  have f3 := f2.w 19 1 20 (by decide)
  refine z_aload_n (q := 16) 0 dX8_init_15 rfl rfl ?_
  refine n_new (q := 19) (k := 22) cb3 k291 k140 k99 rfl f3 dX8_init_16 rfl ?_
  have f4 := f3.up (k' := 23) (by decide)
  refine z_dup (q := 20) (by decide) dX8_init_19 rfl ?_
  refine n_invN (q := 23) (d2 := d - 1) (rest := [(2, 22), (2, 19)]) (av := []) (by decide) (i_X4_22 (by omega) f4) mo_X4_init np_X4_init rfl k143 k292 k142 (by omega) rfl (nle rfl) dX8_init_20 rfl ?_
  have f5 := (((f4.up (k' := 24) (by decide)).w 22 0 23 (by decide)).w 22 1 1 (by decide)).w 22 2 1 (by decide)
  refine z_pf (q := 26) (ki := 2) fX8_18 rfl (z_sv2 rfl) (gI (by decide)) dX8_init_23 rfl ?_
  have f6 := f5.w 19 2 22 (by decide)
  refine z_aload_n (q := 27) 0 dX8_init_26 rfl rfl ?_
  refine z_aload_n (q := 28) 1 dX8_init_27 rfl rfl ?_
  refine z_pF (q := 31) (ki := 0) fX8_21 rfl hc6 rfl (z_sv2 rfl) (gI (by decide)) dX8_init_28 rfl ?_
  have f7 := f6.w 19 0 12 (by decide)
  exact z_vret rfl dX8_init_31 ⟨rfl, rfl, rfl⟩
theorem i_X4_25 {D : zD} {d : Nat} {h : zH} (hd : 1 ≤ d) (f0 : frI 26 h) : z_C D M_X4_init d [(2, 25)] (gL 26) h (fun o G' h' => o = .inl none ∧ G' = gL 27 ∧ h' = (z_wr (z_wr (z_wr h 25 0 26) 25 1 1) 25 2 1)) := by
  refine z_enter mo_X4_init (L := [(0, 2, 25)]) rfl (nle rfl) ?_
  refine z_aload_n (q := 1) 0 dX4_init_0 rfl rfl ?_
  refine z_objInit (q := 4) (by decide) k144 k127 k128 (by omega) (nle rfl) dX4_init_1 rfl ?_
  refine z_aload_n (q := 5) 0 dX4_init_4 rfl rfl ?_
  refine z_bipush (q := 7) dX4_init_5 rfl (by decide) ?_
  refine n_newa (q := 9) (k := 26) 51 (by decide) (by decide) rfl k168 (by decide) (by decide) rfl f0 dX4_init_7 rfl ?_
  have f1 := f0.up (k' := 27) (by decide)
  refine z_pF (q := 12) (ki := 0) fX4_9 rfl hc3 rfl (z_sv2 rfl) (gI (by decide)) dX4_init_9 rfl ?_
  have f2 := f1.w 25 0 26 (by decide)
  refine z_aload_n (q := 13) 0 dX4_init_12 rfl rfl ?_
  refine z_iconst (q := 14) dX4_init_13 rfl ?_
  refine z_pf (q := 17) (ki := 1) fX4_13 rfl (z_sv0 rfl) (gI (by decide)) dX4_init_14 rfl ?_
  have f3 := f2.w 25 1 1 (by decide)
  refine z_aload_n (q := 18) 0 dX4_init_17 rfl rfl ?_
  refine z_iconst (q := 19) dX4_init_18 rfl ?_
  refine z_pf (q := 22) (ki := 2) fX4_17 rfl (z_sv0 rfl) (gI (by decide)) dX4_init_19 rfl ?_
  have f4 := f3.w 25 2 1 (by decide)
  exact z_vret rfl dX4_init_22 ⟨rfl, rfl, rfl⟩
theorem i_X4_27 {D : zD} {d : Nat} {h : zH} (hd : 1 ≤ d) (f0 : frI 28 h) : z_C D M_X4_init d [(2, 27)] (gL 28) h (fun o G' h' => o = .inl none ∧ G' = gL 29 ∧ h' = (z_wr (z_wr (z_wr h 27 0 28) 27 1 1) 27 2 1)) := by
  refine z_enter mo_X4_init (L := [(0, 2, 27)]) rfl (nle rfl) ?_
  refine z_aload_n (q := 1) 0 dX4_init_0 rfl rfl ?_
  refine z_objInit (q := 4) (by decide) k144 k127 k128 (by omega) (nle rfl) dX4_init_1 rfl ?_
  refine z_aload_n (q := 5) 0 dX4_init_4 rfl rfl ?_
  refine z_bipush (q := 7) dX4_init_5 rfl (by decide) ?_
  refine n_newa (q := 9) (k := 28) 51 (by decide) (by decide) rfl k168 (by decide) (by decide) rfl f0 dX4_init_7 rfl ?_
  have f1 := f0.up (k' := 29) (by decide)
  refine z_pF (q := 12) (ki := 0) fX4_9 rfl hc3 rfl (z_sv2 rfl) (gI (by decide)) dX4_init_9 rfl ?_
  have f2 := f1.w 27 0 28 (by decide)
  refine z_aload_n (q := 13) 0 dX4_init_12 rfl rfl ?_
  refine z_iconst (q := 14) dX4_init_13 rfl ?_
  refine z_pf (q := 17) (ki := 1) fX4_13 rfl (z_sv0 rfl) (gI (by decide)) dX4_init_14 rfl ?_
  have f3 := f2.w 27 1 1 (by decide)
  refine z_aload_n (q := 18) 0 dX4_init_17 rfl rfl ?_
  refine z_iconst (q := 19) dX4_init_18 rfl ?_
  refine z_pf (q := 22) (ki := 2) fX4_17 rfl (z_sv0 rfl) (gI (by decide)) dX4_init_19 rfl ?_
  have f4 := f3.w 27 2 1 (by decide)
  exact z_vret rfl dX4_init_22 ⟨rfl, rfl, rfl⟩
theorem i_X8_24 {D : zD} {d : Nat} {h : zH} (hd : 2 ≤ d) (f0 : frI 25 h) : z_C D M_X8_init d [(2, 24), (2, 12)] (gL 25) h (fun o G' h' => o = .inl none ∧ G' = gL 29 ∧ h' = (z_wr (z_wr (z_wr (z_wr (z_wr (z_wr (z_wr (z_wr (z_wr h 25 0 26) 25 1 1) 25 2 1) 24 1 25) 27 0 28) 27 1 1) 27 2 1) 24 2 27) 24 0 12)) := by
  refine z_enter mo_X8_init (L := [(0, 2, 24), (1, 2, 12)]) rfl (nle rfl) ?_
  refine z_aload_n (q := 1) 0 dX8_init_0 rfl rfl ?_
  refine z_objInit (q := 4) (by decide) k290 k127 k128 (by omega) (nle rfl) dX8_init_1 rfl ?_
  refine z_aload_n (q := 5) 0 dX8_init_4 rfl rfl ?_
  refine n_new (q := 8) (k := 25) cb3 k291 k140 k99 rfl f0 dX8_init_5 rfl ?_
  have f1 := f0.up (k' := 26) (by decide)
  refine z_dup (q := 9) (by decide) dX8_init_8 rfl ?_
  refine n_invN (q := 12) (d2 := d - 1) (rest := [(2, 25), (2, 24)]) (av := []) (by decide) (i_X4_25 (by omega) f1) mo_X4_init np_X4_init rfl k143 k292 k142 (by omega) rfl (nle rfl) dX8_init_9 rfl ?_
  have f2 := (((f1.up (k' := 27) (by decide)).w 25 0 26 (by decide)).w 25 1 1 (by decide)).w 25 2 1 (by decide)
  refine z_pf (q := 15) (ki := 1) fX8_12 rfl (z_sv2 rfl) (gI (by decide)) dX8_init_12 rfl ?_
  have f3 := f2.w 24 1 25 (by decide)
  refine z_aload_n (q := 16) 0 dX8_init_15 rfl rfl ?_
  refine n_new (q := 19) (k := 27) cb3 k291 k140 k99 rfl f3 dX8_init_16 rfl ?_
  have f4 := f3.up (k' := 28) (by decide)
  refine z_dup (q := 20) (by decide) dX8_init_19 rfl ?_
  refine n_invN (q := 23) (d2 := d - 1) (rest := [(2, 27), (2, 24)]) (av := []) (by decide) (i_X4_27 (by omega) f4) mo_X4_init np_X4_init rfl k143 k292 k142 (by omega) rfl (nle rfl) dX8_init_20 rfl ?_
  have f5 := (((f4.up (k' := 29) (by decide)).w 27 0 28 (by decide)).w 27 1 1 (by decide)).w 27 2 1 (by decide)
  refine z_pf (q := 26) (ki := 2) fX8_18 rfl (z_sv2 rfl) (gI (by decide)) dX8_init_23 rfl ?_
  have f6 := f5.w 24 2 27 (by decide)
  refine z_aload_n (q := 27) 0 dX8_init_26 rfl rfl ?_
  refine z_aload_n (q := 28) 1 dX8_init_27 rfl rfl ?_
  refine z_pF (q := 31) (ki := 0) fX8_21 rfl hc6 rfl (z_sv2 rfl) (gI (by decide)) dX8_init_28 rfl ?_
  have f7 := f6.w 24 0 12 (by decide)
  exact z_vret rfl dX8_init_31 ⟨rfl, rfl, rfl⟩
theorem i_X4_29 {D : zD} {d : Nat} {h : zH} (hd : 1 ≤ d) (f0 : frI 30 h) : z_C D M_X4_init d [(2, 29)] (gL 30) h (fun o G' h' => o = .inl none ∧ G' = gL 31 ∧ h' = (z_wr (z_wr (z_wr h 29 0 30) 29 1 1) 29 2 1)) := by
  refine z_enter mo_X4_init (L := [(0, 2, 29)]) rfl (nle rfl) ?_
  refine z_aload_n (q := 1) 0 dX4_init_0 rfl rfl ?_
  refine z_objInit (q := 4) (by decide) k144 k127 k128 (by omega) (nle rfl) dX4_init_1 rfl ?_
  refine z_aload_n (q := 5) 0 dX4_init_4 rfl rfl ?_
  refine z_bipush (q := 7) dX4_init_5 rfl (by decide) ?_
  refine n_newa (q := 9) (k := 30) 51 (by decide) (by decide) rfl k168 (by decide) (by decide) rfl f0 dX4_init_7 rfl ?_
  have f1 := f0.up (k' := 31) (by decide)
  refine z_pF (q := 12) (ki := 0) fX4_9 rfl hc3 rfl (z_sv2 rfl) (gI (by decide)) dX4_init_9 rfl ?_
  have f2 := f1.w 29 0 30 (by decide)
  refine z_aload_n (q := 13) 0 dX4_init_12 rfl rfl ?_
  refine z_iconst (q := 14) dX4_init_13 rfl ?_
  refine z_pf (q := 17) (ki := 1) fX4_13 rfl (z_sv0 rfl) (gI (by decide)) dX4_init_14 rfl ?_
  have f3 := f2.w 29 1 1 (by decide)
  refine z_aload_n (q := 18) 0 dX4_init_17 rfl rfl ?_
  refine z_iconst (q := 19) dX4_init_18 rfl ?_
  refine z_pf (q := 22) (ki := 2) fX4_17 rfl (z_sv0 rfl) (gI (by decide)) dX4_init_19 rfl ?_
  have f4 := f3.w 29 2 1 (by decide)
  exact z_vret rfl dX4_init_22 ⟨rfl, rfl, rfl⟩
theorem i_X9_31 {D : zD} {d : Nat} {h : zH} (hd : 1 ≤ d) (f0 : frI 32 h) : z_C D M_X9_init d [(2, 31)] (gL 32) h (fun o G' h' => o = .inl none ∧ G' = gL 33 ∧ h' = (z_wr (z_wr h 31 0 32) 31 1 0)) := by
  refine z_enter mo_X9_init (L := [(0, 2, 31)]) rfl (nle rfl) ?_
  refine z_aload_n (q := 1) 0 dX9_init_0 rfl rfl ?_
  refine z_objInit (q := 4) (by decide) k211 k127 k128 (by omega) (nle rfl) dX9_init_1 rfl ?_
  refine z_aload_n (q := 5) 0 dX9_init_4 rfl rfl ?_
  refine z_bipush (q := 7) dX9_init_5 rfl (by decide) ?_
  refine n_newa (q := 9) (k := 32) 50 (by decide) (by decide) rfl k222 (by decide) (by decide) rfl f0 dX9_init_7 rfl ?_
  have f1 := f0.up (k' := 33) (by decide)
  refine z_pF (q := 12) (ki := 0) fX9_9 rfl hc7 rfl (z_sv2 rfl) (gI (by decide)) dX9_init_9 rfl ?_
  have f2 := f1.w 31 0 32 (by decide)
  refine z_aload_n (q := 13) 0 dX9_init_12 rfl rfl ?_
  refine z_iconst (q := 14) dX9_init_13 rfl ?_
  refine z_pf (q := 17) (ki := 1) fX9_13 rfl (z_sv0 rfl) (gI (by decide)) dX9_init_14 rfl ?_
  have f3 := f2.w 31 1 0 (by decide)
  exact z_vret rfl dX9_init_17 ⟨rfl, rfl, rfl⟩
theorem i_X4_34 {D : zD} {d : Nat} {h : zH} (hd : 1 ≤ d) (f0 : frI 35 h) : z_C D M_X4_init d [(2, 34)] (gL 35) h (fun o G' h' => o = .inl none ∧ G' = gL 36 ∧ h' = (z_wr (z_wr (z_wr h 34 0 35) 34 1 1) 34 2 1)) := by
  refine z_enter mo_X4_init (L := [(0, 2, 34)]) rfl (nle rfl) ?_
  refine z_aload_n (q := 1) 0 dX4_init_0 rfl rfl ?_
  refine z_objInit (q := 4) (by decide) k144 k127 k128 (by omega) (nle rfl) dX4_init_1 rfl ?_
  refine z_aload_n (q := 5) 0 dX4_init_4 rfl rfl ?_
  refine z_bipush (q := 7) dX4_init_5 rfl (by decide) ?_
  refine n_newa (q := 9) (k := 35) 51 (by decide) (by decide) rfl k168 (by decide) (by decide) rfl f0 dX4_init_7 rfl ?_
  have f1 := f0.up (k' := 36) (by decide)
  refine z_pF (q := 12) (ki := 0) fX4_9 rfl hc3 rfl (z_sv2 rfl) (gI (by decide)) dX4_init_9 rfl ?_
  have f2 := f1.w 34 0 35 (by decide)
  refine z_aload_n (q := 13) 0 dX4_init_12 rfl rfl ?_
  refine z_iconst (q := 14) dX4_init_13 rfl ?_
  refine z_pf (q := 17) (ki := 1) fX4_13 rfl (z_sv0 rfl) (gI (by decide)) dX4_init_14 rfl ?_
  have f3 := f2.w 34 1 1 (by decide)
  refine z_aload_n (q := 18) 0 dX4_init_17 rfl rfl ?_
  refine z_iconst (q := 19) dX4_init_18 rfl ?_
  refine z_pf (q := 22) (ki := 2) fX4_17 rfl (z_sv0 rfl) (gI (by decide)) dX4_init_19 rfl ?_
  have f4 := f3.w 34 2 1 (by decide)
  exact z_vret rfl dX4_init_22 ⟨rfl, rfl, rfl⟩
theorem i_X4_36 {D : zD} {d : Nat} {h : zH} (hd : 1 ≤ d) (f0 : frI 37 h) : z_C D M_X4_init d [(2, 36)] (gL 37) h (fun o G' h' => o = .inl none ∧ G' = gL 38 ∧ h' = (z_wr (z_wr (z_wr h 36 0 37) 36 1 1) 36 2 1)) := by
  refine z_enter mo_X4_init (L := [(0, 2, 36)]) rfl (nle rfl) ?_
  refine z_aload_n (q := 1) 0 dX4_init_0 rfl rfl ?_
  refine z_objInit (q := 4) (by decide) k144 k127 k128 (by omega) (nle rfl) dX4_init_1 rfl ?_
  refine z_aload_n (q := 5) 0 dX4_init_4 rfl rfl ?_
  refine z_bipush (q := 7) dX4_init_5 rfl (by decide) ?_
  refine n_newa (q := 9) (k := 37) 51 (by decide) (by decide) rfl k168 (by decide) (by decide) rfl f0 dX4_init_7 rfl ?_
  have f1 := f0.up (k' := 38) (by decide)
  refine z_pF (q := 12) (ki := 0) fX4_9 rfl hc3 rfl (z_sv2 rfl) (gI (by decide)) dX4_init_9 rfl ?_
  have f2 := f1.w 36 0 37 (by decide)
  refine z_aload_n (q := 13) 0 dX4_init_12 rfl rfl ?_
  refine z_iconst (q := 14) dX4_init_13 rfl ?_
  refine z_pf (q := 17) (ki := 1) fX4_13 rfl (z_sv0 rfl) (gI (by decide)) dX4_init_14 rfl ?_
  have f3 := f2.w 36 1 1 (by decide)
  refine z_aload_n (q := 18) 0 dX4_init_17 rfl rfl ?_
  refine z_iconst (q := 19) dX4_init_18 rfl ?_
  refine z_pf (q := 22) (ki := 2) fX4_17 rfl (z_sv0 rfl) (gI (by decide)) dX4_init_19 rfl ?_
  have f4 := f3.w 36 2 1 (by decide)
  exact z_vret rfl dX4_init_22 ⟨rfl, rfl, rfl⟩
theorem i_X4_38 {D : zD} {d : Nat} {h : zH} (hd : 1 ≤ d) (f0 : frI 39 h) : z_C D M_X4_init d [(2, 38)] (gL 39) h (fun o G' h' => o = .inl none ∧ G' = gL 40 ∧ h' = (z_wr (z_wr (z_wr h 38 0 39) 38 1 1) 38 2 1)) := by
  refine z_enter mo_X4_init (L := [(0, 2, 38)]) rfl (nle rfl) ?_
  refine z_aload_n (q := 1) 0 dX4_init_0 rfl rfl ?_
  refine z_objInit (q := 4) (by decide) k144 k127 k128 (by omega) (nle rfl) dX4_init_1 rfl ?_
  refine z_aload_n (q := 5) 0 dX4_init_4 rfl rfl ?_
  refine z_bipush (q := 7) dX4_init_5 rfl (by decide) ?_
  refine n_newa (q := 9) (k := 39) 51 (by decide) (by decide) rfl k168 (by decide) (by decide) rfl f0 dX4_init_7 rfl ?_
  have f1 := f0.up (k' := 40) (by decide)
  refine z_pF (q := 12) (ki := 0) fX4_9 rfl hc3 rfl (z_sv2 rfl) (gI (by decide)) dX4_init_9 rfl ?_
  have f2 := f1.w 38 0 39 (by decide)
  refine z_aload_n (q := 13) 0 dX4_init_12 rfl rfl ?_
  refine z_iconst (q := 14) dX4_init_13 rfl ?_
  refine z_pf (q := 17) (ki := 1) fX4_13 rfl (z_sv0 rfl) (gI (by decide)) dX4_init_14 rfl ?_
  have f3 := f2.w 38 1 1 (by decide)
  refine z_aload_n (q := 18) 0 dX4_init_17 rfl rfl ?_
  refine z_iconst (q := 19) dX4_init_18 rfl ?_
  refine z_pf (q := 22) (ki := 2) fX4_17 rfl (z_sv0 rfl) (gI (by decide)) dX4_init_19 rfl ?_
  have f4 := f3.w 38 2 1 (by decide)
  exact z_vret rfl dX4_init_22 ⟨rfl, rfl, rfl⟩
theorem i_X4_40 {D : zD} {d : Nat} {h : zH} (hd : 1 ≤ d) (f0 : frI 41 h) : z_C D M_X4_init d [(2, 40)] (gL 41) h (fun o G' h' => o = .inl none ∧ G' = gL 42 ∧ h' = (z_wr (z_wr (z_wr h 40 0 41) 40 1 1) 40 2 1)) := by
  refine z_enter mo_X4_init (L := [(0, 2, 40)]) rfl (nle rfl) ?_
  refine z_aload_n (q := 1) 0 dX4_init_0 rfl rfl ?_
  refine z_objInit (q := 4) (by decide) k144 k127 k128 (by omega) (nle rfl) dX4_init_1 rfl ?_
  refine z_aload_n (q := 5) 0 dX4_init_4 rfl rfl ?_
  refine z_bipush (q := 7) dX4_init_5 rfl (by decide) ?_
  refine n_newa (q := 9) (k := 41) 51 (by decide) (by decide) rfl k168 (by decide) (by decide) rfl f0 dX4_init_7 rfl ?_
  have f1 := f0.up (k' := 42) (by decide)
  refine z_pF (q := 12) (ki := 0) fX4_9 rfl hc3 rfl (z_sv2 rfl) (gI (by decide)) dX4_init_9 rfl ?_
  have f2 := f1.w 40 0 41 (by decide)
  refine z_aload_n (q := 13) 0 dX4_init_12 rfl rfl ?_
  refine z_iconst (q := 14) dX4_init_13 rfl ?_
  refine z_pf (q := 17) (ki := 1) fX4_13 rfl (z_sv0 rfl) (gI (by decide)) dX4_init_14 rfl ?_
  have f3 := f2.w 40 1 1 (by decide)
  refine z_aload_n (q := 18) 0 dX4_init_17 rfl rfl ?_
  refine z_iconst (q := 19) dX4_init_18 rfl ?_
  refine z_pf (q := 22) (ki := 2) fX4_17 rfl (z_sv0 rfl) (gI (by decide)) dX4_init_19 rfl ?_
  have f4 := f3.w 40 2 1 (by decide)
  exact z_vret rfl dX4_init_22 ⟨rfl, rfl, rfl⟩
theorem i_X4_42 {D : zD} {d : Nat} {h : zH} (hd : 1 ≤ d) (f0 : frI 43 h) : z_C D M_X4_init d [(2, 42)] (gL 43) h (fun o G' h' => o = .inl none ∧ G' = gL 44 ∧ h' = (z_wr (z_wr (z_wr h 42 0 43) 42 1 1) 42 2 1)) := by
  refine z_enter mo_X4_init (L := [(0, 2, 42)]) rfl (nle rfl) ?_
  refine z_aload_n (q := 1) 0 dX4_init_0 rfl rfl ?_
  refine z_objInit (q := 4) (by decide) k144 k127 k128 (by omega) (nle rfl) dX4_init_1 rfl ?_
  refine z_aload_n (q := 5) 0 dX4_init_4 rfl rfl ?_
  refine z_bipush (q := 7) dX4_init_5 rfl (by decide) ?_
  refine n_newa (q := 9) (k := 43) 51 (by decide) (by decide) rfl k168 (by decide) (by decide) rfl f0 dX4_init_7 rfl ?_
  have f1 := f0.up (k' := 44) (by decide)
  refine z_pF (q := 12) (ki := 0) fX4_9 rfl hc3 rfl (z_sv2 rfl) (gI (by decide)) dX4_init_9 rfl ?_
  have f2 := f1.w 42 0 43 (by decide)
  refine z_aload_n (q := 13) 0 dX4_init_12 rfl rfl ?_
  refine z_iconst (q := 14) dX4_init_13 rfl ?_
  refine z_pf (q := 17) (ki := 1) fX4_13 rfl (z_sv0 rfl) (gI (by decide)) dX4_init_14 rfl ?_
  have f3 := f2.w 42 1 1 (by decide)
  refine z_aload_n (q := 18) 0 dX4_init_17 rfl rfl ?_
  refine z_iconst (q := 19) dX4_init_18 rfl ?_
  refine z_pf (q := 22) (ki := 2) fX4_17 rfl (z_sv0 rfl) (gI (by decide)) dX4_init_19 rfl ?_
  have f4 := f3.w 42 2 1 (by decide)
  exact z_vret rfl dX4_init_22 ⟨rfl, rfl, rfl⟩
theorem i_X4_44 {D : zD} {d : Nat} {h : zH} (hd : 1 ≤ d) (f0 : frI 45 h) : z_C D M_X4_init d [(2, 44)] (gL 45) h (fun o G' h' => o = .inl none ∧ G' = gL 46 ∧ h' = (z_wr (z_wr (z_wr h 44 0 45) 44 1 1) 44 2 1)) := by
  refine z_enter mo_X4_init (L := [(0, 2, 44)]) rfl (nle rfl) ?_
  refine z_aload_n (q := 1) 0 dX4_init_0 rfl rfl ?_
  refine z_objInit (q := 4) (by decide) k144 k127 k128 (by omega) (nle rfl) dX4_init_1 rfl ?_
  refine z_aload_n (q := 5) 0 dX4_init_4 rfl rfl ?_
  refine z_bipush (q := 7) dX4_init_5 rfl (by decide) ?_
  refine n_newa (q := 9) (k := 45) 51 (by decide) (by decide) rfl k168 (by decide) (by decide) rfl f0 dX4_init_7 rfl ?_
  have f1 := f0.up (k' := 46) (by decide)
  refine z_pF (q := 12) (ki := 0) fX4_9 rfl hc3 rfl (z_sv2 rfl) (gI (by decide)) dX4_init_9 rfl ?_
  have f2 := f1.w 44 0 45 (by decide)
  refine z_aload_n (q := 13) 0 dX4_init_12 rfl rfl ?_
  refine z_iconst (q := 14) dX4_init_13 rfl ?_
  refine z_pf (q := 17) (ki := 1) fX4_13 rfl (z_sv0 rfl) (gI (by decide)) dX4_init_14 rfl ?_
  have f3 := f2.w 44 1 1 (by decide)
  refine z_aload_n (q := 18) 0 dX4_init_17 rfl rfl ?_
  refine z_iconst (q := 19) dX4_init_18 rfl ?_
  refine z_pf (q := 22) (ki := 2) fX4_17 rfl (z_sv0 rfl) (gI (by decide)) dX4_init_19 rfl ?_
  have f4 := f3.w 44 2 1 (by decide)
  exact z_vret rfl dX4_init_22 ⟨rfl, rfl, rfl⟩
theorem i_X4_46 {D : zD} {d : Nat} {h : zH} (hd : 1 ≤ d) (f0 : frI 47 h) : z_C D M_X4_init d [(2, 46)] (gL 47) h (fun o G' h' => o = .inl none ∧ G' = gL 48 ∧ h' = (z_wr (z_wr (z_wr h 46 0 47) 46 1 1) 46 2 1)) := by
  refine z_enter mo_X4_init (L := [(0, 2, 46)]) rfl (nle rfl) ?_
  refine z_aload_n (q := 1) 0 dX4_init_0 rfl rfl ?_
  refine z_objInit (q := 4) (by decide) k144 k127 k128 (by omega) (nle rfl) dX4_init_1 rfl ?_
  refine z_aload_n (q := 5) 0 dX4_init_4 rfl rfl ?_
  refine z_bipush (q := 7) dX4_init_5 rfl (by decide) ?_
  refine n_newa (q := 9) (k := 47) 51 (by decide) (by decide) rfl k168 (by decide) (by decide) rfl f0 dX4_init_7 rfl ?_
  have f1 := f0.up (k' := 48) (by decide)
  refine z_pF (q := 12) (ki := 0) fX4_9 rfl hc3 rfl (z_sv2 rfl) (gI (by decide)) dX4_init_9 rfl ?_
  have f2 := f1.w 46 0 47 (by decide)
  refine z_aload_n (q := 13) 0 dX4_init_12 rfl rfl ?_
  refine z_iconst (q := 14) dX4_init_13 rfl ?_
  refine z_pf (q := 17) (ki := 1) fX4_13 rfl (z_sv0 rfl) (gI (by decide)) dX4_init_14 rfl ?_
  have f3 := f2.w 46 1 1 (by decide)
  refine z_aload_n (q := 18) 0 dX4_init_17 rfl rfl ?_
  refine z_iconst (q := 19) dX4_init_18 rfl ?_
  refine z_pf (q := 22) (ki := 2) fX4_17 rfl (z_sv0 rfl) (gI (by decide)) dX4_init_19 rfl ?_
  have f4 := f3.w 46 2 1 (by decide)
  exact z_vret rfl dX4_init_22 ⟨rfl, rfl, rfl⟩
theorem i_X7_51 {D : zD} {d : Nat} {h : zH} (hd : 1 ≤ d) (f0 : frI 52 h) : z_C D M_X7_init d [(2, 51)] (gL 52) h (fun o G' h' => o = .inl none ∧ G' = gL 56 ∧ h' = (z_wr (z_wr (z_wr (z_wr (z_wr (z_wr h 51 0 0) 51 1 0) 51 2 52) 51 3 53) 51 4 54) 51 5 55)) := by
  refine z_enter mo_X7_init (L := [(0, 2, 51)]) rfl (nle rfl) ?_
  refine z_aload_n (q := 1) 0 dX7_init_0 rfl rfl ?_
  refine z_objInit (q := 4) (by decide) k321 k127 k128 (by omega) (nle rfl) dX7_init_1 rfl ?_
  refine z_aload_n (q := 5) 0 dX7_init_4 rfl rfl ?_
  refine z_iconst (q := 6) dX7_init_5 rfl ?_
  refine z_pf (q := 9) (ki := 0) fX7_7 rfl (z_sv0 rfl) (gI (by decide)) dX7_init_6 rfl ?_
  have f1 := f0.w 51 0 0 (by decide)
  refine z_aload_n (q := 10) 0 dX7_init_9 rfl rfl ?_
  refine z_iconst (q := 11) dX7_init_10 rfl ?_
  refine z_pf (q := 14) (ki := 1) fX7_13 rfl (z_sv0 rfl) (gI (by decide)) dX7_init_11 rfl ?_
  have f2 := f1.w 51 1 0 (by decide)
  refine z_aload_n (q := 15) 0 dX7_init_14 rfl rfl ?_
  refine z_bipush (q := 17) dX7_init_15 rfl (by decide) ?_
  refine n_newa (q := 19) (k := 52) 50 (by decide) (by decide) rfl k222 (by decide) (by decide) rfl f2 dX7_init_17 rfl ?_
  have f3 := f2.up (k' := 53) (by decide)
  refine z_pf (q := 22) (ki := 2) fX7_16 rfl (z_sv2 rfl) (gI (by decide)) dX7_init_19 rfl ?_
  have f4 := f3.w 51 2 52 (by decide)
  refine z_aload_n (q := 23) 0 dX7_init_22 rfl rfl ?_
  refine z_bipush (q := 25) dX7_init_23 rfl (by decide) ?_
  refine n_newa (q := 27) (k := 53) 50 (by decide) (by decide) rfl k222 (by decide) (by decide) rfl f4 dX7_init_25 rfl ?_
  have f5 := f4.up (k' := 54) (by decide)
  refine z_pf (q := 30) (ki := 3) fX7_20 rfl (z_sv2 rfl) (gI (by decide)) dX7_init_27 rfl ?_
  have f6 := f5.w 51 3 53 (by decide)
  refine z_aload_n (q := 31) 0 dX7_init_30 rfl rfl ?_
  refine z_bipush (q := 33) dX7_init_31 rfl (by decide) ?_
  refine n_newa (q := 35) (k := 54) 50 (by decide) (by decide) rfl k222 (by decide) (by decide) rfl f6 dX7_init_33 rfl ?_
  have f7 := f6.up (k' := 55) (by decide)
  refine z_pf (q := 38) (ki := 4) fX7_23 rfl (z_sv2 rfl) (gI (by decide)) dX7_init_35 rfl ?_
  have f8 := f7.w 51 4 54 (by decide)
  refine z_aload_n (q := 39) 0 dX7_init_38 rfl rfl ?_
  refine z_bipush (q := 41) dX7_init_39 rfl (by decide) ?_
  refine n_newa (q := 43) (k := 55) 50 (by decide) (by decide) rfl k222 (by decide) (by decide) rfl f8 dX7_init_41 rfl ?_
  have f9 := f8.up (k' := 56) (by decide)
  refine z_pf (q := 46) (ki := 5) fX7_26 rfl (z_sv2 rfl) (gI (by decide)) dX7_init_43 rfl ?_
  have f10 := f9.w 51 5 55 (by decide)
  exact z_vret rfl dX7_init_46 ⟨rfl, rfl, rfl⟩
theorem i_X1_33 {D : zD} {d : Nat} {h : zH} (hd : 2 ≤ d) (f0 : frI 34 h) : z_C D M_X1_init d [(2, 33), (2, 12)] (gL 34) h (fun o G' h' => o = .inl none ∧ G' = gL 56 ∧ h' = (z_wr (z_wr (z_wr (z_wr (z_wr (z_wr (z_wr (z_wr (z_wr (z_wr (z_wr (z_wr (z_wr (z_wr (z_wr (z_wr (z_wr (z_wr (z_wr (z_wr (z_wr (z_wr (z_wr (z_wr (z_wr (z_wr (z_wr (z_wr (z_wr (z_wr (z_wr (z_wr (z_wr (z_wr (z_wr (z_wr (z_wr (z_wr (z_wr (z_wr (z_wr (z_wr (z_wr (z_wr h 34 0 35) 34 1 1) 34 2 1) 33 1 34) 36 0 37) 36 1 1) 36 2 1) 33 2 36) 38 0 39) 38 1 1) 38 2 1) 33 3 38) 40 0 41) 40 1 1) 40 2 1) 33 4 40) 42 0 43) 42 1 1) 42 2 1) 33 5 42) 44 0 45) 44 1 1) 44 2 1) 33 6 44) 46 0 47) 46 1 1) 46 2 1) 33 7 46) 33 8 0) 33 9 48) 33 10 49) 33 11 50) 33 12 0) 51 0 0) 51 1 0) 51 2 52) 51 3 53) 51 4 54) 51 5 55) 33 13 51) 33 14 0) 33 15 0) 33 16 0) 33 0 12)) := by
  refine z_enter mo_X1_init (L := [(0, 2, 33), (1, 2, 12)]) rfl (nle rfl) ?_
  refine z_aload_n (q := 1) 0 dX1_init_0 rfl rfl ?_
  refine z_objInit (q := 4) (by decide) k311 k127 k128 (by omega) (nle rfl) dX1_init_1 rfl ?_
  refine z_aload_n (q := 5) 0 dX1_init_4 rfl rfl ?_
  refine n_new (q := 8) (k := 34) cb3 k312 k140 k99 rfl f0 dX1_init_5 rfl ?_
  have f1 := f0.up (k' := 35) (by decide)
  refine z_dup (q := 9) (by decide) dX1_init_8 rfl ?_
  refine n_invN (q := 12) (d2 := d - 1) (rest := [(2, 34), (2, 33)]) (av := []) (by decide) (i_X4_34 (by omega) f1) mo_X4_init np_X4_init rfl k143 k313 k142 (by omega) rfl (nle rfl) dX1_init_9 rfl ?_
  have f2 := (((f1.up (k' := 36) (by decide)).w 34 0 35 (by decide)).w 34 1 1 (by decide)).w 34 2 1 (by decide)
  refine z_pF (q := 15) (ki := 1) fX1_12 rfl hc0 rfl (z_sv2 rfl) (gI (by decide)) dX1_init_12 rfl ?_
  have f3 := f2.w 33 1 34 (by decide)
  refine z_aload_n (q := 16) 0 dX1_init_15 rfl rfl ?_
  refine n_new (q := 19) (k := 36) cb3 k312 k140 k99 rfl f3 dX1_init_16 rfl ?_
  have f4 := f3.up (k' := 37) (by decide)
  refine z_dup (q := 20) (by decide) dX1_init_19 rfl ?_
  refine n_invN (q := 23) (d2 := d - 1) (rest := [(2, 36), (2, 33)]) (av := []) (by decide) (i_X4_36 (by omega) f4) mo_X4_init np_X4_init rfl k143 k313 k142 (by omega) rfl (nle rfl) dX1_init_20 rfl ?_
  have f5 := (((f4.up (k' := 38) (by decide)).w 36 0 37 (by decide)).w 36 1 1 (by decide)).w 36 2 1 (by decide)
  refine z_pF (q := 26) (ki := 2) fX1_18 rfl hc0 rfl (z_sv2 rfl) (gI (by decide)) dX1_init_23 rfl ?_
  have f6 := f5.w 33 2 36 (by decide)
  refine z_aload_n (q := 27) 0 dX1_init_26 rfl rfl ?_
  refine n_new (q := 30) (k := 38) cb3 k312 k140 k99 rfl f6 dX1_init_27 rfl ?_
  have f7 := f6.up (k' := 39) (by decide)
  refine z_dup (q := 31) (by decide) dX1_init_30 rfl ?_
  refine n_invN (q := 34) (d2 := d - 1) (rest := [(2, 38), (2, 33)]) (av := []) (by decide) (i_X4_38 (by omega) f7) mo_X4_init np_X4_init rfl k143 k313 k142 (by omega) rfl (nle rfl) dX1_init_31 rfl ?_
  have f8 := (((f7.up (k' := 40) (by decide)).w 38 0 39 (by decide)).w 38 1 1 (by decide)).w 38 2 1 (by decide)
  refine z_pF (q := 37) (ki := 3) fX1_21 rfl hc0 rfl (z_sv2 rfl) (gI (by decide)) dX1_init_34 rfl ?_
  have f9 := f8.w 33 3 38 (by decide)
  refine z_aload_n (q := 38) 0 dX1_init_37 rfl rfl ?_
  refine n_new (q := 41) (k := 40) cb3 k312 k140 k99 rfl f9 dX1_init_38 rfl ?_
  have f10 := f9.up (k' := 41) (by decide)
  refine z_dup (q := 42) (by decide) dX1_init_41 rfl ?_
  refine n_invN (q := 45) (d2 := d - 1) (rest := [(2, 40), (2, 33)]) (av := []) (by decide) (i_X4_40 (by omega) f10) mo_X4_init np_X4_init rfl k143 k313 k142 (by omega) rfl (nle rfl) dX1_init_42 rfl ?_
  have f11 := (((f10.up (k' := 42) (by decide)).w 40 0 41 (by decide)).w 40 1 1 (by decide)).w 40 2 1 (by decide)
  refine z_pF (q := 48) (ki := 4) fX1_24 rfl hc0 rfl (z_sv2 rfl) (gI (by decide)) dX1_init_45 rfl ?_
  have f12 := f11.w 33 4 40 (by decide)
  refine z_aload_n (q := 49) 0 dX1_init_48 rfl rfl ?_
  refine n_new (q := 52) (k := 42) cb3 k312 k140 k99 rfl f12 dX1_init_49 rfl ?_
  have f13 := f12.up (k' := 43) (by decide)
  refine z_dup (q := 53) (by decide) dX1_init_52 rfl ?_
  refine n_invN (q := 56) (d2 := d - 1) (rest := [(2, 42), (2, 33)]) (av := []) (by decide) (i_X4_42 (by omega) f13) mo_X4_init np_X4_init rfl k143 k313 k142 (by omega) rfl (nle rfl) dX1_init_53 rfl ?_
  have f14 := (((f13.up (k' := 44) (by decide)).w 42 0 43 (by decide)).w 42 1 1 (by decide)).w 42 2 1 (by decide)
  refine z_pF (q := 59) (ki := 5) fX1_27 rfl hc0 rfl (z_sv2 rfl) (gI (by decide)) dX1_init_56 rfl ?_
  have f15 := f14.w 33 5 42 (by decide)
  refine z_aload_n (q := 60) 0 dX1_init_59 rfl rfl ?_
  refine n_new (q := 63) (k := 44) cb3 k312 k140 k99 rfl f15 dX1_init_60 rfl ?_
  have f16 := f15.up (k' := 45) (by decide)
  refine z_dup (q := 64) (by decide) dX1_init_63 rfl ?_
  refine n_invN (q := 67) (d2 := d - 1) (rest := [(2, 44), (2, 33)]) (av := []) (by decide) (i_X4_44 (by omega) f16) mo_X4_init np_X4_init rfl k143 k313 k142 (by omega) rfl (nle rfl) dX1_init_64 rfl ?_
  have f17 := (((f16.up (k' := 46) (by decide)).w 44 0 45 (by decide)).w 44 1 1 (by decide)).w 44 2 1 (by decide)
  refine z_pF (q := 70) (ki := 6) fX1_30 rfl hc0 rfl (z_sv2 rfl) (gI (by decide)) dX1_init_67 rfl ?_
  have f18 := f17.w 33 6 44 (by decide)
  refine z_aload_n (q := 71) 0 dX1_init_70 rfl rfl ?_
  refine n_new (q := 74) (k := 46) cb3 k312 k140 k99 rfl f18 dX1_init_71 rfl ?_
  have f19 := f18.up (k' := 47) (by decide)
  refine z_dup (q := 75) (by decide) dX1_init_74 rfl ?_
  refine n_invN (q := 78) (d2 := d - 1) (rest := [(2, 46), (2, 33)]) (av := []) (by decide) (i_X4_46 (by omega) f19) mo_X4_init np_X4_init rfl k143 k313 k142 (by omega) rfl (nle rfl) dX1_init_75 rfl ?_
  have f20 := (((f19.up (k' := 48) (by decide)).w 46 0 47 (by decide)).w 46 1 1 (by decide)).w 46 2 1 (by decide)
  refine z_pF (q := 81) (ki := 7) fX1_33 rfl hc0 rfl (z_sv2 rfl) (gI (by decide)) dX1_init_78 rfl ?_
  have f21 := f20.w 33 7 46 (by decide)
  refine z_aload_n (q := 82) 0 dX1_init_81 rfl rfl ?_
  refine z_iconst (q := 83) dX1_init_82 rfl ?_
  refine z_pf (q := 86) (ki := 8) fX1_36 rfl (z_sv4 rfl (by decide)) (gI (by decide)) dX1_init_83 rfl ?_
  have f22 := f21.w 33 8 0 (by decide)
  refine z_aload_n (q := 87) 0 dX1_init_86 rfl rfl ?_
  refine z_sipush (q := 90) dX1_init_87 rfl (by decide) ?_
  refine n_anew (q := 93) (k := 48) 56 (by decide) (by decide) rfl k314 k315 (by decide) (by decide) rfl f22 dX1_init_90 rfl ?_
  have f23 := f22.up (k' := 49) (by decide)
  refine z_pF (q := 96) (ki := 9) fX1_42 rfl hc0 rfl (z_sv2 rfl) (gI (by decide)) dX1_init_93 rfl ?_
  have f24 := f23.w 33 9 48 (by decide)
  refine z_aload_n (q := 97) 0 dX1_init_96 rfl rfl ?_
  refine z_sipush (q := 100) dX1_init_97 rfl (by decide) ?_
  refine n_newa (q := 102) (k := 49) 50 (by decide) (by decide) rfl k222 (by decide) (by decide) rfl f24 dX1_init_100 rfl ?_
  have f25 := f24.up (k' := 50) (by decide)
  refine z_pF (q := 105) (ki := 10) fX1_46 rfl hc0 rfl (z_sv2 rfl) (gI (by decide)) dX1_init_102 rfl ?_
  have f26 := f25.w 33 10 49 (by decide)
  refine z_aload_n (q := 106) 0 dX1_init_105 rfl rfl ?_
  refine z_sipush (q := 109) dX1_init_106 rfl (by decide) ?_
  refine n_newa (q := 111) (k := 50) 50 (by decide) (by decide) rfl k222 (by decide) (by decide) rfl f26 dX1_init_109 rfl ?_
  have f27 := f26.up (k' := 51) (by decide)
  refine z_pf (q := 114) (ki := 11) fX1_50 rfl (z_sv2 rfl) (gI (by decide)) dX1_init_111 rfl ?_
  have f28 := f27.w 33 11 50 (by decide)
  refine z_aload_n (q := 115) 0 dX1_init_114 rfl rfl ?_
  refine z_iconst (q := 116) dX1_init_115 rfl ?_
  refine z_pf (q := 119) (ki := 12) fX1_53 rfl (z_sv0 rfl) (gI (by decide)) dX1_init_116 rfl ?_
  have f29 := f28.w 33 12 0 (by decide)
  refine z_aload_n (q := 120) 0 dX1_init_119 rfl rfl ?_
  refine n_new (q := 123) (k := 51) cb5 k316 k317 k105 rfl f29 dX1_init_120 rfl ?_
  have f30 := f29.up (k' := 52) (by decide)
  refine z_dup (q := 124) (by decide) dX1_init_123 rfl ?_
  refine n_invN (q := 127) (d2 := d - 1) (rest := [(2, 51), (2, 33)]) (av := []) (by decide) (i_X7_51 (by omega) f30) mo_X7_init np_X7_init rfl k320 k318 k319 (by omega) rfl (nle rfl) dX1_init_124 rfl ?_
  have f31 := ((((((f30.up (k' := 56) (by decide)).w 51 0 0 (by decide)).w 51 1 0 (by decide)).w 51 2 52 (by decide)).w 51 3 53 (by decide)).w 51 4 54 (by decide)).w 51 5 55 (by decide)
  refine z_pF (q := 130) (ki := 13) fX1_60 rfl hc0 rfl (z_sv2 rfl) (gI (by decide)) dX1_init_127 rfl ?_
  have f32 := f31.w 33 13 51 (by decide)
  refine z_aload_n (q := 131) 0 dX1_init_130 rfl rfl ?_
  refine z_iconst (q := 132) dX1_init_131 rfl ?_
  refine z_pf (q := 135) (ki := 14) fX1_64 rfl (z_sv0 rfl) (gI (by decide)) dX1_init_132 rfl ?_
  have f33 := f32.w 33 14 0 (by decide)
  refine z_aload_n (q := 136) 0 dX1_init_135 rfl rfl ?_
  refine z_iconst (q := 137) dX1_init_136 rfl ?_
  refine z_pf (q := 140) (ki := 15) fX1_67 rfl (z_sv0 rfl) (gI (by decide)) dX1_init_137 rfl ?_
  have f34 := f33.w 33 15 0 (by decide)
  refine z_aload_n (q := 141) 0 dX1_init_140 rfl rfl ?_
  refine z_iconst (q := 142) dX1_init_141 rfl ?_
  refine z_pf (q := 145) (ki := 16) fX1_70 rfl (z_sv0 rfl) (gI (by decide)) dX1_init_142 rfl ?_
  have f35 := f34.w 33 16 0 (by decide)
  refine z_aload_n (q := 146) 0 dX1_init_145 rfl rfl ?_
  refine z_aload_n (q := 147) 1 dX1_init_146 rfl rfl ?_
  refine z_pF (q := 150) (ki := 0) fX1_73 rfl hc0 rfl (z_sv2 rfl) (gI (by decide)) dX1_init_147 rfl ?_
  have f36 := f35.w 33 0 12 (by decide)
  exact z_vret rfl dX1_init_150 ⟨rfl, rfl, rfl⟩
theorem i_X4_56 {D : zD} {d : Nat} {h : zH} (hd : 1 ≤ d) (f0 : frI 57 h) : z_C D M_X4_init d [(2, 56)] (gL 57) h (fun o G' h' => o = .inl none ∧ G' = gL 58 ∧ h' = (z_wr (z_wr (z_wr h 56 0 57) 56 1 1) 56 2 1)) := by
  refine z_enter mo_X4_init (L := [(0, 2, 56)]) rfl (nle rfl) ?_
  refine z_aload_n (q := 1) 0 dX4_init_0 rfl rfl ?_
  refine z_objInit (q := 4) (by decide) k144 k127 k128 (by omega) (nle rfl) dX4_init_1 rfl ?_
  refine z_aload_n (q := 5) 0 dX4_init_4 rfl rfl ?_
  refine z_bipush (q := 7) dX4_init_5 rfl (by decide) ?_
  refine n_newa (q := 9) (k := 57) 51 (by decide) (by decide) rfl k168 (by decide) (by decide) rfl f0 dX4_init_7 rfl ?_
  have f1 := f0.up (k' := 58) (by decide)
  refine z_pF (q := 12) (ki := 0) fX4_9 rfl hc3 rfl (z_sv2 rfl) (gI (by decide)) dX4_init_9 rfl ?_
  have f2 := f1.w 56 0 57 (by decide)
  refine z_aload_n (q := 13) 0 dX4_init_12 rfl rfl ?_
  refine z_iconst (q := 14) dX4_init_13 rfl ?_
  refine z_pf (q := 17) (ki := 1) fX4_13 rfl (z_sv0 rfl) (gI (by decide)) dX4_init_14 rfl ?_
  have f3 := f2.w 56 1 1 (by decide)
  refine z_aload_n (q := 18) 0 dX4_init_17 rfl rfl ?_
  refine z_iconst (q := 19) dX4_init_18 rfl ?_
  refine z_pf (q := 22) (ki := 2) fX4_17 rfl (z_sv0 rfl) (gI (by decide)) dX4_init_19 rfl ?_
  have f4 := f3.w 56 2 1 (by decide)
  exact z_vret rfl dX4_init_22 ⟨rfl, rfl, rfl⟩
theorem i_X9_58 {D : zD} {d : Nat} {h : zH} (hd : 1 ≤ d) (f0 : frI 59 h) : z_C D M_X9_init d [(2, 58)] (gL 59) h (fun o G' h' => o = .inl none ∧ G' = gL 60 ∧ h' = (z_wr (z_wr h 58 0 59) 58 1 0)) := by
  refine z_enter mo_X9_init (L := [(0, 2, 58)]) rfl (nle rfl) ?_
  refine z_aload_n (q := 1) 0 dX9_init_0 rfl rfl ?_
  refine z_objInit (q := 4) (by decide) k211 k127 k128 (by omega) (nle rfl) dX9_init_1 rfl ?_
  refine z_aload_n (q := 5) 0 dX9_init_4 rfl rfl ?_
  refine z_bipush (q := 7) dX9_init_5 rfl (by decide) ?_
  refine n_newa (q := 9) (k := 59) 50 (by decide) (by decide) rfl k222 (by decide) (by decide) rfl f0 dX9_init_7 rfl ?_
  have f1 := f0.up (k' := 60) (by decide)
  refine z_pF (q := 12) (ki := 0) fX9_9 rfl hc7 rfl (z_sv2 rfl) (gI (by decide)) dX9_init_9 rfl ?_
  have f2 := f1.w 58 0 59 (by decide)
  refine z_aload_n (q := 13) 0 dX9_init_12 rfl rfl ?_
  refine z_iconst (q := 14) dX9_init_13 rfl ?_
  refine z_pf (q := 17) (ki := 1) fX9_13 rfl (z_sv0 rfl) (gI (by decide)) dX9_init_14 rfl ?_
  have f3 := f2.w 58 1 0 (by decide)
  exact z_vret rfl dX9_init_17 ⟨rfl, rfl, rfl⟩
theorem i_X4_60 {D : zD} {d : Nat} {h : zH} (hd : 1 ≤ d) (f0 : frI 61 h) : z_C D M_X4_init d [(2, 60)] (gL 61) h (fun o G' h' => o = .inl none ∧ G' = gL 62 ∧ h' = (z_wr (z_wr (z_wr h 60 0 61) 60 1 1) 60 2 1)) := by
  refine z_enter mo_X4_init (L := [(0, 2, 60)]) rfl (nle rfl) ?_
  refine z_aload_n (q := 1) 0 dX4_init_0 rfl rfl ?_
  refine z_objInit (q := 4) (by decide) k144 k127 k128 (by omega) (nle rfl) dX4_init_1 rfl ?_
  refine z_aload_n (q := 5) 0 dX4_init_4 rfl rfl ?_
  refine z_bipush (q := 7) dX4_init_5 rfl (by decide) ?_
  refine n_newa (q := 9) (k := 61) 51 (by decide) (by decide) rfl k168 (by decide) (by decide) rfl f0 dX4_init_7 rfl ?_
  have f1 := f0.up (k' := 62) (by decide)
  refine z_pF (q := 12) (ki := 0) fX4_9 rfl hc3 rfl (z_sv2 rfl) (gI (by decide)) dX4_init_9 rfl ?_
  have f2 := f1.w 60 0 61 (by decide)
  refine z_aload_n (q := 13) 0 dX4_init_12 rfl rfl ?_
  refine z_iconst (q := 14) dX4_init_13 rfl ?_
  refine z_pf (q := 17) (ki := 1) fX4_13 rfl (z_sv0 rfl) (gI (by decide)) dX4_init_14 rfl ?_
  have f3 := f2.w 60 1 1 (by decide)
  refine z_aload_n (q := 18) 0 dX4_init_17 rfl rfl ?_
  refine z_iconst (q := 19) dX4_init_18 rfl ?_
  refine z_pf (q := 22) (ki := 2) fX4_17 rfl (z_sv0 rfl) (gI (by decide)) dX4_init_19 rfl ?_
  have f4 := f3.w 60 2 1 (by decide)
  exact z_vret rfl dX4_init_22 ⟨rfl, rfl, rfl⟩
theorem i_X9_62 {D : zD} {d : Nat} {h : zH} (hd : 1 ≤ d) (f0 : frI 63 h) : z_C D M_X9_init d [(2, 62)] (gL 63) h (fun o G' h' => o = .inl none ∧ G' = gL 64 ∧ h' = (z_wr (z_wr h 62 0 63) 62 1 0)) := by
  refine z_enter mo_X9_init (L := [(0, 2, 62)]) rfl (nle rfl) ?_
  refine z_aload_n (q := 1) 0 dX9_init_0 rfl rfl ?_
  refine z_objInit (q := 4) (by decide) k211 k127 k128 (by omega) (nle rfl) dX9_init_1 rfl ?_
  refine z_aload_n (q := 5) 0 dX9_init_4 rfl rfl ?_
  refine z_bipush (q := 7) dX9_init_5 rfl (by decide) ?_
  refine n_newa (q := 9) (k := 63) 50 (by decide) (by decide) rfl k222 (by decide) (by decide) rfl f0 dX9_init_7 rfl ?_
  have f1 := f0.up (k' := 64) (by decide)
  refine z_pF (q := 12) (ki := 0) fX9_9 rfl hc7 rfl (z_sv2 rfl) (gI (by decide)) dX9_init_9 rfl ?_
  have f2 := f1.w 62 0 63 (by decide)
  refine z_aload_n (q := 13) 0 dX9_init_12 rfl rfl ?_
  refine z_iconst (q := 14) dX9_init_13 rfl ?_
  refine z_pf (q := 17) (ki := 1) fX9_13 rfl (z_sv0 rfl) (gI (by decide)) dX9_init_14 rfl ?_
  have f3 := f2.w 62 1 0 (by decide)
  exact z_vret rfl dX9_init_17 ⟨rfl, rfl, rfl⟩
theorem i_X4_64 {D : zD} {d : Nat} {h : zH} (hd : 1 ≤ d) (f0 : frI 65 h) : z_C D M_X4_init d [(2, 64)] (gL 65) h (fun o G' h' => o = .inl none ∧ G' = gL 66 ∧ h' = (z_wr (z_wr (z_wr h 64 0 65) 64 1 1) 64 2 1)) := by
  refine z_enter mo_X4_init (L := [(0, 2, 64)]) rfl (nle rfl) ?_
  refine z_aload_n (q := 1) 0 dX4_init_0 rfl rfl ?_
  refine z_objInit (q := 4) (by decide) k144 k127 k128 (by omega) (nle rfl) dX4_init_1 rfl ?_
  refine z_aload_n (q := 5) 0 dX4_init_4 rfl rfl ?_
  refine z_bipush (q := 7) dX4_init_5 rfl (by decide) ?_
  refine n_newa (q := 9) (k := 65) 51 (by decide) (by decide) rfl k168 (by decide) (by decide) rfl f0 dX4_init_7 rfl ?_
  have f1 := f0.up (k' := 66) (by decide)
  refine z_pF (q := 12) (ki := 0) fX4_9 rfl hc3 rfl (z_sv2 rfl) (gI (by decide)) dX4_init_9 rfl ?_
  have f2 := f1.w 64 0 65 (by decide)
  refine z_aload_n (q := 13) 0 dX4_init_12 rfl rfl ?_
  refine z_iconst (q := 14) dX4_init_13 rfl ?_
  refine z_pf (q := 17) (ki := 1) fX4_13 rfl (z_sv0 rfl) (gI (by decide)) dX4_init_14 rfl ?_
  have f3 := f2.w 64 1 1 (by decide)
  refine z_aload_n (q := 18) 0 dX4_init_17 rfl rfl ?_
  refine z_iconst (q := 19) dX4_init_18 rfl ?_
  refine z_pf (q := 22) (ki := 2) fX4_17 rfl (z_sv0 rfl) (gI (by decide)) dX4_init_19 rfl ?_
  have f4 := f3.w 64 2 1 (by decide)
  exact z_vret rfl dX4_init_22 ⟨rfl, rfl, rfl⟩
theorem i_X9_66 {D : zD} {d : Nat} {h : zH} (hd : 1 ≤ d) (f0 : frI 67 h) : z_C D M_X9_init d [(2, 66)] (gL 67) h (fun o G' h' => o = .inl none ∧ G' = gL 68 ∧ h' = (z_wr (z_wr h 66 0 67) 66 1 0)) := by
  refine z_enter mo_X9_init (L := [(0, 2, 66)]) rfl (nle rfl) ?_
  refine z_aload_n (q := 1) 0 dX9_init_0 rfl rfl ?_
  refine z_objInit (q := 4) (by decide) k211 k127 k128 (by omega) (nle rfl) dX9_init_1 rfl ?_
  refine z_aload_n (q := 5) 0 dX9_init_4 rfl rfl ?_
  refine z_bipush (q := 7) dX9_init_5 rfl (by decide) ?_
  refine n_newa (q := 9) (k := 67) 50 (by decide) (by decide) rfl k222 (by decide) (by decide) rfl f0 dX9_init_7 rfl ?_
  have f1 := f0.up (k' := 68) (by decide)
  refine z_pF (q := 12) (ki := 0) fX9_9 rfl hc7 rfl (z_sv2 rfl) (gI (by decide)) dX9_init_9 rfl ?_
  have f2 := f1.w 66 0 67 (by decide)
  refine z_aload_n (q := 13) 0 dX9_init_12 rfl rfl ?_
  refine z_iconst (q := 14) dX9_init_13 rfl ?_
  refine z_pf (q := 17) (ki := 1) fX9_13 rfl (z_sv0 rfl) (gI (by decide)) dX9_init_14 rfl ?_
  have f3 := f2.w 66 1 0 (by decide)
  exact z_vret rfl dX9_init_17 ⟨rfl, rfl, rfl⟩
theorem i_X4_68 {D : zD} {d : Nat} {h : zH} (hd : 1 ≤ d) (f0 : frI 69 h) : z_C D M_X4_init d [(2, 68)] (gL 69) h (fun o G' h' => o = .inl none ∧ G' = gL 70 ∧ h' = (z_wr (z_wr (z_wr h 68 0 69) 68 1 1) 68 2 1)) := by
  refine z_enter mo_X4_init (L := [(0, 2, 68)]) rfl (nle rfl) ?_
  refine z_aload_n (q := 1) 0 dX4_init_0 rfl rfl ?_
  refine z_objInit (q := 4) (by decide) k144 k127 k128 (by omega) (nle rfl) dX4_init_1 rfl ?_
  refine z_aload_n (q := 5) 0 dX4_init_4 rfl rfl ?_
  refine z_bipush (q := 7) dX4_init_5 rfl (by decide) ?_
  refine n_newa (q := 9) (k := 69) 51 (by decide) (by decide) rfl k168 (by decide) (by decide) rfl f0 dX4_init_7 rfl ?_
  have f1 := f0.up (k' := 70) (by decide)
  refine z_pF (q := 12) (ki := 0) fX4_9 rfl hc3 rfl (z_sv2 rfl) (gI (by decide)) dX4_init_9 rfl ?_
  have f2 := f1.w 68 0 69 (by decide)
  refine z_aload_n (q := 13) 0 dX4_init_12 rfl rfl ?_
  refine z_iconst (q := 14) dX4_init_13 rfl ?_
  refine z_pf (q := 17) (ki := 1) fX4_13 rfl (z_sv0 rfl) (gI (by decide)) dX4_init_14 rfl ?_
  have f3 := f2.w 68 1 1 (by decide)
  refine z_aload_n (q := 18) 0 dX4_init_17 rfl rfl ?_
  refine z_iconst (q := 19) dX4_init_18 rfl ?_
  refine z_pf (q := 22) (ki := 2) fX4_17 rfl (z_sv0 rfl) (gI (by decide)) dX4_init_19 rfl ?_
  have f4 := f3.w 68 2 1 (by decide)
  exact z_vret rfl dX4_init_22 ⟨rfl, rfl, rfl⟩
theorem i_X9_70 {D : zD} {d : Nat} {h : zH} (hd : 1 ≤ d) (f0 : frI 71 h) : z_C D M_X9_init d [(2, 70)] (gL 71) h (fun o G' h' => o = .inl none ∧ G' = gL 72 ∧ h' = (z_wr (z_wr h 70 0 71) 70 1 0)) := by
  refine z_enter mo_X9_init (L := [(0, 2, 70)]) rfl (nle rfl) ?_
  refine z_aload_n (q := 1) 0 dX9_init_0 rfl rfl ?_
  refine z_objInit (q := 4) (by decide) k211 k127 k128 (by omega) (nle rfl) dX9_init_1 rfl ?_
  refine z_aload_n (q := 5) 0 dX9_init_4 rfl rfl ?_
  refine z_bipush (q := 7) dX9_init_5 rfl (by decide) ?_
  refine n_newa (q := 9) (k := 71) 50 (by decide) (by decide) rfl k222 (by decide) (by decide) rfl f0 dX9_init_7 rfl ?_
  have f1 := f0.up (k' := 72) (by decide)
  refine z_pF (q := 12) (ki := 0) fX9_9 rfl hc7 rfl (z_sv2 rfl) (gI (by decide)) dX9_init_9 rfl ?_
  have f2 := f1.w 70 0 71 (by decide)
  refine z_aload_n (q := 13) 0 dX9_init_12 rfl rfl ?_
  refine z_iconst (q := 14) dX9_init_13 rfl ?_
  refine z_pf (q := 17) (ki := 1) fX9_13 rfl (z_sv0 rfl) (gI (by decide)) dX9_init_14 rfl ?_
  have f3 := f2.w 70 1 0 (by decide)
  exact z_vret rfl dX9_init_17 ⟨rfl, rfl, rfl⟩
theorem i_X4_72 {D : zD} {d : Nat} {h : zH} (hd : 1 ≤ d) (f0 : frI 73 h) : z_C D M_X4_init d [(2, 72)] (gL 73) h (fun o G' h' => o = .inl none ∧ G' = gL 74 ∧ h' = (z_wr (z_wr (z_wr h 72 0 73) 72 1 1) 72 2 1)) := by
  refine z_enter mo_X4_init (L := [(0, 2, 72)]) rfl (nle rfl) ?_
  refine z_aload_n (q := 1) 0 dX4_init_0 rfl rfl ?_
  refine z_objInit (q := 4) (by decide) k144 k127 k128 (by omega) (nle rfl) dX4_init_1 rfl ?_
  refine z_aload_n (q := 5) 0 dX4_init_4 rfl rfl ?_
  refine z_bipush (q := 7) dX4_init_5 rfl (by decide) ?_
  refine n_newa (q := 9) (k := 73) 51 (by decide) (by decide) rfl k168 (by decide) (by decide) rfl f0 dX4_init_7 rfl ?_
  have f1 := f0.up (k' := 74) (by decide)
  refine z_pF (q := 12) (ki := 0) fX4_9 rfl hc3 rfl (z_sv2 rfl) (gI (by decide)) dX4_init_9 rfl ?_
  have f2 := f1.w 72 0 73 (by decide)
  refine z_aload_n (q := 13) 0 dX4_init_12 rfl rfl ?_
  refine z_iconst (q := 14) dX4_init_13 rfl ?_
  refine z_pf (q := 17) (ki := 1) fX4_13 rfl (z_sv0 rfl) (gI (by decide)) dX4_init_14 rfl ?_
  have f3 := f2.w 72 1 1 (by decide)
  refine z_aload_n (q := 18) 0 dX4_init_17 rfl rfl ?_
  refine z_iconst (q := 19) dX4_init_18 rfl ?_
  refine z_pf (q := 22) (ki := 2) fX4_17 rfl (z_sv0 rfl) (gI (by decide)) dX4_init_19 rfl ?_
  have f4 := f3.w 72 2 1 (by decide)
  exact z_vret rfl dX4_init_22 ⟨rfl, rfl, rfl⟩
theorem i_X9_74 {D : zD} {d : Nat} {h : zH} (hd : 1 ≤ d) (f0 : frI 75 h) : z_C D M_X9_init d [(2, 74)] (gL 75) h (fun o G' h' => o = .inl none ∧ G' = gL 76 ∧ h' = (z_wr (z_wr h 74 0 75) 74 1 0)) := by
  refine z_enter mo_X9_init (L := [(0, 2, 74)]) rfl (nle rfl) ?_
  refine z_aload_n (q := 1) 0 dX9_init_0 rfl rfl ?_
  refine z_objInit (q := 4) (by decide) k211 k127 k128 (by omega) (nle rfl) dX9_init_1 rfl ?_
  refine z_aload_n (q := 5) 0 dX9_init_4 rfl rfl ?_
  refine z_bipush (q := 7) dX9_init_5 rfl (by decide) ?_
  refine n_newa (q := 9) (k := 75) 50 (by decide) (by decide) rfl k222 (by decide) (by decide) rfl f0 dX9_init_7 rfl ?_
  have f1 := f0.up (k' := 76) (by decide)
  refine z_pF (q := 12) (ki := 0) fX9_9 rfl hc7 rfl (z_sv2 rfl) (gI (by decide)) dX9_init_9 rfl ?_
  have f2 := f1.w 74 0 75 (by decide)
  refine z_aload_n (q := 13) 0 dX9_init_12 rfl rfl ?_
  refine z_iconst (q := 14) dX9_init_13 rfl ?_
  refine z_pf (q := 17) (ki := 1) fX9_13 rfl (z_sv0 rfl) (gI (by decide)) dX9_init_14 rfl ?_
  have f3 := f2.w 74 1 0 (by decide)
  exact z_vret rfl dX9_init_17 ⟨rfl, rfl, rfl⟩
theorem i_X4_76 {D : zD} {d : Nat} {h : zH} (hd : 1 ≤ d) (f0 : frI 77 h) : z_C D M_X4_init d [(2, 76)] (gL 77) h (fun o G' h' => o = .inl none ∧ G' = gL 78 ∧ h' = (z_wr (z_wr (z_wr h 76 0 77) 76 1 1) 76 2 1)) := by
  refine z_enter mo_X4_init (L := [(0, 2, 76)]) rfl (nle rfl) ?_
  refine z_aload_n (q := 1) 0 dX4_init_0 rfl rfl ?_
  refine z_objInit (q := 4) (by decide) k144 k127 k128 (by omega) (nle rfl) dX4_init_1 rfl ?_
  refine z_aload_n (q := 5) 0 dX4_init_4 rfl rfl ?_
  refine z_bipush (q := 7) dX4_init_5 rfl (by decide) ?_
  refine n_newa (q := 9) (k := 77) 51 (by decide) (by decide) rfl k168 (by decide) (by decide) rfl f0 dX4_init_7 rfl ?_
  have f1 := f0.up (k' := 78) (by decide)
  refine z_pF (q := 12) (ki := 0) fX4_9 rfl hc3 rfl (z_sv2 rfl) (gI (by decide)) dX4_init_9 rfl ?_
  have f2 := f1.w 76 0 77 (by decide)
  refine z_aload_n (q := 13) 0 dX4_init_12 rfl rfl ?_
  refine z_iconst (q := 14) dX4_init_13 rfl ?_
  refine z_pf (q := 17) (ki := 1) fX4_13 rfl (z_sv0 rfl) (gI (by decide)) dX4_init_14 rfl ?_
  have f3 := f2.w 76 1 1 (by decide)
  refine z_aload_n (q := 18) 0 dX4_init_17 rfl rfl ?_
  refine z_iconst (q := 19) dX4_init_18 rfl ?_
  refine z_pf (q := 22) (ki := 2) fX4_17 rfl (z_sv0 rfl) (gI (by decide)) dX4_init_19 rfl ?_
  have f4 := f3.w 76 2 1 (by decide)
  exact z_vret rfl dX4_init_22 ⟨rfl, rfl, rfl⟩
theorem i_X9_78 {D : zD} {d : Nat} {h : zH} (hd : 1 ≤ d) (f0 : frI 79 h) : z_C D M_X9_init d [(2, 78)] (gL 79) h (fun o G' h' => o = .inl none ∧ G' = gL 80 ∧ h' = (z_wr (z_wr h 78 0 79) 78 1 0)) := by
  refine z_enter mo_X9_init (L := [(0, 2, 78)]) rfl (nle rfl) ?_
  refine z_aload_n (q := 1) 0 dX9_init_0 rfl rfl ?_
  refine z_objInit (q := 4) (by decide) k211 k127 k128 (by omega) (nle rfl) dX9_init_1 rfl ?_
  refine z_aload_n (q := 5) 0 dX9_init_4 rfl rfl ?_
  refine z_bipush (q := 7) dX9_init_5 rfl (by decide) ?_
  refine n_newa (q := 9) (k := 79) 50 (by decide) (by decide) rfl k222 (by decide) (by decide) rfl f0 dX9_init_7 rfl ?_
  have f1 := f0.up (k' := 80) (by decide)
  refine z_pF (q := 12) (ki := 0) fX9_9 rfl hc7 rfl (z_sv2 rfl) (gI (by decide)) dX9_init_9 rfl ?_
  have f2 := f1.w 78 0 79 (by decide)
  refine z_aload_n (q := 13) 0 dX9_init_12 rfl rfl ?_
  refine z_iconst (q := 14) dX9_init_13 rfl ?_
  refine z_pf (q := 17) (ki := 1) fX9_13 rfl (z_sv0 rfl) (gI (by decide)) dX9_init_14 rfl ?_
  have f3 := f2.w 78 1 0 (by decide)
  exact z_vret rfl dX9_init_17 ⟨rfl, rfl, rfl⟩
theorem i_X4_80 {D : zD} {d : Nat} {h : zH} (hd : 1 ≤ d) (f0 : frI 81 h) : z_C D M_X4_init d [(2, 80)] (gL 81) h (fun o G' h' => o = .inl none ∧ G' = gL 82 ∧ h' = (z_wr (z_wr (z_wr h 80 0 81) 80 1 1) 80 2 1)) := by
  refine z_enter mo_X4_init (L := [(0, 2, 80)]) rfl (nle rfl) ?_
  refine z_aload_n (q := 1) 0 dX4_init_0 rfl rfl ?_
  refine z_objInit (q := 4) (by decide) k144 k127 k128 (by omega) (nle rfl) dX4_init_1 rfl ?_
  refine z_aload_n (q := 5) 0 dX4_init_4 rfl rfl ?_
  refine z_bipush (q := 7) dX4_init_5 rfl (by decide) ?_
  refine n_newa (q := 9) (k := 81) 51 (by decide) (by decide) rfl k168 (by decide) (by decide) rfl f0 dX4_init_7 rfl ?_
  have f1 := f0.up (k' := 82) (by decide)
  refine z_pF (q := 12) (ki := 0) fX4_9 rfl hc3 rfl (z_sv2 rfl) (gI (by decide)) dX4_init_9 rfl ?_
  have f2 := f1.w 80 0 81 (by decide)
  refine z_aload_n (q := 13) 0 dX4_init_12 rfl rfl ?_
  refine z_iconst (q := 14) dX4_init_13 rfl ?_
  refine z_pf (q := 17) (ki := 1) fX4_13 rfl (z_sv0 rfl) (gI (by decide)) dX4_init_14 rfl ?_
  have f3 := f2.w 80 1 1 (by decide)
  refine z_aload_n (q := 18) 0 dX4_init_17 rfl rfl ?_
  refine z_iconst (q := 19) dX4_init_18 rfl ?_
  refine z_pf (q := 22) (ki := 2) fX4_17 rfl (z_sv0 rfl) (gI (by decide)) dX4_init_19 rfl ?_
  have f4 := f3.w 80 2 1 (by decide)
  exact z_vret rfl dX4_init_22 ⟨rfl, rfl, rfl⟩
theorem i_X9_82 {D : zD} {d : Nat} {h : zH} (hd : 1 ≤ d) (f0 : frI 83 h) : z_C D M_X9_init d [(2, 82)] (gL 83) h (fun o G' h' => o = .inl none ∧ G' = gL 84 ∧ h' = (z_wr (z_wr h 82 0 83) 82 1 0)) := by
  refine z_enter mo_X9_init (L := [(0, 2, 82)]) rfl (nle rfl) ?_
  refine z_aload_n (q := 1) 0 dX9_init_0 rfl rfl ?_
  refine z_objInit (q := 4) (by decide) k211 k127 k128 (by omega) (nle rfl) dX9_init_1 rfl ?_
  refine z_aload_n (q := 5) 0 dX9_init_4 rfl rfl ?_
  refine z_bipush (q := 7) dX9_init_5 rfl (by decide) ?_
  refine n_newa (q := 9) (k := 83) 50 (by decide) (by decide) rfl k222 (by decide) (by decide) rfl f0 dX9_init_7 rfl ?_
  have f1 := f0.up (k' := 84) (by decide)
  refine z_pF (q := 12) (ki := 0) fX9_9 rfl hc7 rfl (z_sv2 rfl) (gI (by decide)) dX9_init_9 rfl ?_
  have f2 := f1.w 82 0 83 (by decide)
  refine z_aload_n (q := 13) 0 dX9_init_12 rfl rfl ?_
  refine z_iconst (q := 14) dX9_init_13 rfl ?_
  refine z_pf (q := 17) (ki := 1) fX9_13 rfl (z_sv0 rfl) (gI (by decide)) dX9_init_14 rfl ?_
  have f3 := f2.w 82 1 0 (by decide)
  exact z_vret rfl dX9_init_17 ⟨rfl, rfl, rfl⟩
theorem i_X4_84 {D : zD} {d : Nat} {h : zH} (hd : 1 ≤ d) (f0 : frI 85 h) : z_C D M_X4_init d [(2, 84)] (gL 85) h (fun o G' h' => o = .inl none ∧ G' = gL 86 ∧ h' = (z_wr (z_wr (z_wr h 84 0 85) 84 1 1) 84 2 1)) := by
  refine z_enter mo_X4_init (L := [(0, 2, 84)]) rfl (nle rfl) ?_
  refine z_aload_n (q := 1) 0 dX4_init_0 rfl rfl ?_
  refine z_objInit (q := 4) (by decide) k144 k127 k128 (by omega) (nle rfl) dX4_init_1 rfl ?_
  refine z_aload_n (q := 5) 0 dX4_init_4 rfl rfl ?_
  refine z_bipush (q := 7) dX4_init_5 rfl (by decide) ?_
  refine n_newa (q := 9) (k := 85) 51 (by decide) (by decide) rfl k168 (by decide) (by decide) rfl f0 dX4_init_7 rfl ?_
  have f1 := f0.up (k' := 86) (by decide)
  refine z_pF (q := 12) (ki := 0) fX4_9 rfl hc3 rfl (z_sv2 rfl) (gI (by decide)) dX4_init_9 rfl ?_
  have f2 := f1.w 84 0 85 (by decide)
  refine z_aload_n (q := 13) 0 dX4_init_12 rfl rfl ?_
  refine z_iconst (q := 14) dX4_init_13 rfl ?_
  refine z_pf (q := 17) (ki := 1) fX4_13 rfl (z_sv0 rfl) (gI (by decide)) dX4_init_14 rfl ?_
  have f3 := f2.w 84 1 1 (by decide)
  refine z_aload_n (q := 18) 0 dX4_init_17 rfl rfl ?_
  refine z_iconst (q := 19) dX4_init_18 rfl ?_
  refine z_pf (q := 22) (ki := 2) fX4_17 rfl (z_sv0 rfl) (gI (by decide)) dX4_init_19 rfl ?_
  have f4 := f3.w 84 2 1 (by decide)
  exact z_vret rfl dX4_init_22 ⟨rfl, rfl, rfl⟩
theorem i_X9_86 {D : zD} {d : Nat} {h : zH} (hd : 1 ≤ d) (f0 : frI 87 h) : z_C D M_X9_init d [(2, 86)] (gL 87) h (fun o G' h' => o = .inl none ∧ G' = gL 88 ∧ h' = (z_wr (z_wr h 86 0 87) 86 1 0)) := by
  refine z_enter mo_X9_init (L := [(0, 2, 86)]) rfl (nle rfl) ?_
  refine z_aload_n (q := 1) 0 dX9_init_0 rfl rfl ?_
  refine z_objInit (q := 4) (by decide) k211 k127 k128 (by omega) (nle rfl) dX9_init_1 rfl ?_
  refine z_aload_n (q := 5) 0 dX9_init_4 rfl rfl ?_
  refine z_bipush (q := 7) dX9_init_5 rfl (by decide) ?_
  refine n_newa (q := 9) (k := 87) 50 (by decide) (by decide) rfl k222 (by decide) (by decide) rfl f0 dX9_init_7 rfl ?_
  have f1 := f0.up (k' := 88) (by decide)
  refine z_pF (q := 12) (ki := 0) fX9_9 rfl hc7 rfl (z_sv2 rfl) (gI (by decide)) dX9_init_9 rfl ?_
  have f2 := f1.w 86 0 87 (by decide)
  refine z_aload_n (q := 13) 0 dX9_init_12 rfl rfl ?_
  refine z_iconst (q := 14) dX9_init_13 rfl ?_
  refine z_pf (q := 17) (ki := 1) fX9_13 rfl (z_sv0 rfl) (gI (by decide)) dX9_init_14 rfl ?_
  have f3 := f2.w 86 1 0 (by decide)
  exact z_vret rfl dX9_init_17 ⟨rfl, rfl, rfl⟩
theorem i_X11_0 {D : zD} {d : Nat} {h : zH} (hd : 3 ≤ d) (f0 : frI 1 h) : z_C D M_X11_init d [(2, 0)] (gL 1) h (fun o G' h' => o = .inl none ∧ G' = gL 88 ∧ h' = (z_wr (z_wr (z_wr (z_wr (z_wr (z_wr (z_wr (z_wr (z_wr (z_wr (z_wr (z_wr (z_wr (z_wr (z_wr (z_wr (z_wr (z_wr (z_wr (z_wr (z_wr (z_wr (z_wr (z_wr (z_wr (z_wr (z_wr (z_wr (z_wr (z_wr (z_wr (z_wr (z_wr (z_wr (z_wr (z_wr (z_wr (z_wr (z_wr (z_wr (z_wr (z_wr (z_wr (z_wr (z_wr (z_wr (z_wr (z_wr (z_wr (z_wr (z_wr (z_wr (z_wr (z_wr (z_wr (z_wr (z_wr (z_wr (z_wr (z_wr (z_wr (z_wr (z_wr (z_wr (z_wr (z_wr (z_wr (z_wr (z_wr (z_wr (z_wr (z_wr (z_wr (z_wr (z_wr (z_wr (z_wr (z_wr (z_wr (z_wr (z_wr (z_wr (z_wr (z_wr (z_wr (z_wr (z_wr (z_wr (z_wr (z_wr (z_wr (z_wr (z_wr (z_wr (z_wr (z_wr (z_wr (z_wr (z_wr (z_wr (z_wr (z_wr (z_wr (z_wr (z_wr (z_wr (z_wr (z_wr (z_wr (z_wr (z_wr (z_wr (z_wr (z_wr (z_wr (z_wr (z_wr (z_wr (z_wr (z_wr (z_wr (z_wr (z_wr (z_wr (z_wr (z_wr (z_wr (z_wr (z_wr (z_wr (z_wr (z_wr (z_wr (z_wr (z_wr (z_wr (z_wr (z_wr (z_wr (z_wr (z_wr (z_wr (z_wr (z_wr (z_wr (z_wr (z_wr (z_wr (z_wr (z_wr (z_wr (z_wr (z_wr (z_wr (z_wr (z_wr h 0 0 1) 0 1 2) 0 2 3) 0 3 0) 0 4 0) 0 5 (-1)) 5 0 6) 5 1 1) 5 2 1) 4 0 5) 4 1 0) 4 2 (-1)) 0 6 4) 8 0 9) 8 1 0) 7 0 8) 7 1 0) 7 2 (-1)) 7 9 10) 7 10 11) 0 7 7) 12 0 13) 12 1 14) 12 2 15) 12 3 16) 12 4 17) 12 5 18) 0 8 12) 20 0 21) 20 1 1) 20 2 1) 19 1 20) 22 0 23) 22 1 1) 22 2 1) 19 2 22) 19 0 12) 0 9 19) 25 0 26) 25 1 1) 25 2 1) 24 1 25) 27 0 28) 27 1 1) 27 2 1) 24 2 27) 24 0 12) 0 10 24) 29 0 30) 29 1 1) 29 2 1) 0 11 29) 31 0 32) 31 1 0) 0 12 31) 34 0 35) 34 1 1) 34 2 1) 33 1 34) 36 0 37) 36 1 1) 36 2 1) 33 2 36) 38 0 39) 38 1 1) 38 2 1) 33 3 38) 40 0 41) 40 1 1) 40 2 1) 33 4 40) 42 0 43) 42 1 1) 42 2 1) 33 5 42) 44 0 45) 44 1 1) 44 2 1) 33 6 44) 46 0 47) 46 1 1) 46 2 1) 33 7 46) 33 8 0) 33 9 48) 33 10 49) 33 11 50) 33 12 0) 51 0 0) 51 1 0) 51 2 52) 51 3 53) 51 4 54) 51 5 55) 33 13 51) 33 14 0) 33 15 0) 33 16 0) 33 0 12) 0 13 33) 56 0 57) 56 1 1) 56 2 1) 1 0 56) 58 0 59) 58 1 0) 2 0 58) 60 0 61) 60 1 1) 60 2 1) 1 1 60) 62 0 63) 62 1 0) 2 1 62) 64 0 65) 64 1 1) 64 2 1) 1 2 64) 66 0 67) 66 1 0) 2 2 66) 68 0 69) 68 1 1) 68 2 1) 1 3 68) 70 0 71) 70 1 0) 2 3 70) 72 0 73) 72 1 1) 72 2 1) 1 4 72) 74 0 75) 74 1 0) 2 4 74) 76 0 77) 76 1 1) 76 2 1) 1 5 76) 78 0 79) 78 1 0) 2 5 78) 80 0 81) 80 1 1) 80 2 1) 1 6 80) 82 0 83) 82 1 0) 2 6 82) 84 0 85) 84 1 1) 84 2 1) 1 7 84) 86 0 87) 86 1 0) 2 7 86)) := by
  refine z_enter mo_X11_init (L := [(0, 2, 0)]) rfl (nle rfl) ?_
  refine z_aload_n (q := 1) 0 dX11_init_0 rfl rfl ?_
  refine z_objInit (q := 4) (by decide) k126 k127 k128 (by omega) (nle rfl) dX11_init_1 rfl ?_
  refine z_aload_n (q := 5) 0 dX11_init_4 rfl rfl ?_
  refine z_bipush (q := 7) dX11_init_5 rfl (by decide) ?_
  refine n_anew (q := 10) (k := 1) 54 (by decide) (by decide) rfl k129 k130 (by decide) (by decide) rfl f0 dX11_init_7 rfl ?_
  have f1 := f0.up (k' := 2) (by decide)
  refine z_pF (q := 13) (ki := 0) fX11_11 rfl hc9 rfl (z_sv2 rfl) (gI (by decide)) dX11_init_10 rfl ?_
  have f2 := f1.w 0 0 1 (by decide)
  refine z_aload_n (q := 14) 0 dX11_init_13 rfl rfl ?_
  refine z_bipush (q := 16) dX11_init_14 rfl (by decide) ?_
  refine n_anew (q := 19) (k := 2) 55 (by decide) (by decide) rfl k131 k132 (by decide) (by decide) rfl f2 dX11_init_16 rfl ?_
  have f3 := f2.up (k' := 3) (by decide)
  refine z_pF (q := 22) (ki := 1) fX11_17 rfl hc9 rfl (z_sv2 rfl) (gI (by decide)) dX11_init_19 rfl ?_
  have f4 := f3.w 0 1 2 (by decide)
  refine z_aload_n (q := 23) 0 dX11_init_22 rfl rfl ?_
  refine z_sipush (q := 26) dX11_init_23 rfl (by decide) ?_
  refine n_newa (q := 28) (k := 3) 52 (by decide) (by decide) rfl k167 (by decide) (by decide) rfl f4 dX11_init_26 rfl ?_
  have f5 := f4.up (k' := 4) (by decide)
  refine z_pF (q := 31) (ki := 2) fX11_21 rfl hc9 rfl (z_sv2 rfl) (gI (by decide)) dX11_init_28 rfl ?_
  have f6 := f5.w 0 2 3 (by decide)
  refine z_aload_n (q := 32) 0 dX11_init_31 rfl rfl ?_
  refine z_iconst (q := 33) dX11_init_32 rfl ?_
  refine z_pf (q := 36) (ki := 3) fX11_25 rfl (z_sv0 rfl) (gI (by decide)) dX11_init_33 rfl ?_
  have f7 := f6.w 0 3 0 (by decide)
  refine z_aload_n (q := 37) 0 dX11_init_36 rfl rfl ?_
  refine z_iconst (q := 38) dX11_init_37 rfl ?_
  refine z_pf (q := 41) (ki := 4) fX11_29 rfl (z_sv0 rfl) (gI (by decide)) dX11_init_38 rfl ?_
  have f8 := f7.w 0 4 0 (by decide)
  refine z_aload_n (q := 42) 0 dX11_init_41 rfl rfl ?_
  refine z_iconst (q := 43) dX11_init_42 rfl ?_
  refine z_pf (q := 46) (ki := 5) fX11_32 rfl (z_sv0 rfl) (gI (by decide)) dX11_init_43 rfl ?_
  have f9 := f8.w 0 5 (-1) (by decide)
  refine z_aload_n (q := 47) 0 dX11_init_46 rfl rfl ?_
  refine n_new (q := 50) (k := 4) cb4 k133 k134 k98 rfl f9 dX11_init_47 rfl ?_
  have f10 := f9.up (k' := 5) (by decide)
  refine z_dup (q := 51) (by decide) dX11_init_50 rfl ?_
  refine n_invN (q := 54) (d2 := d - 1) (rest := [(2, 4), (2, 0)]) (av := []) (by decide) (i_X5_4 (by omega) f10) mo_X5_init np_X5_init rfl k137 k135 k136 (by omega) rfl (nle rfl) dX11_init_51 rfl ?_
  have f11 := ((((((f10.up (k' := 7) (by decide)).w 5 0 6 (by decide)).w 5 1 1 (by decide)).w 5 2 1 (by decide)).w 4 0 5 (by decide)).w 4 1 0 (by decide)).w 4 2 (-1) (by decide)
  refine z_pF (q := 57) (ki := 6) fX11_38 rfl hc9 rfl (z_sv2 rfl) (gI (by decide)) dX11_init_54 rfl ?_
  have f12 := f11.w 0 6 4 (by decide)
  refine z_aload_n (q := 58) 0 dX11_init_57 rfl rfl ?_
  refine n_new (q := 61) (k := 7) cb8 k200 k201 k100 rfl f12 dX11_init_58 rfl ?_
  have f13 := f12.up (k' := 8) (by decide)
  refine z_dup (q := 62) (by decide) dX11_init_61 rfl ?_
  refine n_invN (q := 65) (d2 := d - 1) (rest := [(2, 7), (2, 0)]) (av := []) (by decide) (i_X10_7 (by omega) f13) mo_X10_init np_X10_init rfl k204 k202 k203 (by omega) rfl (nle rfl) dX11_init_62 rfl ?_
  have f14 := (((((((f13.up (k' := 12) (by decide)).w 8 0 9 (by decide)).w 8 1 0 (by decide)).w 7 0 8 (by decide)).w 7 1 0 (by decide)).w 7 2 (-1) (by decide)).w 7 9 10 (by decide)).w 7 10 11 (by decide)
  refine z_pF (q := 68) (ki := 7) fX11_45 rfl hc9 rfl (z_sv2 rfl) (gI (by decide)) dX11_init_65 rfl ?_
  have f15 := f14.w 0 7 7 (by decide)
  refine z_aload_n (q := 69) 0 dX11_init_68 rfl rfl ?_
  refine n_new (q := 72) (k := 12) cb2 k260 k261 k102 rfl f15 dX11_init_69 rfl ?_
  have f16 := f15.up (k' := 13) (by decide)
  refine z_dup (q := 73) (by decide) dX11_init_72 rfl ?_
  refine n_invN (q := 76) (d2 := d - 1) (rest := [(2, 12), (2, 0)]) (av := []) (by decide) (i_X3_12 (by omega) f16) mo_X3_init np_X3_init rfl k264 k262 k263 (by omega) rfl (nle rfl) dX11_init_73 rfl ?_
  have f17 := ((((((f16.up (k' := 19) (by decide)).w 12 0 13 (by decide)).w 12 1 14 (by decide)).w 12 2 15 (by decide)).w 12 3 16 (by decide)).w 12 4 17 (by decide)).w 12 5 18 (by decide)
  refine z_pF (q := 79) (ki := 8) fX11_52 rfl hc9 rfl (z_sv2 rfl) (gI (by decide)) dX11_init_76 rfl ?_
  have f18 := f17.w 0 8 12 (by decide)
  refine z_aload_n (q := 80) 0 dX11_init_79 rfl rfl ?_
  refine n_new (q := 83) (k := 19) cb6 k285 k286 k103 rfl f18 dX11_init_80 rfl ?_
  have f19 := f18.up (k' := 20) (by decide)
  refine z_dup (q := 84) (by decide) dX11_init_83 rfl ?_
  refine z_aload_n (q := 85) 0 dX11_init_84 rfl rfl ?_
  refine z_gf (q := 88) (ki := 8) (v := (2, 12)) fX11_52 rfl (z_ldr rfl (by rw [w_s] <;> rfl)) (gI (by decide)) dX11_init_85 rfl ?_
  refine n_inv (q := 91) (d2 := d - 1) (rest := [(2, 19), (2, 0)]) (av := [(2, 12)]) (by decide) (i_X8_19 (by omega) f19) mo_X8_init np_X8_init rfl rfl rfl k289 k287 k288 (by omega) rfl (nle rfl) dX11_init_88 rfl ?_
  have f20 := (((((((((f19.up (k' := 24) (by decide)).w 20 0 21 (by decide)).w 20 1 1 (by decide)).w 20 2 1 (by decide)).w 19 1 20 (by decide)).w 22 0 23 (by decide)).w 22 1 1 (by decide)).w 22 2 1 (by decide)).w 19 2 22 (by decide)).w 19 0 12 (by decide)
  refine z_pF (q := 94) (ki := 9) fX11_61 rfl hc9 rfl (z_sv2 rfl) (gI (by decide)) dX11_init_91 rfl ?_
  have f21 := f20.w 0 9 19 (by decide)
  refine z_aload_n (q := 95) 0 dX11_init_94 rfl rfl ?_
  refine n_new (q := 98) (k := 24) cb6 k285 k286 k103 rfl f21 dX11_init_95 rfl ?_
  have f22 := f21.up (k' := 25) (by decide)
  refine z_dup (q := 99) (by decide) dX11_init_98 rfl ?_
  refine z_aload_n (q := 100) 0 dX11_init_99 rfl rfl ?_
  refine z_gf (q := 103) (ki := 8) (v := (2, 12)) fX11_52 rfl (z_ldr rfl (by rw [w_nj (by decide), w_na (by decide), w_na (by decide), w_na (by decide), w_na (by decide), w_na (by decide), w_na (by decide), w_na (by decide), w_na (by decide), w_na (by decide), w_s] <;> rfl)) (gI (by decide)) dX11_init_100 rfl ?_
  refine n_inv (q := 106) (d2 := d - 1) (rest := [(2, 24), (2, 0)]) (av := [(2, 12)]) (by decide) (i_X8_24 (by omega) f22) mo_X8_init np_X8_init rfl rfl rfl k289 k287 k288 (by omega) rfl (nle rfl) dX11_init_103 rfl ?_
  have f23 := (((((((((f22.up (k' := 29) (by decide)).w 25 0 26 (by decide)).w 25 1 1 (by decide)).w 25 2 1 (by decide)).w 24 1 25 (by decide)).w 27 0 28 (by decide)).w 27 1 1 (by decide)).w 27 2 1 (by decide)).w 24 2 27 (by decide)).w 24 0 12 (by decide)
  refine z_pF (q := 109) (ki := 10) fX11_65 rfl hc9 rfl (z_sv2 rfl) (gI (by decide)) dX11_init_106 rfl ?_
  have f24 := f23.w 0 10 24 (by decide)
  refine z_aload_n (q := 110) 0 dX11_init_109 rfl rfl ?_
  refine n_new (q := 113) (k := 29) cb3 k129 k140 k99 rfl f24 dX11_init_110 rfl ?_
  have f25 := f24.up (k' := 30) (by decide)
  refine z_dup (q := 114) (by decide) dX11_init_113 rfl ?_
  refine n_invN (q := 117) (d2 := d - 1) (rest := [(2, 29), (2, 0)]) (av := []) (by decide) (i_X4_29 (by omega) f25) mo_X4_init np_X4_init rfl k143 k304 k142 (by omega) rfl (nle rfl) dX11_init_114 rfl ?_
  have f26 := (((f25.up (k' := 31) (by decide)).w 29 0 30 (by decide)).w 29 1 1 (by decide)).w 29 2 1 (by decide)
  refine z_pF (q := 120) (ki := 11) fX11_69 rfl hc9 rfl (z_sv2 rfl) (gI (by decide)) dX11_init_117 rfl ?_
  have f27 := f26.w 0 11 29 (by decide)
  refine z_aload_n (q := 121) 0 dX11_init_120 rfl rfl ?_
  refine n_new (q := 124) (k := 31) cb7 k131 k207 k101 rfl f27 dX11_init_121 rfl ?_
  have f28 := f27.up (k' := 32) (by decide)
  refine z_dup (q := 125) (by decide) dX11_init_124 rfl ?_
  refine n_invN (q := 128) (d2 := d - 1) (rest := [(2, 31), (2, 0)]) (av := []) (by decide) (i_X9_31 (by omega) f28) mo_X9_init np_X9_init rfl k210 k305 k209 (by omega) rfl (nle rfl) dX11_init_125 rfl ?_
  have f29 := ((f28.up (k' := 33) (by decide)).w 31 0 32 (by decide)).w 31 1 0 (by decide)
  refine z_pF (q := 131) (ki := 12) fX11_74 rfl hc9 rfl (z_sv2 rfl) (gI (by decide)) dX11_init_128 rfl ?_
  have f30 := f29.w 0 12 31 (by decide)
  refine z_aload_n (q := 132) 0 dX11_init_131 rfl rfl ?_
  refine n_new (q := 135) (k := 33) cb0 k306 k307 k104 rfl f30 dX11_init_132 rfl ?_
  have f31 := f30.up (k' := 34) (by decide)
  refine z_dup (q := 136) (by decide) dX11_init_135 rfl ?_
  refine z_aload_n (q := 137) 0 dX11_init_136 rfl rfl ?_
  refine z_gf (q := 140) (ki := 8) (v := (2, 12)) fX11_52 rfl (z_ldr rfl (by rw [w_nj (by decide), w_na (by decide), w_na (by decide), w_nj (by decide), w_na (by decide), w_na (by decide), w_na (by decide), w_nj (by decide), w_na (by decide), w_na (by decide), w_na (by decide), w_na (by decide), w_na (by decide), w_na (by decide), w_na (by decide), w_na (by decide), w_na (by decide), w_nj (by decide), w_na (by decide), w_na (by decide), w_na (by decide), w_na (by decide), w_na (by decide), w_na (by decide), w_na (by decide), w_na (by decide), w_na (by decide), w_s] <;> rfl)) (gI (by decide)) dX11_init_137 rfl ?_
  refine n_inv (q := 143) (d2 := d - 1) (rest := [(2, 33), (2, 0)]) (av := [(2, 12)]) (by decide) (i_X1_33 (by omega) f31) mo_X1_init np_X1_init rfl rfl rfl k310 k308 k309 (by omega) rfl (nle rfl) dX11_init_140 rfl ?_
  have f32 := ((((((((((((((((((((((((((((((((((((((((((((f31.up (k' := 56) (by decide)).w 34 0 35 (by decide)).w 34 1 1 (by decide)).w 34 2 1 (by decide)).w 33 1 34 (by decide)).w 36 0 37 (by decide)).w 36 1 1 (by decide)).w 36 2 1 (by decide)).w 33 2 36 (by decide)).w 38 0 39 (by decide)).w 38 1 1 (by decide)).w 38 2 1 (by decide)).w 33 3 38 (by decide)).w 40 0 41 (by decide)).w 40 1 1 (by decide)).w 40 2 1 (by decide)).w 33 4 40 (by decide)).w 42 0 43 (by decide)).w 42 1 1 (by decide)).w 42 2 1 (by decide)).w 33 5 42 (by decide)).w 44 0 45 (by decide)).w 44 1 1 (by decide)).w 44 2 1 (by decide)).w 33 6 44 (by decide)).w 46 0 47 (by decide)).w 46 1 1 (by decide)).w 46 2 1 (by decide)).w 33 7 46 (by decide)).w 33 8 0 (by decide)).w 33 9 48 (by decide)).w 33 10 49 (by decide)).w 33 11 50 (by decide)).w 33 12 0 (by decide)).w 51 0 0 (by decide)).w 51 1 0 (by decide)).w 51 2 52 (by decide)).w 51 3 53 (by decide)).w 51 4 54 (by decide)).w 51 5 55 (by decide)).w 33 13 51 (by decide)).w 33 14 0 (by decide)).w 33 15 0 (by decide)).w 33 16 0 (by decide)).w 33 0 12 (by decide)
  refine z_pF (q := 146) (ki := 13) fX11_81 rfl hc9 rfl (z_sv2 rfl) (gI (by decide)) dX11_init_143 rfl ?_
  have f33 := f32.w 0 13 33 (by decide)
  refine z_iconst (q := 147) dX11_init_146 rfl ?_
  refine z_istore_n (q := 148) (L' := [(0, 2, 0), (1, 0, 0)]) dX11_init_147 rfl (by decide) rfl ?_
  refine z_iload_n (q := 149) 1 dX11_init_148 rfl rfl ?_
  refine z_bipush (q := 151) dX11_init_149 rfl (by decide) ?_
  refine z_icmp_ge (q := 154) (t := 186) ⟨by decide, by decide⟩ ⟨by decide, by decide⟩ dX11_init_151 (by decide) rfl (fun c => absurd c (by decide)) (fun c => ?_)
  refine z_aload_n (q := 155) 0 dX11_init_154 rfl rfl ?_
  refine z_gf (q := 158) (ki := 0) (v := (2, 1)) fX11_11 rfl (z_ldr rfl (by rw [w_nj (by decide), w_na (by decide), w_na (by decide), w_na (by decide), w_na (by decide), w_na (by decide), w_na (by decide), w_na (by decide), w_na (by decide), w_na (by decide), w_na (by decide), w_na (by decide), w_na (by decide), w_na (by decide), w_na (by decide), w_na (by decide), w_na (by decide), w_na (by decide), w_na (by decide), w_na (by decide), w_na (by decide), w_na (by decide), w_na (by decide), w_na (by decide), w_na (by decide), w_na (by decide), w_na (by decide), w_na (by decide), w_na (by decide), w_na (by decide), w_na (by decide), w_na (by decide), w_na (by decide), w_na (by decide), w_na (by decide), w_na (by decide), w_na (by decide), w_na (by decide), w_na (by decide), w_na (by decide), w_na (by decide), w_na (by decide), w_na (by decide), w_na (by decide), w_na (by decide), w_nj (by decide), w_na (by decide), w_na (by decide), w_nj (by decide), w_na (by decide), w_na (by decide), w_na (by decide), w_nj (by decide), w_na (by decide), w_na (by decide), w_na (by decide), w_na (by decide), w_na (by decide), w_na (by decide), w_na (by decide), w_na (by decide), w_na (by decide), w_nj (by decide), w_na (by decide), w_na (by decide), w_na (by decide), w_na (by decide), w_na (by decide), w_na (by decide), w_na (by decide), w_na (by decide), w_na (by decide), w_nj (by decide), w_na (by decide), w_na (by decide), w_na (by decide), w_na (by decide), w_na (by decide), w_na (by decide), w_nj (by decide), w_na (by decide), w_na (by decide), w_na (by decide), w_na (by decide), w_na (by decide), w_na (by decide), w_na (by decide), w_nj (by decide), w_na (by decide), w_na (by decide), w_na (by decide), w_na (by decide), w_na (by decide), w_na (by decide), w_nj (by decide), w_nj (by decide), w_nj (by decide), w_nj (by decide), w_nj (by decide), w_s] <;> rfl)) (gI (by decide)) dX11_init_155 rfl ?_
  refine z_iload_n (q := 159) 1 dX11_init_158 rfl rfl ?_
  refine n_new (q := 162) (k := 56) cb3 k129 k140 k99 rfl f33 dX11_init_159 rfl ?_
  have f34 := f33.up (k' := 57) (by decide)
  refine z_dup (q := 163) (by decide) dX11_init_162 rfl ?_
  refine n_invN (q := 166) (d2 := d - 1) (rest := [(2, 56), (0, 0), (2, 1)]) (av := []) (by decide) (i_X4_56 (by omega) f34) mo_X4_init np_X4_init rfl k143 k304 k142 (by omega) rfl (nle rfl) dX11_init_163 rfl ?_
  have f35 := (((f34.up (k' := 58) (by decide)).w 56 0 57 (by decide)).w 56 1 1 (by decide)).w 56 2 1 (by decide)
  refine z_asn (q := 167) (n := 8) 54 (by decide) (by decide) (gI (by decide)) (gI (by decide)) (gN (by decide)) (by decide) (by decide) dX11_init_166 rfl ?_
  have f36 := f35.w 1 0 56 (by decide)
  refine z_aload_n (q := 168) 0 dX11_init_167 rfl rfl ?_
  refine z_gf (q := 171) (ki := 1) (v := (2, 2)) fX11_17 rfl (z_ldr rfl (by rw [w_na (by decide), w_na (by decide), w_na (by decide), w_na (by decide), w_nj (by decide), w_na (by decide), w_na (by decide), w_na (by decide), w_na (by decide), w_na (by decide), w_na (by decide), w_na (by decide), w_na (by decide), w_na (by decide), w_na (by decide), w_na (by decide), w_na (by decide), w_na (by decide), w_na (by decide), w_na (by decide), w_na (by decide), w_na (by decide), w_na (by decide), w_na (by decide), w_na (by decide), w_na (by decide), w_na (by decide), w_na (by decide), w_na (by decide), w_na (by decide), w_na (by decide), w_na (by decide), w_na (by decide), w_na (by decide), w_na (by decide), w_na (by decide), w_na (by decide), w_na (by decide), w_na (by decide), w_na (by decide), w_na (by decide), w_na (by decide), w_na (by decide), w_na (by decide), w_na (by decide), w_na (by decide), w_na (by decide), w_na (by decide), w_na (by decide), w_nj (by decide), w_na (by decide), w_na (by decide), w_nj (by decide), w_na (by decide), w_na (by decide), w_na (by decide), w_nj (by decide), w_na (by decide), w_na (by decide), w_na (by decide), w_na (by decide), w_na (by decide), w_na (by decide), w_na (by decide), w_na (by decide), w_na (by decide), w_nj (by decide), w_na (by decide), w_na (by decide), w_na (by decide), w_na (by decide), w_na (by decide), w_na (by decide), w_na (by decide), w_na (by decide), w_na (by decide), w_nj (by decide), w_na (by decide), w_na (by decide), w_na (by decide), w_na (by decide), w_na (by decide), w_na (by decide), w_nj (by decide), w_na (by decide), w_na (by decide), w_na (by decide), w_na (by decide), w_na (by decide), w_na (by decide), w_na (by decide), w_nj (by decide), w_na (by decide), w_na (by decide), w_na (by decide), w_na (by decide), w_na (by decide), w_na (by decide), w_nj (by decide), w_nj (by decide), w_nj (by decide), w_nj (by decide), w_s] <;> rfl)) (gI (by decide)) dX11_init_168 rfl ?_
  refine z_iload_n (q := 172) 1 dX11_init_171 rfl rfl ?_
  refine n_new (q := 175) (k := 58) cb7 k131 k207 k101 rfl f36 dX11_init_172 rfl ?_
  have f37 := f36.up (k' := 59) (by decide)
  refine z_dup (q := 176) (by decide) dX11_init_175 rfl ?_
  refine n_invN (q := 179) (d2 := d - 1) (rest := [(2, 58), (0, 0), (2, 2)]) (av := []) (by decide) (i_X9_58 (by omega) f37) mo_X9_init np_X9_init rfl k210 k305 k209 (by omega) rfl (nle rfl) dX11_init_176 rfl ?_
  have f38 := ((f37.up (k' := 60) (by decide)).w 58 0 59 (by decide)).w 58 1 0 (by decide)
  refine z_asn (q := 180) (n := 8) 55 (by decide) (by decide) (gI (by decide)) (gI (by decide)) (gN (by decide)) (by decide) (by decide) dX11_init_179 rfl ?_
  have f39 := f38.w 2 0 58 (by decide)
  refine z_iinc (q := 183) (L' := [(0, 2, 0), (1, 0, 1)]) 1 dX11_init_180 rfl rfl (by decide) rfl ?_
  refine z_goto (t := 148) dX11_init_183 (by decide) ?_
  refine z_iload_n (q := 149) 1 dX11_init_148 rfl rfl ?_
  refine z_bipush (q := 151) dX11_init_149 rfl (by decide) ?_
  refine z_icmp_ge (q := 154) (t := 186) ⟨by decide, by decide⟩ ⟨by decide, by decide⟩ dX11_init_151 (by decide) rfl (fun c => absurd c (by decide)) (fun c => ?_)
  refine z_aload_n (q := 155) 0 dX11_init_154 rfl rfl ?_
  refine z_gf (q := 158) (ki := 0) (v := (2, 1)) fX11_11 rfl (z_ldr rfl (by rw [w_na (by decide), w_na (by decide), w_na (by decide), w_na (by decide), w_na (by decide), w_na (by decide), w_na (by decide), w_nj (by decide), w_na (by decide), w_na (by decide), w_na (by decide), w_na (by decide), w_na (by decide), w_na (by decide), w_na (by decide), w_na (by decide), w_na (by decide), w_na (by decide), w_na (by decide), w_na (by decide), w_na (by decide), w_na (by decide), w_na (by decide), w_na (by decide), w_na (by decide), w_na (by decide), w_na (by decide), w_na (by decide), w_na (by decide), w_na (by decide), w_na (by decide), w_na (by decide), w_na (by decide), w_na (by decide), w_na (by decide), w_na (by decide), w_na (by decide), w_na (by decide), w_na (by decide), w_na (by decide), w_na (by decide), w_na (by decide), w_na (by decide), w_na (by decide), w_na (by decide), w_na (by decide), w_na (by decide), w_na (by decide), w_na (by decide), w_na (by decide), w_na (by decide), w_na (by decide), w_nj (by decide), w_na (by decide), w_na (by decide), w_nj (by decide), w_na (by decide), w_na (by decide), w_na (by decide), w_nj (by decide), w_na (by decide), w_na (by decide), w_na (by decide), w_na (by decide), w_na (by decide), w_na (by decide), w_na (by decide), w_na (by decide), w_na (by decide), w_nj (by decide), w_na (by decide), w_na (by decide), w_na (by decide), w_na (by decide), w_na (by decide), w_na (by decide), w_na (by decide), w_na (by decide), w_na (by decide), w_nj (by decide), w_na (by decide), w_na (by decide), w_na (by decide), w_na (by decide), w_na (by decide), w_na (by decide), w_nj (by decide), w_na (by decide), w_na (by decide), w_na (by decide), w_na (by decide), w_na (by decide), w_na (by decide), w_na (by decide), w_nj (by decide), w_na (by decide), w_na (by decide), w_na (by decide), w_na (by decide), w_na (by decide), w_na (by decide), w_nj (by decide), w_nj (by decide), w_nj (by decide), w_nj (by decide), w_nj (by decide), w_s] <;> rfl)) (gI (by decide)) dX11_init_155 rfl ?_
  refine z_iload_n (q := 159) 1 dX11_init_158 rfl rfl ?_
  refine n_new (q := 162) (k := 60) cb3 k129 k140 k99 rfl f39 dX11_init_159 rfl ?_
  have f40 := f39.up (k' := 61) (by decide)
  refine z_dup (q := 163) (by decide) dX11_init_162 rfl ?_
  refine n_invN (q := 166) (d2 := d - 1) (rest := [(2, 60), (0, 1), (2, 1)]) (av := []) (by decide) (i_X4_60 (by omega) f40) mo_X4_init np_X4_init rfl k143 k304 k142 (by omega) rfl (nle rfl) dX11_init_163 rfl ?_
  have f41 := (((f40.up (k' := 62) (by decide)).w 60 0 61 (by decide)).w 60 1 1 (by decide)).w 60 2 1 (by decide)
  refine z_asn (q := 167) (n := 8) 54 (by decide) (by decide) (gI (by decide)) (gI (by decide)) (gN (by decide)) (by decide) (by decide) dX11_init_166 rfl ?_
  have f42 := f41.w 1 1 60 (by decide)
  refine z_aload_n (q := 168) 0 dX11_init_167 rfl rfl ?_
  refine z_gf (q := 171) (ki := 1) (v := (2, 2)) fX11_17 rfl (z_ldr rfl (by rw [w_na (by decide), w_na (by decide), w_na (by decide), w_na (by decide), w_na (by decide), w_na (by decide), w_na (by decide), w_na (by decide), w_na (by decide), w_na (by decide), w_na (by decide), w_nj (by decide), w_na (by decide), w_na (by decide), w_na (by decide), w_na (by decide), w_na (by decide), w_na (by decide), w_na (by decide), w_na (by decide), w_na (by decide), w_na (by decide), w_na (by decide), w_na (by decide), w_na (by decide), w_na (by decide), w_na (by decide), w_na (by decide), w_na (by decide), w_na (by decide), w_na (by decide), w_na (by decide), w_na (by decide), w_na (by decide), w_na (by decide), w_na (by decide), w_na (by decide), w_na (by decide), w_na (by decide), w_na (by decide), w_na (by decide), w_na (by decide), w_na (by decide), w_na (by decide), w_na (by decide), w_na (by decide), w_na (by decide), w_na (by decide), w_na (by decide), w_na (by decide), w_na (by decide), w_na (by decide), w_na (by decide), w_na (by decide), w_na (by decide), w_na (by decide), w_nj (by decide), w_na (by decide), w_na (by decide), w_nj (by decide), w_na (by decide), w_na (by decide), w_na (by decide), w_nj (by decide), w_na (by decide), w_na (by decide), w_na (by decide), w_na (by decide), w_na (by decide), w_na (by decide), w_na (by decide), w_na (by decide), w_na (by decide), w_nj (by decide), w_na (by decide), w_na (by decide), w_na (by decide), w_na (by decide), w_na (by decide), w_na (by decide), w_na (by decide), w_na (by decide), w_na (by decide), w_nj (by decide), w_na (by decide), w_na (by decide), w_na (by decide), w_na (by decide), w_na (by decide), w_na (by decide), w_nj (by decide), w_na (by decide), w_na (by decide), w_na (by decide), w_na (by decide), w_na (by decide), w_na (by decide), w_na (by decide), w_nj (by decide), w_na (by decide), w_na (by decide), w_na (by decide), w_na (by decide), w_na (by decide), w_na (by decide), w_nj (by decide), w_nj (by decide), w_nj (by decide), w_nj (by decide), w_s] <;> rfl)) (gI (by decide)) dX11_init_168 rfl ?_
  refine z_iload_n (q := 172) 1 dX11_init_171 rfl rfl ?_
  refine n_new (q := 175) (k := 62) cb7 k131 k207 k101 rfl f42 dX11_init_172 rfl ?_
  have f43 := f42.up (k' := 63) (by decide)
  refine z_dup (q := 176) (by decide) dX11_init_175 rfl ?_
  refine n_invN (q := 179) (d2 := d - 1) (rest := [(2, 62), (0, 1), (2, 2)]) (av := []) (by decide) (i_X9_62 (by omega) f43) mo_X9_init np_X9_init rfl k210 k305 k209 (by omega) rfl (nle rfl) dX11_init_176 rfl ?_
  have f44 := ((f43.up (k' := 64) (by decide)).w 62 0 63 (by decide)).w 62 1 0 (by decide)
  refine z_asn (q := 180) (n := 8) 55 (by decide) (by decide) (gI (by decide)) (gI (by decide)) (gN (by decide)) (by decide) (by decide) dX11_init_179 rfl ?_
  have f45 := f44.w 2 1 62 (by decide)
  refine z_iinc (q := 183) (L' := [(0, 2, 0), (1, 0, 2)]) 1 dX11_init_180 rfl rfl (by decide) rfl ?_
  refine z_goto (t := 148) dX11_init_183 (by decide) ?_
  refine z_iload_n (q := 149) 1 dX11_init_148 rfl rfl ?_
  refine z_bipush (q := 151) dX11_init_149 rfl (by decide) ?_
  refine z_icmp_ge (q := 154) (t := 186) ⟨by decide, by decide⟩ ⟨by decide, by decide⟩ dX11_init_151 (by decide) rfl (fun c => absurd c (by decide)) (fun c => ?_)
  refine z_aload_n (q := 155) 0 dX11_init_154 rfl rfl ?_
  refine z_gf (q := 158) (ki := 0) (v := (2, 1)) fX11_11 rfl (z_ldr rfl (by rw [w_na (by decide), w_na (by decide), w_na (by decide), w_na (by decide), w_na (by decide), w_na (by decide), w_na (by decide), w_na (by decide), w_na (by decide), w_na (by decide), w_na (by decide), w_na (by decide), w_na (by decide), w_na (by decide), w_nj (by decide), w_na (by decide), w_na (by decide), w_na (by decide), w_na (by decide), w_na (by decide), w_na (by decide), w_na (by decide), w_na (by decide), w_na (by decide), w_na (by decide), w_na (by decide), w_na (by decide), w_na (by decide), w_na (by decide), w_na (by decide), w_na (by decide), w_na (by decide), w_na (by decide), w_na (by decide), w_na (by decide), w_na (by decide), w_na (by decide), w_na (by decide), w_na (by decide), w_na (by decide), w_na (by decide), w_na (by decide), w_na (by decide), w_na (by decide), w_na (by decide), w_na (by decide), w_na (by decide), w_na (by decide), w_na (by decide), w_na (by decide), w_na (by decide), w_na (by decide), w_na (by decide), w_na (by decide), w_na (by decide), w_na (by decide), w_na (by decide), w_na (by decide), w_na (by decide), w_nj (by decide), w_na (by decide), w_na (by decide), w_nj (by decide), w_na (by decide), w_na (by decide), w_na (by decide), w_nj (by decide), w_na (by decide), w_na (by decide), w_na (by decide), w_na (by decide), w_na (by decide), w_na (by decide), w_na (by decide), w_na (by decide), w_na (by decide), w_nj (by decide), w_na (by decide), w_na (by decide), w_na (by decide), w_na (by decide), w_na (by decide), w_na (by decide), w_na (by decide), w_na (by decide), w_na (by decide), w_nj (by decide), w_na (by decide), w_na (by decide), w_na (by decide), w_na (by decide), w_na (by decide), w_na (by decide), w_nj (by decide), w_na (by decide), w_na (by decide), w_na (by decide), w_na (by decide), w_na (by decide), w_na (by decide), w_na (by decide), w_nj (by decide), w_na (by decide), w_na (by decide), w_na (by decide), w_na (by decide), w_na (by decide), w_na (by decide), w_nj (by decide), w_nj (by decide), w_nj (by decide), w_nj (by decide), w_nj (by decide), w_s] <;> rfl)) (gI (by decide)) dX11_init_155 rfl ?_
  refine z_iload_n (q := 159) 1 dX11_init_158 rfl rfl ?_
  refine n_new (q := 162) (k := 64) cb3 k129 k140 k99 rfl f45 dX11_init_159 rfl ?_
  have f46 := f45.up (k' := 65) (by decide)
  refine z_dup (q := 163) (by decide) dX11_init_162 rfl ?_
  refine n_invN (q := 166) (d2 := d - 1) (rest := [(2, 64), (0, 2), (2, 1)]) (av := []) (by decide) (i_X4_64 (by omega) f46) mo_X4_init np_X4_init rfl k143 k304 k142 (by omega) rfl (nle rfl) dX11_init_163 rfl ?_
  have f47 := (((f46.up (k' := 66) (by decide)).w 64 0 65 (by decide)).w 64 1 1 (by decide)).w 64 2 1 (by decide)
  refine z_asn (q := 167) (n := 8) 54 (by decide) (by decide) (gI (by decide)) (gI (by decide)) (gN (by decide)) (by decide) (by decide) dX11_init_166 rfl ?_
  have f48 := f47.w 1 2 64 (by decide)
  refine z_aload_n (q := 168) 0 dX11_init_167 rfl rfl ?_
  refine z_gf (q := 171) (ki := 1) (v := (2, 2)) fX11_17 rfl (z_ldr rfl (by rw [w_na (by decide), w_na (by decide), w_na (by decide), w_na (by decide), w_na (by decide), w_na (by decide), w_na (by decide), w_na (by decide), w_na (by decide), w_na (by decide), w_na (by decide), w_na (by decide), w_na (by decide), w_na (by decide), w_na (by decide), w_na (by decide), w_na (by decide), w_na (by decide), w_nj (by decide), w_na (by decide), w_na (by decide), w_na (by decide), w_na (by decide), w_na (by decide), w_na (by decide), w_na (by decide), w_na (by decide), w_na (by decide), w_na (by decide), w_na (by decide), w_na (by decide), w_na (by decide), w_na (by decide), w_na (by decide), w_na (by decide), w_na (by decide), w_na (by decide), w_na (by decide), w_na (by decide), w_na (by decide), w_na (by decide), w_na (by decide), w_na (by decide), w_na (by decide), w_na (by decide), w_na (by decide), w_na (by decide), w_na (by decide), w_na (by decide), w_na (by decide), w_na (by decide), w_na (by decide), w_na (by decide), w_na (by decide), w_na (by decide), w_na (by decide), w_na (by decide), w_na (by decide), w_na (by decide), w_na (by decide), w_na (by decide), w_na (by decide), w_na (by decide), w_nj (by decide), w_na (by decide), w_na (by decide), w_nj (by decide), w_na (by decide), w_na (by decide), w_na (by decide), w_nj (by decide), w_na (by decide), w_na (by decide), w_na (by decide), w_na (by decide), w_na (by decide), w_na (by decide), w_na (by decide), w_na (by decide), w_na (by decide), w_nj (by decide), w_na (by decide), w_na (by decide), w_na (by decide), w_na (by decide), w_na (by decide), w_na (by decide), w_na (by decide), w_na (by decide), w_na (by decide), w_nj (by decide), w_na (by decide), w_na (by decide), w_na (by decide), w_na (by decide), w_na (by decide), w_na (by decide), w_nj (by decide), w_na (by decide), w_na (by decide), w_na (by decide), w_na (by decide), w_na (by decide), w_na (by decide), w_na (by decide), w_nj (by decide), w_na (by decide), w_na (by decide), w_na (by decide), w_na (by decide), w_na (by decide), w_na (by decide), w_nj (by decide), w_nj (by decide), w_nj (by decide), w_nj (by decide), w_s] <;> rfl)) (gI (by decide)) dX11_init_168 rfl ?_
  refine z_iload_n (q := 172) 1 dX11_init_171 rfl rfl ?_
  refine n_new (q := 175) (k := 66) cb7 k131 k207 k101 rfl f48 dX11_init_172 rfl ?_
  have f49 := f48.up (k' := 67) (by decide)
  refine z_dup (q := 176) (by decide) dX11_init_175 rfl ?_
  refine n_invN (q := 179) (d2 := d - 1) (rest := [(2, 66), (0, 2), (2, 2)]) (av := []) (by decide) (i_X9_66 (by omega) f49) mo_X9_init np_X9_init rfl k210 k305 k209 (by omega) rfl (nle rfl) dX11_init_176 rfl ?_
  have f50 := ((f49.up (k' := 68) (by decide)).w 66 0 67 (by decide)).w 66 1 0 (by decide)
  refine z_asn (q := 180) (n := 8) 55 (by decide) (by decide) (gI (by decide)) (gI (by decide)) (gN (by decide)) (by decide) (by decide) dX11_init_179 rfl ?_
  have f51 := f50.w 2 2 66 (by decide)
  refine z_iinc (q := 183) (L' := [(0, 2, 0), (1, 0, 3)]) 1 dX11_init_180 rfl rfl (by decide) rfl ?_
  refine z_goto (t := 148) dX11_init_183 (by decide) ?_
  refine z_iload_n (q := 149) 1 dX11_init_148 rfl rfl ?_
  refine z_bipush (q := 151) dX11_init_149 rfl (by decide) ?_
  refine z_icmp_ge (q := 154) (t := 186) ⟨by decide, by decide⟩ ⟨by decide, by decide⟩ dX11_init_151 (by decide) rfl (fun c => absurd c (by decide)) (fun c => ?_)
  refine z_aload_n (q := 155) 0 dX11_init_154 rfl rfl ?_
  refine z_gf (q := 158) (ki := 0) (v := (2, 1)) fX11_11 rfl (z_ldr rfl (by rw [w_na (by decide), w_na (by decide), w_na (by decide), w_na (by decide), w_na (by decide), w_na (by decide), w_na (by decide), w_na (by decide), w_na (by decide), w_na (by decide), w_na (by decide), w_na (by decide), w_na (by decide), w_na (by decide), w_na (by decide), w_na (by decide), w_na (by decide), w_na (by decide), w_na (by decide), w_na (by decide), w_na (by decide), w_nj (by decide), w_na (by decide), w_na (by decide), w_na (by decide), w_na (by decide), w_na (by decide), w_na (by decide), w_na (by decide), w_na (by decide), w_na (by decide), w_na (by decide), w_na (by decide), w_na (by decide), w_na (by decide), w_na (by decide), w_na (by decide), w_na (by decide), w_na (by decide), w_na (by decide), w_na (by decide), w_na (by decide), w_na (by decide), w_na (by decide), w_na (by decide), w_na (by decide), w_na (by decide), w_na (by decide), w_na (by decide), w_na (by decide), w_na (by decide), w_na (by decide), w_na (by decide), w_na (by decide), w_na (by decide), w_na (by decide), w_na (by decide), w_na (by decide), w_na (by decide), w_na (by decide), w_na (by decide), w_na (by decide), w_na (by decide), w_na (by decide), w_na (by decide), w_na (by decide), w_nj (by decide), w_na (by decide), w_na (by decide), w_nj (by decide), w_na (by decide), w_na (by decide), w_na (by decide), w_nj (by decide), w_na (by decide), w_na (by decide), w_na (by decide), w_na (by decide), w_na (by decide), w_na (by decide), w_na (by decide), w_na (by decide), w_na (by decide), w_nj (by decide), w_na (by decide), w_na (by decide), w_na (by decide), w_na (by decide), w_na (by decide), w_na (by decide), w_na (by decide), w_na (by decide), w_na (by decide), w_nj (by decide), w_na (by decide), w_na (by decide), w_na (by decide), w_na (by decide), w_na (by decide), w_na (by decide), w_nj (by decide), w_na (by decide), w_na (by decide), w_na (by decide), w_na (by decide), w_na (by decide), w_na (by decide), w_na (by decide), w_nj (by decide), w_na (by decide), w_na (by decide), w_na (by decide), w_na (by decide), w_na (by decide), w_na (by decide), w_nj (by decide), w_nj (by decide), w_nj (by decide), w_nj (by decide), w_nj (by decide), w_s] <;> rfl)) (gI (by decide)) dX11_init_155 rfl ?_
  refine z_iload_n (q := 159) 1 dX11_init_158 rfl rfl ?_
  refine n_new (q := 162) (k := 68) cb3 k129 k140 k99 rfl f51 dX11_init_159 rfl ?_
  have f52 := f51.up (k' := 69) (by decide)
  refine z_dup (q := 163) (by decide) dX11_init_162 rfl ?_
  refine n_invN (q := 166) (d2 := d - 1) (rest := [(2, 68), (0, 3), (2, 1)]) (av := []) (by decide) (i_X4_68 (by omega) f52) mo_X4_init np_X4_init rfl k143 k304 k142 (by omega) rfl (nle rfl) dX11_init_163 rfl ?_
  have f53 := (((f52.up (k' := 70) (by decide)).w 68 0 69 (by decide)).w 68 1 1 (by decide)).w 68 2 1 (by decide)
  refine z_asn (q := 167) (n := 8) 54 (by decide) (by decide) (gI (by decide)) (gI (by decide)) (gN (by decide)) (by decide) (by decide) dX11_init_166 rfl ?_
  have f54 := f53.w 1 3 68 (by decide)
  refine z_aload_n (q := 168) 0 dX11_init_167 rfl rfl ?_
  refine z_gf (q := 171) (ki := 1) (v := (2, 2)) fX11_17 rfl (z_ldr rfl (by rw [w_na (by decide), w_na (by decide), w_na (by decide), w_na (by decide), w_na (by decide), w_na (by decide), w_na (by decide), w_na (by decide), w_na (by decide), w_na (by decide), w_na (by decide), w_na (by decide), w_na (by decide), w_na (by decide), w_na (by decide), w_na (by decide), w_na (by decide), w_na (by decide), w_na (by decide), w_na (by decide), w_na (by decide), w_na (by decide), w_na (by decide), w_na (by decide), w_na (by decide), w_nj (by decide), w_na (by decide), w_na (by decide), w_na (by decide), w_na (by decide), w_na (by decide), w_na (by decide), w_na (by decide), w_na (by decide), w_na (by decide), w_na (by decide), w_na (by decide), w_na (by decide), w_na (by decide), w_na (by decide), w_na (by decide), w_na (by decide), w_na (by decide), w_na (by decide), w_na (by decide), w_na (by decide), w_na (by decide), w_na (by decide), w_na (by decide), w_na (by decide), w_na (by decide), w_na (by decide), w_na (by decide), w_na (by decide), w_na (by decide), w_na (by decide), w_na (by decide), w_na (by decide), w_na (by decide), w_na (by decide), w_na (by decide), w_na (by decide), w_na (by decide), w_na (by decide), w_na (by decide), w_na (by decide), w_na (by decide), w_na (by decide), w_na (by decide), w_na (by decide), w_nj (by decide), w_na (by decide), w_na (by decide), w_nj (by decide), w_na (by decide), w_na (by decide), w_na (by decide), w_nj (by decide), w_na (by decide), w_na (by decide), w_na (by decide), w_na (by decide), w_na (by decide), w_na (by decide), w_na (by decide), w_na (by decide), w_na (by decide), w_nj (by decide), w_na (by decide), w_na (by decide), w_na (by decide), w_na (by decide), w_na (by decide), w_na (by decide), w_na (by decide), w_na (by decide), w_na (by decide), w_nj (by decide), w_na (by decide), w_na (by decide), w_na (by decide), w_na (by decide), w_na (by decide), w_na (by decide), w_nj (by decide), w_na (by decide), w_na (by decide), w_na (by decide), w_na (by decide), w_na (by decide), w_na (by decide), w_na (by decide), w_nj (by decide), w_na (by decide), w_na (by decide), w_na (by decide), w_na (by decide), w_na (by decide), w_na (by decide), w_nj (by decide), w_nj (by decide), w_nj (by decide), w_nj (by decide), w_s] <;> rfl)) (gI (by decide)) dX11_init_168 rfl ?_
  refine z_iload_n (q := 172) 1 dX11_init_171 rfl rfl ?_
  refine n_new (q := 175) (k := 70) cb7 k131 k207 k101 rfl f54 dX11_init_172 rfl ?_
  have f55 := f54.up (k' := 71) (by decide)
  refine z_dup (q := 176) (by decide) dX11_init_175 rfl ?_
  refine n_invN (q := 179) (d2 := d - 1) (rest := [(2, 70), (0, 3), (2, 2)]) (av := []) (by decide) (i_X9_70 (by omega) f55) mo_X9_init np_X9_init rfl k210 k305 k209 (by omega) rfl (nle rfl) dX11_init_176 rfl ?_
  have f56 := ((f55.up (k' := 72) (by decide)).w 70 0 71 (by decide)).w 70 1 0 (by decide)
  refine z_asn (q := 180) (n := 8) 55 (by decide) (by decide) (gI (by decide)) (gI (by decide)) (gN (by decide)) (by decide) (by decide) dX11_init_179 rfl ?_
  have f57 := f56.w 2 3 70 (by decide)
  refine z_iinc (q := 183) (L' := [(0, 2, 0), (1, 0, 4)]) 1 dX11_init_180 rfl rfl (by decide) rfl ?_
  refine z_goto (t := 148) dX11_init_183 (by decide) ?_
  refine z_iload_n (q := 149) 1 dX11_init_148 rfl rfl ?_
  refine z_bipush (q := 151) dX11_init_149 rfl (by decide) ?_
  refine z_icmp_ge (q := 154) (t := 186) ⟨by decide, by decide⟩ ⟨by decide, by decide⟩ dX11_init_151 (by decide) rfl (fun c => absurd c (by decide)) (fun c => ?_)
  refine z_aload_n (q := 155) 0 dX11_init_154 rfl rfl ?_
  refine z_gf (q := 158) (ki := 0) (v := (2, 1)) fX11_11 rfl (z_ldr rfl (by rw [w_na (by decide), w_na (by decide), w_na (by decide), w_na (by decide), w_na (by decide), w_na (by decide), w_na (by decide), w_na (by decide), w_na (by decide), w_na (by decide), w_na (by decide), w_na (by decide), w_na (by decide), w_na (by decide), w_na (by decide), w_na (by decide), w_na (by decide), w_na (by decide), w_na (by decide), w_na (by decide), w_na (by decide), w_na (by decide), w_na (by decide), w_na (by decide), w_na (by decide), w_na (by decide), w_na (by decide), w_na (by decide), w_nj (by decide), w_na (by decide), w_na (by decide), w_na (by decide), w_na (by decide), w_na (by decide), w_na (by decide), w_na (by decide), w_na (by decide), w_na (by decide), w_na (by decide), w_na (by decide), w_na (by decide), w_na (by decide), w_na (by decide), w_na (by decide), w_na (by decide), w_na (by decide), w_na (by decide), w_na (by decide), w_na (by decide), w_na (by decide), w_na (by decide), w_na (by decide), w_na (by decide), w_na (by decide), w_na (by decide), w_na (by decide), w_na (by decide), w_na (by decide), w_na (by decide), w_na (by decide), w_na (by decide), w_na (by decide), w_na (by decide), w_na (by decide), w_na (by decide), w_na (by decide), w_na (by decide), w_na (by decide), w_na (by decide), w_na (by decide), w_na (by decide), w_na (by decide), w_na (by decide), w_nj (by decide), w_na (by decide), w_na (by decide), w_nj (by decide), w_na (by decide), w_na (by decide), w_na (by decide), w_nj (by decide), w_na (by decide), w_na (by decide), w_na (by decide), w_na (by decide), w_na (by decide), w_na (by decide), w_na (by decide), w_na (by decide), w_na (by decide), w_nj (by decide), w_na (by decide), w_na (by decide), w_na (by decide), w_na (by decide), w_na (by decide), w_na (by decide), w_na (by decide), w_na (by decide), w_na (by decide), w_nj (by decide), w_na (by decide), w_na (by decide), w_na (by decide), w_na (by decide), w_na (by decide), w_na (by decide), w_nj (by decide), w_na (by decide), w_na (by decide), w_na (by decide), w_na (by decide), w_na (by decide), w_na (by decide), w_na (by decide), w_nj (by decide), w_na (by decide), w_na (by decide), w_na (by decide), w_na (by decide), w_na (by decide), w_na (by decide), w_nj (by decide), w_nj (by decide), w_nj (by decide), w_nj (by decide), w_nj (by decide), w_s] <;> rfl)) (gI (by decide)) dX11_init_155 rfl ?_
  refine z_iload_n (q := 159) 1 dX11_init_158 rfl rfl ?_
  refine n_new (q := 162) (k := 72) cb3 k129 k140 k99 rfl f57 dX11_init_159 rfl ?_
  have f58 := f57.up (k' := 73) (by decide)
  refine z_dup (q := 163) (by decide) dX11_init_162 rfl ?_
  refine n_invN (q := 166) (d2 := d - 1) (rest := [(2, 72), (0, 4), (2, 1)]) (av := []) (by decide) (i_X4_72 (by omega) f58) mo_X4_init np_X4_init rfl k143 k304 k142 (by omega) rfl (nle rfl) dX11_init_163 rfl ?_
  have f59 := (((f58.up (k' := 74) (by decide)).w 72 0 73 (by decide)).w 72 1 1 (by decide)).w 72 2 1 (by decide)
  refine z_asn (q := 167) (n := 8) 54 (by decide) (by decide) (gI (by decide)) (gI (by decide)) (gN (by decide)) (by decide) (by decide) dX11_init_166 rfl ?_
  have f60 := f59.w 1 4 72 (by decide)
  refine z_aload_n (q := 168) 0 dX11_init_167 rfl rfl ?_
  refine z_gf (q := 171) (ki := 1) (v := (2, 2)) fX11_17 rfl (z_ldr rfl (by rw [w_na (by decide), w_na (by decide), w_na (by decide), w_na (by decide), w_na (by decide), w_na (by decide), w_na (by decide), w_na (by decide), w_na (by decide), w_na (by decide), w_na (by decide), w_na (by decide), w_na (by decide), w_na (by decide), w_na (by decide), w_na (by decide), w_na (by decide), w_na (by decide), w_na (by decide), w_na (by decide), w_na (by decide), w_na (by decide), w_na (by decide), w_na (by decide), w_na (by decide), w_na (by decide), w_na (by decide), w_na (by decide), w_na (by decide), w_na (by decide), w_na (by decide), w_na (by decide), w_nj (by decide), w_na (by decide), w_na (by decide), w_na (by decide), w_na (by decide), w_na (by decide), w_na (by decide), w_na (by decide), w_na (by decide), w_na (by decide), w_na (by decide), w_na (by decide), w_na (by decide), w_na (by decide), w_na (by decide), w_na (by decide), w_na (by decide), w_na (by decide), w_na (by decide), w_na (by decide), w_na (by decide), w_na (by decide), w_na (by decide), w_na (by decide), w_na (by decide), w_na (by decide), w_na (by decide), w_na (by decide), w_na (by decide), w_na (by decide), w_na (by decide), w_na (by decide), w_na (by decide), w_na (by decide), w_na (by decide), w_na (by decide), w_na (by decide), w_na (by decide), w_na (by decide), w_na (by decide), w_na (by decide), w_na (by decide), w_na (by decide), w_na (by decide), w_na (by decide), w_nj (by decide), w_na (by decide), w_na (by decide), w_nj (by decide), w_na (by decide), w_na (by decide), w_na (by decide), w_nj (by decide), w_na (by decide), w_na (by decide), w_na (by decide), w_na (by decide), w_na (by decide), w_na (by decide), w_na (by decide), w_na (by decide), w_na (by decide), w_nj (by decide), w_na (by decide), w_na (by decide), w_na (by decide), w_na (by decide), w_na (by decide), w_na (by decide), w_na (by decide), w_na (by decide), w_na (by decide), w_nj (by decide), w_na (by decide), w_na (by decide), w_na (by decide), w_na (by decide), w_na (by decide), w_na (by decide), w_nj (by decide), w_na (by decide), w_na (by decide), w_na (by decide), w_na (by decide), w_na (by decide), w_na (by decide), w_na (by decide), w_nj (by decide), w_na (by decide), w_na (by decide), w_na (by decide), w_na (by decide), w_na (by decide), w_na (by decide), w_nj (by decide), w_nj (by decide), w_nj (by decide), w_nj (by decide), w_s] <;> rfl)) (gI (by decide)) dX11_init_168 rfl ?_
  refine z_iload_n (q := 172) 1 dX11_init_171 rfl rfl ?_
  refine n_new (q := 175) (k := 74) cb7 k131 k207 k101 rfl f60 dX11_init_172 rfl ?_
  have f61 := f60.up (k' := 75) (by decide)
  refine z_dup (q := 176) (by decide) dX11_init_175 rfl ?_
  refine n_invN (q := 179) (d2 := d - 1) (rest := [(2, 74), (0, 4), (2, 2)]) (av := []) (by decide) (i_X9_74 (by omega) f61) mo_X9_init np_X9_init rfl k210 k305 k209 (by omega) rfl (nle rfl) dX11_init_176 rfl ?_
  have f62 := ((f61.up (k' := 76) (by decide)).w 74 0 75 (by decide)).w 74 1 0 (by decide)
  refine z_asn (q := 180) (n := 8) 55 (by decide) (by decide) (gI (by decide)) (gI (by decide)) (gN (by decide)) (by decide) (by decide) dX11_init_179 rfl ?_
  have f63 := f62.w 2 4 74 (by decide)
  refine z_iinc (q := 183) (L' := [(0, 2, 0), (1, 0, 5)]) 1 dX11_init_180 rfl rfl (by decide) rfl ?_
  refine z_goto (t := 148) dX11_init_183 (by decide) ?_
  refine z_iload_n (q := 149) 1 dX11_init_148 rfl rfl ?_
  refine z_bipush (q := 151) dX11_init_149 rfl (by decide) ?_
  refine z_icmp_ge (q := 154) (t := 186) ⟨by decide, by decide⟩ ⟨by decide, by decide⟩ dX11_init_151 (by decide) rfl (fun c => absurd c (by decide)) (fun c => ?_)
  refine z_aload_n (q := 155) 0 dX11_init_154 rfl rfl ?_
  refine z_gf (q := 158) (ki := 0) (v := (2, 1)) fX11_11 rfl (z_ldr rfl (by rw [w_na (by decide), w_na (by decide), w_na (by decide), w_na (by decide), w_na (by decide), w_na (by decide), w_na (by decide), w_na (by decide), w_na (by decide), w_na (by decide), w_na (by decide), w_na (by decide), w_na (by decide), w_na (by decide), w_na (by decide), w_na (by decide), w_na (by decide), w_na (by decide), w_na (by decide), w_na (by decide), w_na (by decide), w_na (by decide), w_na (by decide), w_na (by decide), w_na (by decide), w_na (by decide), w_na (by decide), w_na (by decide), w_na (by decide), w_na (by decide), w_na (by decide), w_na (by decide), w_na (by decide), w_na (by decide), w_na (by decide), w_nj (by decide), w_na (by decide), w_na (by decide), w_na (by decide), w_na (by decide), w_na (by decide), w_na (by decide), w_na (by decide), w_na (by decide), w_na (by decide), w_na (by decide), w_na (by decide), w_na (by decide), w_na (by decide), w_na (by decide), w_na (by decide), w_na (by decide), w_na (by decide), w_na (by decide), w_na (by decide), w_na (by decide), w_na (by decide), w_na (by decide), w_na (by decide), w_na (by decide), w_na (by decide), w_na (by decide), w_na (by decide), w_na (by decide), w_na (by decide), w_na (by decide), w_na (by decide), w_na (by decide), w_na (by decide), w_na (by decide), w_na (by decide), w_na (by decide), w_na (by decide), w_na (by decide), w_na (by decide), w_na (by decide), w_na (by decide), w_na (by decide), w_na (by decide), w_na (by decide), w_nj (by decide), w_na (by decide), w_na (by decide), w_nj (by decide), w_na (by decide), w_na (by decide), w_na (by decide), w_nj (by decide), w_na (by decide), w_na (by decide), w_na (by decide), w_na (by decide), w_na (by decide), w_na (by decide), w_na (by decide), w_na (by decide), w_na (by decide), w_nj (by decide), w_na (by decide), w_na (by decide), w_na (by decide), w_na (by decide), w_na (by decide), w_na (by decide), w_na (by decide), w_na (by decide), w_na (by decide), w_nj (by decide), w_na (by decide), w_na (by decide), w_na (by decide), w_na (by decide), w_na (by decide), w_na (by decide), w_nj (by decide), w_na (by decide), w_na (by decide), w_na (by decide), w_na (by decide), w_na (by decide), w_na (by decide), w_na (by decide), w_nj (by decide), w_na (by decide), w_na (by decide), w_na (by decide), w_na (by decide), w_na (by decide), w_na (by decide), w_nj (by decide), w_nj (by decide), w_nj (by decide), w_nj (by decide), w_nj (by decide), w_s] <;> rfl)) (gI (by decide)) dX11_init_155 rfl ?_
  refine z_iload_n (q := 159) 1 dX11_init_158 rfl rfl ?_
  refine n_new (q := 162) (k := 76) cb3 k129 k140 k99 rfl f63 dX11_init_159 rfl ?_
  have f64 := f63.up (k' := 77) (by decide)
  refine z_dup (q := 163) (by decide) dX11_init_162 rfl ?_
  refine n_invN (q := 166) (d2 := d - 1) (rest := [(2, 76), (0, 5), (2, 1)]) (av := []) (by decide) (i_X4_76 (by omega) f64) mo_X4_init np_X4_init rfl k143 k304 k142 (by omega) rfl (nle rfl) dX11_init_163 rfl ?_
  have f65 := (((f64.up (k' := 78) (by decide)).w 76 0 77 (by decide)).w 76 1 1 (by decide)).w 76 2 1 (by decide)
  refine z_asn (q := 167) (n := 8) 54 (by decide) (by decide) (gI (by decide)) (gI (by decide)) (gN (by decide)) (by decide) (by decide) dX11_init_166 rfl ?_
  have f66 := f65.w 1 5 76 (by decide)
  refine z_aload_n (q := 168) 0 dX11_init_167 rfl rfl ?_
  refine z_gf (q := 171) (ki := 1) (v := (2, 2)) fX11_17 rfl (z_ldr rfl (by rw [w_na (by decide), w_na (by decide), w_na (by decide), w_na (by decide), w_na (by decide), w_na (by decide), w_na (by decide), w_na (by decide), w_na (by decide), w_na (by decide), w_na (by decide), w_na (by decide), w_na (by decide), w_na (by decide), w_na (by decide), w_na (by decide), w_na (by decide), w_na (by decide), w_na (by decide), w_na (by decide), w_na (by decide), w_na (by decide), w_na (by decide), w_na (by decide), w_na (by decide), w_na (by decide), w_na (by decide), w_na (by decide), w_na (by decide), w_na (by decide), w_na (by decide), w_na (by decide), w_na (by decide), w_na (by decide), w_na (by decide), w_na (by decide), w_na (by decide), w_na (by decide), w_na (by decide), w_nj (by decide), w_na (by decide), w_na (by decide), w_na (by decide), w_na (by decide), w_na (by decide), w_na (by decide), w_na (by decide), w_na (by decide), w_na (by decide), w_na (by decide), w_na (by decide), w_na (by decide), w_na (by decide), w_na (by decide), w_na (by decide), w_na (by decide), w_na (by decide), w_na (by decide), w_na (by decide), w_na (by decide), w_na (by decide), w_na (by decide), w_na (by decide), w_na (by decide), w_na (by decide), w_na (by decide), w_na (by decide), w_na (by decide), w_na (by decide), w_na (by decide), w_na (by decide), w_na (by decide), w_na (by decide), w_na (by decide), w_na (by decide), w_na (by decide), w_na (by decide), w_na (by decide), w_na (by decide), w_na (by decide), w_na (by decide), w_na (by decide), w_na (by decide), w_na (by decide), w_nj (by decide), w_na (by decide), w_na (by decide), w_nj (by decide), w_na (by decide), w_na (by decide), w_na (by decide), w_nj (by decide), w_na (by decide), w_na (by decide), w_na (by decide), w_na (by decide), w_na (by decide), w_na (by decide), w_na (by decide), w_na (by decide), w_na (by decide), w_nj (by decide), w_na (by decide), w_na (by decide), w_na (by decide), w_na (by decide), w_na (by decide), w_na (by decide), w_na (by decide), w_na (by decide), w_na (by decide), w_nj (by decide), w_na (by decide), w_na (by decide), w_na (by decide), w_na (by decide), w_na (by decide), w_na (by decide), w_nj (by decide), w_na (by decide), w_na (by decide), w_na (by decide), w_na (by decide), w_na (by decide), w_na (by decide), w_na (by decide), w_nj (by decide), w_na (by decide), w_na (by decide), w_na (by decide), w_na (by decide), w_na (by decide), w_na (by decide), w_nj (by decide), w_nj (by decide), w_nj (by decide), w_nj (by decide), w_s] <;> rfl)) (gI (by decide)) dX11_init_168 rfl ?_
  refine z_iload_n (q := 172) 1 dX11_init_171 rfl rfl ?_
  refine n_new (q := 175) (k := 78) cb7 k131 k207 k101 rfl f66 dX11_init_172 rfl ?_
  have f67 := f66.up (k' := 79) (by decide)
  refine z_dup (q := 176) (by decide) dX11_init_175 rfl ?_
  refine n_invN (q := 179) (d2 := d - 1) (rest := [(2, 78), (0, 5), (2, 2)]) (av := []) (by decide) (i_X9_78 (by omega) f67) mo_X9_init np_X9_init rfl k210 k305 k209 (by omega) rfl (nle rfl) dX11_init_176 rfl ?_
  have f68 := ((f67.up (k' := 80) (by decide)).w 78 0 79 (by decide)).w 78 1 0 (by decide)
  refine z_asn (q := 180) (n := 8) 55 (by decide) (by decide) (gI (by decide)) (gI (by decide)) (gN (by decide)) (by decide) (by decide) dX11_init_179 rfl ?_
  have f69 := f68.w 2 5 78 (by decide)
  refine z_iinc (q := 183) (L' := [(0, 2, 0), (1, 0, 6)]) 1 dX11_init_180 rfl rfl (by decide) rfl ?_
  refine z_goto (t := 148) dX11_init_183 (by decide) ?_
  refine z_iload_n (q := 149) 1 dX11_init_148 rfl rfl ?_
  refine z_bipush (q := 151) dX11_init_149 rfl (by decide) ?_
  refine z_icmp_ge (q := 154) (t := 186) ⟨by decide, by decide⟩ ⟨by decide, by decide⟩ dX11_init_151 (by decide) rfl (fun c => absurd c (by decide)) (fun c => ?_)
  refine z_aload_n (q := 155) 0 dX11_init_154 rfl rfl ?_
  refine z_gf (q := 158) (ki := 0) (v := (2, 1)) fX11_11 rfl (z_ldr rfl (by rw [w_na (by decide), w_na (by decide), w_na (by decide), w_na (by decide), w_na (by decide), w_na (by decide), w_na (by decide), w_na (by decide), w_na (by decide), w_na (by decide), w_na (by decide), w_na (by decide), w_na (by decide), w_na (by decide), w_na (by decide), w_na (by decide), w_na (by decide), w_na (by decide), w_na (by decide), w_na (by decide), w_na (by decide), w_na (by decide), w_na (by decide), w_na (by decide), w_na (by decide), w_na (by decide), w_na (by decide), w_na (by decide), w_na (by decide), w_na (by decide), w_na (by decide), w_na (by decide), w_na (by decide), w_na (by decide), w_na (by decide), w_na (by decide), w_na (by decide), w_na (by decide), w_na (by decide), w_na (by decide), w_na (by decide), w_na (by decide), w_nj (by decide), w_na (by decide), w_na (by decide), w_na (by decide), w_na (by decide), w_na (by decide), w_na (by decide), w_na (by decide), w_na (by decide), w_na (by decide), w_na (by decide), w_na (by decide), w_na (by decide), w_na (by decide), w_na (by decide), w_na (by decide), w_na (by decide), w_na (by decide), w_na (by decide), w_na (by decide), w_na (by decide), w_na (by decide), w_na (by decide), w_na (by decide), w_na (by decide), w_na (by decide), w_na (by decide), w_na (by decide), w_na (by decide), w_na (by decide), w_na (by decide), w_na (by decide), w_na (by decide), w_na (by decide), w_na (by decide), w_na (by decide), w_na (by decide), w_na (by decide), w_na (by decide), w_na (by decide), w_na (by decide), w_na (by decide), w_na (by decide), w_na (by decide), w_na (by decide), w_nj (by decide), w_na (by decide), w_na (by decide), w_nj (by decide), w_na (by decide), w_na (by decide), w_na (by decide), w_nj (by decide), w_na (by decide), w_na (by decide), w_na (by decide), w_na (by decide), w_na (by decide), w_na (by decide), w_na (by decide), w_na (by decide), w_na (by decide), w_nj (by decide), w_na (by decide), w_na (by decide), w_na (by decide), w_na (by decide), w_na (by decide), w_na (by decide), w_na (by decide), w_na (by decide), w_na (by decide), w_nj (by decide), w_na (by decide), w_na (by decide), w_na (by decide), w_na (by decide), w_na (by decide), w_na (by decide), w_nj (by decide), w_na (by decide), w_na (by decide), w_na (by decide), w_na (by decide), w_na (by decide), w_na (by decide), w_na (by decide), w_nj (by decide), w_na (by decide), w_na (by decide), w_na (by decide), w_na (by decide), w_na (by decide), w_na (by decide), w_nj (by decide), w_nj (by decide), w_nj (by decide), w_nj (by decide), w_nj (by decide), w_s] <;> rfl)) (gI (by decide)) dX11_init_155 rfl ?_
  refine z_iload_n (q := 159) 1 dX11_init_158 rfl rfl ?_
  refine n_new (q := 162) (k := 80) cb3 k129 k140 k99 rfl f69 dX11_init_159 rfl ?_
  have f70 := f69.up (k' := 81) (by decide)
  refine z_dup (q := 163) (by decide) dX11_init_162 rfl ?_
  refine n_invN (q := 166) (d2 := d - 1) (rest := [(2, 80), (0, 6), (2, 1)]) (av := []) (by decide) (i_X4_80 (by omega) f70) mo_X4_init np_X4_init rfl k143 k304 k142 (by omega) rfl (nle rfl) dX11_init_163 rfl ?_
  have f71 := (((f70.up (k' := 82) (by decide)).w 80 0 81 (by decide)).w 80 1 1 (by decide)).w 80 2 1 (by decide)
  refine z_asn (q := 167) (n := 8) 54 (by decide) (by decide) (gI (by decide)) (gI (by decide)) (gN (by decide)) (by decide) (by decide) dX11_init_166 rfl ?_
  have f72 := f71.w 1 6 80 (by decide)
  refine z_aload_n (q := 168) 0 dX11_init_167 rfl rfl ?_
  refine z_gf (q := 171) (ki := 1) (v := (2, 2)) fX11_17 rfl (z_ldr rfl (by rw [w_na (by decide), w_na (by decide), w_na (by decide), w_na (by decide), w_na (by decide), w_na (by decide), w_na (by decide), w_na (by decide), w_na (by decide), w_na (by decide), w_na (by decide), w_na (by decide), w_na (by decide), w_na (by decide), w_na (by decide), w_na (by decide), w_na (by decide), w_na (by decide), w_na (by decide), w_na (by decide), w_na (by decide), w_na (by decide), w_na (by decide), w_na (by decide), w_na (by decide), w_na (by decide), w_na (by decide), w_na (by decide), w_na (by decide), w_na (by decide), w_na (by decide), w_na (by decide), w_na (by decide), w_na (by decide), w_na (by decide), w_na (by decide), w_na (by decide), w_na (by decide), w_na (by decide), w_na (by decide), w_na (by decide), w_na (by decide), w_na (by decide), w_na (by decide), w_na (by decide), w_na (by decide), w_nj (by decide), w_na (by decide), w_na (by decide), w_na (by decide), w_na (by decide), w_na (by decide), w_na (by decide), w_na (by decide), w_na (by decide), w_na (by decide), w_na (by decide), w_na (by decide), w_na (by decide), w_na (by decide), w_na (by decide), w_na (by decide), w_na (by decide), w_na (by decide), w_na (by decide), w_na (by decide), w_na (by decide), w_na (by decide), w_na (by decide), w_na (by decide), w_na (by decide), w_na (by decide), w_na (by decide), w_na (by decide), w_na (by decide), w_na (by decide), w_na (by decide), w_na (by decide), w_na (by decide), w_na (by decide), w_na (by decide), w_na (by decide), w_na (by decide), w_na (by decide), w_na (by decide), w_na (by decide), w_na (by decide), w_na (by decide), w_na (by decide), w_na (by decide), w_na (by decide), w_nj (by decide), w_na (by decide), w_na (by decide), w_nj (by decide), w_na (by decide), w_na (by decide), w_na (by decide), w_nj (by decide), w_na (by decide), w_na (by decide), w_na (by decide), w_na (by decide), w_na (by decide), w_na (by decide), w_na (by decide), w_na (by decide), w_na (by decide), w_nj (by decide), w_na (by decide), w_na (by decide), w_na (by decide), w_na (by decide), w_na (by decide), w_na (by decide), w_na (by decide), w_na (by decide), w_na (by decide), w_nj (by decide), w_na (by decide), w_na (by decide), w_na (by decide), w_na (by decide), w_na (by decide), w_na (by decide), w_nj (by decide), w_na (by decide), w_na (by decide), w_na (by decide), w_na (by decide), w_na (by decide), w_na (by decide), w_na (by decide), w_nj (by decide), w_na (by decide), w_na (by decide), w_na (by decide), w_na (by decide), w_na (by decide), w_na (by decide), w_nj (by decide), w_nj (by decide), w_nj (by decide), w_nj (by decide), w_s] <;> rfl)) (gI (by decide)) dX11_init_168 rfl ?_
  refine z_iload_n (q := 172) 1 dX11_init_171 rfl rfl ?_
  refine n_new (q := 175) (k := 82) cb7 k131 k207 k101 rfl f72 dX11_init_172 rfl ?_
  have f73 := f72.up (k' := 83) (by decide)
  refine z_dup (q := 176) (by decide) dX11_init_175 rfl ?_
  refine n_invN (q := 179) (d2 := d - 1) (rest := [(2, 82), (0, 6), (2, 2)]) (av := []) (by decide) (i_X9_82 (by omega) f73) mo_X9_init np_X9_init rfl k210 k305 k209 (by omega) rfl (nle rfl) dX11_init_176 rfl ?_
  have f74 := ((f73.up (k' := 84) (by decide)).w 82 0 83 (by decide)).w 82 1 0 (by decide)
  refine z_asn (q := 180) (n := 8) 55 (by decide) (by decide) (gI (by decide)) (gI (by decide)) (gN (by decide)) (by decide) (by decide) dX11_init_179 rfl ?_
  have f75 := f74.w 2 6 82 (by decide)
  refine z_iinc (q := 183) (L' := [(0, 2, 0), (1, 0, 7)]) 1 dX11_init_180 rfl rfl (by decide) rfl ?_
  refine z_goto (t := 148) dX11_init_183 (by decide) ?_
  refine z_iload_n (q := 149) 1 dX11_init_148 rfl rfl ?_
  refine z_bipush (q := 151) dX11_init_149 rfl (by decide) ?_
  refine z_icmp_ge (q := 154) (t := 186) ⟨by decide, by decide⟩ ⟨by decide, by decide⟩ dX11_init_151 (by decide) rfl (fun c => absurd c (by decide)) (fun c => ?_)
  refine z_aload_n (q := 155) 0 dX11_init_154 rfl rfl ?_
  refine z_gf (q := 158) (ki := 0) (v := (2, 1)) fX11_11 rfl (z_ldr rfl (by rw [w_na (by decide), w_na (by decide), w_na (by decide), w_na (by decide), w_na (by decide), w_na (by decide), w_na (by decide), w_na (by decide), w_na (by decide), w_na (by decide), w_na (by decide), w_na (by decide), w_na (by decide), w_na (by decide), w_na (by decide), w_na (by decide), w_na (by decide), w_na (by decide), w_na (by decide), w_na (by decide), w_na (by decide), w_na (by decide), w_na (by decide), w_na (by decide), w_na (by decide), w_na (by decide), w_na (by decide), w_na (by decide), w_na (by decide), w_na (by decide), w_na (by decide), w_na (by decide), w_na (by decide), w_na (by decide), w_na (by decide), w_na (by decide), w_na (by decide), w_na (by decide), w_na (by decide), w_na (by decide), w_na (by decide), w_na (by decide), w_na (by decide), w_na (by decide), w_na (by decide), w_na (by decide), w_na (by decide), w_na (by decide), w_na (by decide), w_nj (by decide), w_na (by decide), w_na (by decide), w_na (by decide), w_na (by decide), w_na (by decide), w_na (by decide), w_na (by decide), w_na (by decide), w_na (by decide), w_na (by decide), w_na (by decide), w_na (by decide), w_na (by decide), w_na (by decide), w_na (by decide), w_na (by decide), w_na (by decide), w_na (by decide), w_na (by decide), w_na (by decide), w_na (by decide), w_na (by decide), w_na (by decide), w_na (by decide), w_na (by decide), w_na (by decide), w_na (by decide), w_na (by decide), w_na (by decide), w_na (by decide), w_na (by decide), w_na (by decide), w_na (by decide), w_na (by decide), w_na (by decide), w_na (by decide), w_na (by decide), w_na (by decide), w_na (by decide), w_na (by decide), w_na (by decide), w_na (by decide), w_na (by decide), w_na (by decide), w_nj (by decide), w_na (by decide), w_na (by decide), w_nj (by decide), w_na (by decide), w_na (by decide), w_na (by decide), w_nj (by decide), w_na (by decide), w_na (by decide), w_na (by decide), w_na (by decide), w_na (by decide), w_na (by decide), w_na (by decide), w_na (by decide), w_na (by decide), w_nj (by decide), w_na (by decide), w_na (by decide), w_na (by decide), w_na (by decide), w_na (by decide), w_na (by decide), w_na (by decide), w_na (by decide), w_na (by decide), w_nj (by decide), w_na (by decide), w_na (by decide), w_na (by decide), w_na (by decide), w_na (by decide), w_na (by decide), w_nj (by decide), w_na (by decide), w_na (by decide), w_na (by decide), w_na (by decide), w_na (by decide), w_na (by decide), w_na (by decide), w_nj (by decide), w_na (by decide), w_na (by decide), w_na (by decide), w_na (by decide), w_na (by decide), w_na (by decide), w_nj (by decide), w_nj (by decide), w_nj (by decide), w_nj (by decide), w_nj (by decide), w_s] <;> rfl)) (gI (by decide)) dX11_init_155 rfl ?_
  refine z_iload_n (q := 159) 1 dX11_init_158 rfl rfl ?_
  refine n_new (q := 162) (k := 84) cb3 k129 k140 k99 rfl f75 dX11_init_159 rfl ?_
  have f76 := f75.up (k' := 85) (by decide)
  refine z_dup (q := 163) (by decide) dX11_init_162 rfl ?_
  refine n_invN (q := 166) (d2 := d - 1) (rest := [(2, 84), (0, 7), (2, 1)]) (av := []) (by decide) (i_X4_84 (by omega) f76) mo_X4_init np_X4_init rfl k143 k304 k142 (by omega) rfl (nle rfl) dX11_init_163 rfl ?_
  have f77 := (((f76.up (k' := 86) (by decide)).w 84 0 85 (by decide)).w 84 1 1 (by decide)).w 84 2 1 (by decide)
  refine z_asn (q := 167) (n := 8) 54 (by decide) (by decide) (gI (by decide)) (gI (by decide)) (gN (by decide)) (by decide) (by decide) dX11_init_166 rfl ?_
  have f78 := f77.w 1 7 84 (by decide)
  refine z_aload_n (q := 168) 0 dX11_init_167 rfl rfl ?_
  refine z_gf (q := 171) (ki := 1) (v := (2, 2)) fX11_17 rfl (z_ldr rfl (by rw [w_na (by decide), w_na (by decide), w_na (by decide), w_na (by decide), w_na (by decide), w_na (by decide), w_na (by decide), w_na (by decide), w_na (by decide), w_na (by decide), w_na (by decide), w_na (by decide), w_na (by decide), w_na (by decide), w_na (by decide), w_na (by decide), w_na (by decide), w_na (by decide), w_na (by decide), w_na (by decide), w_na (by decide), w_na (by decide), w_na (by decide), w_na (by decide), w_na (by decide), w_na (by decide), w_na (by decide), w_na (by decide), w_na (by decide), w_na (by decide), w_na (by decide), w_na (by decide), w_na (by decide), w_na (by decide), w_na (by decide), w_na (by decide), w_na (by decide), w_na (by decide), w_na (by decide), w_na (by decide), w_na (by decide), w_na (by decide), w_na (by decide), w_na (by decide), w_na (by decide), w_na (by decide), w_na (by decide), w_na (by decide), w_na (by decide), w_na (by decide), w_na (by decide), w_na (by decide), w_na (by decide), w_nj (by decide), w_na (by decide), w_na (by decide), w_na (by decide), w_na (by decide), w_na (by decide), w_na (by decide), w_na (by decide), w_na (by decide), w_na (by decide), w_na (by decide), w_na (by decide), w_na (by decide), w_na (by decide), w_na (by decide), w_na (by decide), w_na (by decide), w_na (by decide), w_na (by decide), w_na (by decide), w_na (by decide), w_na (by decide), w_na (by decide), w_na (by decide), w_na (by decide), w_na (by decide), w_na (by decide), w_na (by decide), w_na (by decide), w_na (by decide), w_na (by decide), w_na (by decide), w_na (by decide), w_na (by decide), w_na (by decide), w_na (by decide), w_na (by decide), w_na (by decide), w_na (by decide), w_na (by decide), w_na (by decide), w_na (by decide), w_na (by decide), w_na (by decide), w_na (by decide), w_nj (by decide), w_na (by decide), w_na (by decide), w_nj (by decide), w_na (by decide), w_na (by decide), w_na (by decide), w_nj (by decide), w_na (by decide), w_na (by decide), w_na (by decide), w_na (by decide), w_na (by decide), w_na (by decide), w_na (by decide), w_na (by decide), w_na (by decide), w_nj (by decide), w_na (by decide), w_na (by decide), w_na (by decide), w_na (by decide), w_na (by decide), w_na (by decide), w_na (by decide), w_na (by decide), w_na (by decide), w_nj (by decide), w_na (by decide), w_na (by decide), w_na (by decide), w_na (by decide), w_na (by decide), w_na (by decide), w_nj (by decide), w_na (by decide), w_na (by decide), w_na (by decide), w_na (by decide), w_na (by decide), w_na (by decide), w_na (by decide), w_nj (by decide), w_na (by decide), w_na (by decide), w_na (by decide), w_na (by decide), w_na (by decide), w_na (by decide), w_nj (by decide), w_nj (by decide), w_nj (by decide), w_nj (by decide), w_s] <;> rfl)) (gI (by decide)) dX11_init_168 rfl ?_
  refine z_iload_n (q := 172) 1 dX11_init_171 rfl rfl ?_
  refine n_new (q := 175) (k := 86) cb7 k131 k207 k101 rfl f78 dX11_init_172 rfl ?_
  have f79 := f78.up (k' := 87) (by decide)
  refine z_dup (q := 176) (by decide) dX11_init_175 rfl ?_
  refine n_invN (q := 179) (d2 := d - 1) (rest := [(2, 86), (0, 7), (2, 2)]) (av := []) (by decide) (i_X9_86 (by omega) f79) mo_X9_init np_X9_init rfl k210 k305 k209 (by omega) rfl (nle rfl) dX11_init_176 rfl ?_
  have f80 := ((f79.up (k' := 88) (by decide)).w 86 0 87 (by decide)).w 86 1 0 (by decide)
  refine z_asn (q := 180) (n := 8) 55 (by decide) (by decide) (gI (by decide)) (gI (by decide)) (gN (by decide)) (by decide) (by decide) dX11_init_179 rfl ?_
  have f81 := f80.w 2 7 86 (by decide)
  refine z_iinc (q := 183) (L' := [(0, 2, 0), (1, 0, 8)]) 1 dX11_init_180 rfl rfl (by decide) rfl ?_
  refine z_goto (t := 148) dX11_init_183 (by decide) ?_
  refine z_iload_n (q := 149) 1 dX11_init_148 rfl rfl ?_
  refine z_bipush (q := 151) dX11_init_149 rfl (by decide) ?_
  refine z_icmp_ge (q := 154) (t := 186) ⟨by decide, by decide⟩ ⟨by decide, by decide⟩ dX11_init_151 (by decide) rfl (fun c => ?_) (fun c => absurd (by decide) c)
  exact z_vret rfl dX11_init_186 ⟨rfl, rfl, rfl⟩
