/-! making: the cells are made in the order of the layout; fresh rows hold what a new cell holds -/
def iB : zH := fun b j => match lay_t[b.toNat]? with
  | some q => if q.1 < 50 then z_dfv (z_ty q.1 j.toNat) else if q.1 < 54 then 0 else -1
  | none => 0
def gSl : Nat → Nat
  | 0 => 0
  | k + 1 => gSl k + (lay_t.getD k (0, 0)).2.toNat
def gL (k : Nat) : zG := (k, gSl k, (fun b => if 0 ≤ b ∧ b < (k : Int) then (lay_t.getD b.toNat (0, 0)).1 else 0), fun b => if 0 ≤ b ∧ b < (k : Int) then (lay_t.getD b.toNat (0, 0)).2 else 0)
def frI (k : Nat) (h : zH) : Prop := ∀ b : Int, (k : Int) ≤ b → h b = iB b
theorem frI.w {k : Nat} {h : zH} (f : frI k h) (a i v : Int) (ha : a < (k : Int)) : frI k (z_wr h a i v) := fun b hb => by
  rw [← f b hb]
  funext j
  exact w_na (by omega)
theorem frI.up {k k' : Nat} {h : zH} (f : frI k h) (hk : k ≤ k') : frI k' h := fun b hb => f b (by omega)
theorem gL_s {k t : Nat} {n : Int} (hk : lay_t[k]? = some (t, n)) (n0 : 0 ≤ n) : z_al (gL k) t n.toNat = gL (k + 1) := by
  have hg : lay_t.getD k (0, 0) = (t, n) := by rw [List.getD_eq_getElem?_getD, hk]; rfl
  unfold z_al gL
  refine Prod.ext rfl (Prod.ext ?_ (Prod.ext (funext fun b => ?_) (funext fun b => ?_)))
  · show gSl k + n.toNat = gSl k + (lay_t.getD k (0, 0)).2.toNat
    rw [hg]
  · show (if b = (k : Int) then t else if 0 ≤ b ∧ b < (k : Int) then (lay_t.getD b.toNat (0, 0)).1 else 0) = if 0 ≤ b ∧ b < ((k + 1 : Nat) : Int) then (lay_t.getD b.toNat (0, 0)).1 else 0
    by_cases z : b = (k : Int)
    · rw [if_pos z, if_pos (by omega), z, Int.toNat_natCast, hg]
    · rw [if_neg z]
      by_cases y : 0 ≤ b ∧ b < (k : Int)
      · rw [if_pos y, if_pos (by omega)]
      · rw [if_neg y, if_neg (by omega)]
  · show (if b = (k : Int) then (n.toNat : Int) else if 0 ≤ b ∧ b < (k : Int) then (lay_t.getD b.toNat (0, 0)).2 else 0) = if 0 ≤ b ∧ b < ((k + 1 : Nat) : Int) then (lay_t.getD b.toNat (0, 0)).2 else 0
    by_cases z : b = (k : Int)
    · rw [if_pos z, if_pos (by omega), z, Int.toNat_natCast, hg]
      exact Int.toNat_of_nonneg n0
    · rw [if_neg z]
      by_cases y : 0 ≤ b ∧ b < (k : Int)
      · rw [if_pos y, if_pos (by omega)]
      · rw [if_neg y, if_neg (by omega)]
theorem nw_id {h : zH} {a : Int} {f : Int → Int} (e : h a = f) : z_nw h a f = h := by
  funext b
  unfold z_nw
  by_cases z : b = a
  · rw [if_pos z, z, e]
  · rw [if_neg z]
theorem gI {k t : Nat} {a : Int} (h : (0 ≤ a ∧ a < (k : Int)) ∧ (lay_t.getD a.toNat (0, 0)).1 = t) : z_is (gL k) a t := ⟨h.1.1, h.1.2, (if_pos h.1).trans h.2⟩
theorem gN {k : Nat} {a n : Int} (h : (0 ≤ a ∧ a < (k : Int)) ∧ (lay_t.getD a.toNat (0, 0)).2 = n) : (gL k).2.2.2 a = n := (if_pos h.1).trans h.2
section InR
variable {D : zD} {M M2 : zM} {d d2 pc q k idx t : Nat} {L : List (Nat × zV)} {st rest av : List zV} {h : zH} {Q : zO → zG → zH → Prop}
theorem n_new {C : String} {T : u_T} {N : Nat} (hcb : z_cb t C T N) (h1 : Cond.classLink M.1.cls idx C ∈ zT) (h2 : Cond.instantiable C N ∈ zT) (h3 : Cond.initialized C ∈ zT) (hk : lay_t[k]? = some (t, (N : Int))) (f : frI k h) (hd : decode M.2.1 pc = .ok (.new idx, 3)) (hq : pc + 3 = q) (kk : z_F D M d q L ((2, (k : Int)) :: st) (gL (k + 1)) h Q) : z_F D M d pc L st (gL k) h Q := by
  refine z_new hcb h1 h2 h3 hd hq ?_
  have e1 := gL_s hk (Int.natCast_nonneg N)
  rw [Int.toNat_natCast] at e1
  rw [e1, nw_id]
  · exact kk
  · show h (k : Int) = _
    rw [f _ (Int.le_refl _)]
    funext j
    unfold iB
    rw [Int.toNat_natCast, hk]
    exact if_pos hcb.2.1
theorem n_newa {n : Int} {atype : ArrayType} (t : Nat) (h50 : 50 ≤ t) (h54 : t < 54) (hty : newarray.typeOf atype = z_ety t) (h1 : Cond.arrayClass (z_ety t) ∈ zT) (h0 : 0 ≤ n) (hn : n ≤ 60000000) (hk : lay_t[k]? = some (t, n)) (f : frI k h) (hd : decode M.2.1 pc = .ok (.newarray atype, 2)) (hq : pc + 2 = q) (kk : z_F D M d q L ((2, (k : Int)) :: st) (gL (k + 1)) h Q) : z_F D M d pc L ((0, n) :: st) (gL k) h Q := by
  refine z_newa t h50 h54 hty h1 h0 hn hd hq ?_
  rw [gL_s hk h0, nw_id]
  · exact kk
  · show h (k : Int) = _
    rw [f _ (Int.le_refl _)]
    funext j
    unfold iB
    rw [Int.toNat_natCast, hk]
    exact (if_neg (by show ¬ t < 50; omega)).trans (if_pos h54)
theorem n_anew {n : Int} {C : String} (t : Nat) (h54 : 54 ≤ t) (h57 : t < 57) (hty : z_ety t = .object C) (h1 : Cond.classLink M.1.cls idx C ∈ zT) (h2 : Cond.arrayOver (.object C) ∈ zT) (h0 : 0 ≤ n) (hn : n ≤ 60000000) (hk : lay_t[k]? = some (t, n)) (f : frI k h) (hd : decode M.2.1 pc = .ok (.anewarray idx, 3)) (hq : pc + 3 = q) (kk : z_F D M d q L ((2, (k : Int)) :: st) (gL (k + 1)) h Q) : z_F D M d pc L ((0, n) :: st) (gL k) h Q := by
  refine z_anew t h54 h57 hty h1 h2 h0 hn hd hq ?_
  rw [gL_s hk h0, nw_id]
  · exact kk
  · show h (k : Int) = _
    rw [f _ (Int.le_refl _)]
    funext j
    unfold iB
    rw [Int.toNat_natCast, hk]
    exact (if_neg (by show ¬ t < 50; omega)).trans (if_neg (by show ¬ t < 54; omega))
theorem z_pF {a x ki : Int} {kk : Nat} {G : zG} (hf : z_fl M.1.cls idx t k true) (hki : ((k : Nat) : Int) = ki) (hcls : ∀ C T N, z_cb t C T N → C = M.1.cls) (hnm : M.1.name = "<init>") (hs : z_sv kk (z_ty t k) x) (ha : z_is G a t) (hd : decode M.2.1 pc = .ok (.putfield idx, 3)) (hq : pc + 3 = q) (kn : z_F D M d q L st G (z_wr h a ki x) Q) : z_F D M d pc L ((kk, x) :: (2, a) :: st) G h Q := by
  subst hki
  exact z_putF hf hcls hnm hs ha hd hq kn
theorem n_inv {a : Int} {G G1 : zG} {h1 : zH} (ha : 0 ≤ a) (hc2 : z_C D M2 d2 ((2, a) :: av) G h (fun o G' h' => o = .inl none ∧ G' = G1 ∧ h' = h1)) (hm : z_mok M2) (hn : z_np M2 av.length) (hnm : M2.1.name = "<init>") (hrt : M2.2.2.2.1 = none) (hh : M2.2.2.2.2 = []) (hcode : Cond.code M2.1 M2.2.1 M2.2.2.1 none ∈ zT) (hlink : Cond.methodLink M.1.cls idx M2.1 ∈ zT) (hinst : Cond.instanceMethod M2.1 ∈ zT) (hdd : d2 + 1 ≤ d) (hst : st = ((2, a) :: av).reverse ++ rest) (hw : z_wid rest ≤ 20) (hd : decode M.2.1 pc = .ok (.invokespecial idx, 3)) (hq : pc + 3 = q) (kk : z_F D M d q L rest G1 h1 Q) : z_F D M d pc L st G h Q :=
  z_invI ha hc2 hm hn hnm hrt hh hcode hlink hinst hdd hst hw hd hq (fun r G' h' ⟨e, e1, e2⟩ => by cases e; rw [e1, e2]; exact kk) (fun a G' h' ⟨e, _, _⟩ => by cases e)
theorem n_invN {a : Int} {host : String} {G G1 : zG} {h1 : zH} (ha : 0 ≤ a) (hc2 : z_C D M2 d2 ((2, a) :: av) G h (fun o G' h' => o = .inl none ∧ G' = G1 ∧ h' = h1)) (hm : z_mok M2) (hn : z_np M2 av.length) (hnm : M2.1.name = "<init>") (hcode : Cond.code M2.1 M2.2.1 M2.2.2.1 none ∈ zT) (hlink : Cond.methodLinkNest M.1.cls idx M2.1 host ∈ zT) (hinst : Cond.instanceMethod M2.1 ∈ zT) (hdd : d2 + 1 ≤ d) (hst : st = ((2, a) :: av).reverse ++ rest) (hw : z_wid rest ≤ 20) (hd : decode M.2.1 pc = .ok (.invokespecial idx, 3)) (hq : pc + 3 = q) (kk : z_F D M d q L rest G1 h1 Q) : z_F D M d pc L st G h Q :=
  z_invIN ha hc2 hm hn hnm hcode hlink hinst hdd hst hw hd hq (fun r G' h' ⟨e, e1, e2⟩ => by cases e; rw [e1, e2]; exact kk) (fun a G' h' ⟨e, _, _⟩ => by cases e)
end InR
theorem hc0 : ∀ C T N, z_cb 0 C T N → C = RX1 := fun C T N q => (congrArg Prod.fst (Option.some.inj ((show zcl[0]? = some (RX1, TX1, 17) from rfl).symm.trans q.1))).symm
theorem hc1 : ∀ C T N, z_cb 1 C T N → C = RX2 := fun C T N q => (congrArg Prod.fst (Option.some.inj ((show zcl[1]? = some (RX2, TX2, 10) from rfl).symm.trans q.1))).symm
theorem hc2 : ∀ C T N, z_cb 2 C T N → C = RX3 := fun C T N q => (congrArg Prod.fst (Option.some.inj ((show zcl[2]? = some (RX3, TX3, 6) from rfl).symm.trans q.1))).symm
theorem hc3 : ∀ C T N, z_cb 3 C T N → C = RX4 := fun C T N q => (congrArg Prod.fst (Option.some.inj ((show zcl[3]? = some (RX4, TX4, 3) from rfl).symm.trans q.1))).symm
theorem hc4 : ∀ C T N, z_cb 4 C T N → C = RX5 := fun C T N q => (congrArg Prod.fst (Option.some.inj ((show zcl[4]? = some (RX5, TX5, 9) from rfl).symm.trans q.1))).symm
theorem hc5 : ∀ C T N, z_cb 5 C T N → C = RX7 := fun C T N q => (congrArg Prod.fst (Option.some.inj ((show zcl[5]? = some (RX7, TX7, 6) from rfl).symm.trans q.1))).symm
theorem hc6 : ∀ C T N, z_cb 6 C T N → C = RX8 := fun C T N q => (congrArg Prod.fst (Option.some.inj ((show zcl[6]? = some (RX8, TX8, 3) from rfl).symm.trans q.1))).symm
theorem hc7 : ∀ C T N, z_cb 7 C T N → C = RX9 := fun C T N q => (congrArg Prod.fst (Option.some.inj ((show zcl[7]? = some (RX9, TX9, 2) from rfl).symm.trans q.1))).symm
theorem hc8 : ∀ C T N, z_cb 8 C T N → C = RX10 := fun C T N q => (congrArg Prod.fst (Option.some.inj ((show zcl[8]? = some (RX10, TX10, 11) from rfl).symm.trans q.1))).symm
theorem hc9 : ∀ C T N, z_cb 9 C T N → C = RX11 := fun C T N q => (congrArg Prod.fst (Option.some.inj ((show zcl[9]? = some (RX11, TX11, 14) from rfl).symm.trans q.1))).symm
theorem hc10 : ∀ C T N, z_cb 10 C T N → C = RX12 := fun C T N q => (congrArg Prod.fst (Option.some.inj ((show zcl[10]? = some (RX12, TX12, 6) from rfl).symm.trans q.1))).symm
theorem hc11 : ∀ C T N, z_cb 11 C T N → C = RX13 := fun C T N q => (congrArg Prod.fst (Option.some.inj ((show zcl[11]? = some (RX13, TX13, 43) from rfl).symm.trans q.1))).symm
/-! the throwable's makers -/
def M_EI : zM := (⟨"java/lang/Exception", "<init>", "(Ljava/lang/String;Ljava/lang/Throwable;ZZ)V"⟩, prog_18_method_5_code, 5, none, [])
def M_TI : zM := (⟨"java/lang/Throwable", "<init>", "(Ljava/lang/String;Ljava/lang/Throwable;ZZ)V"⟩, prog_24_method_5_code, 5, none, [])
theorem mo_EI : z_mok M_EI := ⟨by decide +kernel, by decide, ⟨by decide +kernel, by decide +kernel⟩, k108, Or.inl ⟨rfl, k1139⟩⟩
theorem np_EI : z_np M_EI 4 := by unfold z_np; decide +kernel
theorem mo_TI : z_mok M_TI := ⟨by decide +kernel, by decide, ⟨by decide +kernel, by decide +kernel⟩, k107, Or.inl ⟨rfl, k1142⟩⟩
theorem np_TI : z_np M_TI 4 := by unfold z_np; decide +kernel
theorem dE0 : decode prog_18_method_5_code 0 = .ok (.aload_n 0, 1) := by decide +kernel
theorem dE1 : decode prog_18_method_5_code 1 = .ok (.aload_n 1, 1) := by decide +kernel
theorem dE2 : decode prog_18_method_5_code 2 = .ok (.aload_n 2, 1) := by decide +kernel
theorem dE3 : decode prog_18_method_5_code 3 = .ok (.iload_n 3, 1) := by decide +kernel
theorem dE4 : decode prog_18_method_5_code 4 = .ok (.iload 4, 2) := by decide +kernel
theorem dE6 : decode prog_18_method_5_code 6 = .ok (.invokespecial 16, 3) := by decide +kernel
theorem dE9 : decode prog_18_method_5_code 9 = .ok (.return_, 1) := by decide +kernel
theorem dT0 : decode prog_24_method_5_code 0 = .ok (.aload_n 0, 1) := by decide +kernel
theorem dT1 : decode prog_24_method_5_code 1 = .ok (.invokespecial 1, 3) := by decide +kernel
theorem dT4 : decode prog_24_method_5_code 4 = .ok (.aload_n 0, 1) := by decide +kernel
theorem dT5 : decode prog_24_method_5_code 5 = .ok (.aload_n 0, 1) := by decide +kernel
theorem dT6 : decode prog_24_method_5_code 6 = .ok (.putfield 7, 3) := by decide +kernel
theorem dT9 : decode prog_24_method_5_code 9 = .ok (.aload_n 0, 1) := by decide +kernel
theorem dT10 : decode prog_24_method_5_code 10 = .ok (.getstatic 13, 3) := by decide +kernel
theorem dT13 : decode prog_24_method_5_code 13 = .ok (.putfield 17, 3) := by decide +kernel
theorem dT16 : decode prog_24_method_5_code 16 = .ok (.aload_n 0, 1) := by decide +kernel
theorem dT17 : decode prog_24_method_5_code 17 = .ok (.getstatic 20, 3) := by decide +kernel
theorem dT20 : decode prog_24_method_5_code 20 = .ok (.putfield 24, 3) := by decide +kernel
theorem dT23 : decode prog_24_method_5_code 23 = .ok (.iload 4, 2) := by decide +kernel
theorem dT25 : decode prog_24_method_5_code 25 = .ok (.ifCond .eq 11, 3) := by decide +kernel
theorem dT36 : decode prog_24_method_5_code 36 = .ok (.aload_n 0, 1) := by decide +kernel
theorem dT37 : decode prog_24_method_5_code 37 = .ok (.aconst_null, 1) := by decide +kernel
theorem dT38 : decode prog_24_method_5_code 38 = .ok (.putfield 17, 3) := by decide +kernel
theorem dT41 : decode prog_24_method_5_code 41 = .ok (.aload_n 0, 1) := by decide +kernel
theorem dT42 : decode prog_24_method_5_code 42 = .ok (.aload_n 1, 1) := by decide +kernel
theorem dT43 : decode prog_24_method_5_code 43 = .ok (.putfield 31, 3) := by decide +kernel
theorem dT46 : decode prog_24_method_5_code 46 = .ok (.aload_n 0, 1) := by decide +kernel
theorem dT47 : decode prog_24_method_5_code 47 = .ok (.aload_n 2, 1) := by decide +kernel
theorem dT48 : decode prog_24_method_5_code 48 = .ok (.putfield 7, 3) := by decide +kernel
theorem dT51 : decode prog_24_method_5_code 51 = .ok (.iload_n 3, 1) := by decide +kernel
theorem dT52 : decode prog_24_method_5_code 52 = .ok (.ifCond .ne 8, 3) := by decide +kernel
theorem dT55 : decode prog_24_method_5_code 55 = .ok (.aload_n 0, 1) := by decide +kernel
theorem dT56 : decode prog_24_method_5_code 56 = .ok (.aconst_null, 1) := by decide +kernel
theorem dT57 : decode prog_24_method_5_code 57 = .ok (.putfield 24, 3) := by decide +kernel
theorem dT60 : decode prog_24_method_5_code 60 = .ok (.return_, 1) := by decide +kernel
theorem fT_7 : z_fl "java/lang/Throwable" 7 10 0 false := ⟨_, _, _, cb10, by decide, k1145, rfl, fun q => absurd q (by decide)⟩
theorem fT_17 : z_fl "java/lang/Throwable" 17 10 1 false := ⟨_, _, _, cb10, by decide, k1146, rfl, fun q => absurd q (by decide)⟩
theorem fT_24 : z_fl "java/lang/Throwable" 24 10 2 false := ⟨_, _, _, cb10, by decide, k1147, rfl, fun q => absurd q (by decide)⟩
theorem fT_31 : z_fl "java/lang/Throwable" 31 10 3 false := ⟨_, _, _, cb10, by decide, k1144, rfl, fun q => absurd q (by decide)⟩
section Thr
variable {D : zD} {d k : Nat} {G : zG} {h : zH}
theorem i_TI (hd : 1 ≤ d) {a : Int} (ia : z_is G a 10) (e0 : h a 0 = -1) (e1 : h a 1 = -1) (e2 : h a 2 = -1) (e3 : h a 3 = -1) : z_C D M_TI d [(2, a), (2, (-1)), (2, (-1)), (0, 0), (0, 0)] G h (fun o G' h' => o = .inl none ∧ G' = G ∧ h' = h) := by
  refine z_enter mo_TI (L := [(0, 2, a), (1, 2, (-1)), (2, 2, (-1)), (3, 0, 0), (4, 0, 0)]) rfl (nle rfl) ?_
  refine z_aload_n (q := 1) 0 dT0 rfl rfl ?_
  refine z_objInit (q := 4) ia.1 k1120 k127 k128 (by omega) (nle rfl) dT1 rfl ?_
  refine z_aload_n (q := 5) 0 dT4 rfl rfl ?_
  refine z_aload_n (q := 6) 0 dT5 rfl rfl ?_
  refine z_pf (q := 9) (ki := 0) fT_7 rfl (z_sv2 rfl) ia dT6 rfl ?_
  refine z_aload_n (q := 10) 0 dT9 rfl rfl ?_
  refine z_getr (q := 13) (c := 51) (by decide) (by decide) k1121 dT10 rfl ?_
  refine z_pf (q := 16) (ki := 1) fT_17 rfl (z_sv2 rfl) ia dT13 rfl ?_
  refine z_aload_n (q := 17) 0 dT16 rfl rfl ?_
  refine z_getr (q := 20) (c := 52) (by decide) (by decide) k1123 dT17 rfl ?_
  refine z_pf (q := 23) (ki := 2) fT_24 rfl (z_sv2 rfl) ia dT20 rfl ?_
  refine z_iload (q := 25) 4 dT23 rfl rfl ?_
  refine z_if_eq (q := 28) (t := 36) ⟨by decide, by decide⟩ dT25 (by decide) rfl (fun _ => ?_) (fun c => absurd rfl c)
  refine z_aload_n (q := 37) 0 dT36 rfl rfl ?_
  refine z_null (q := 38) dT37 rfl ?_
  refine z_pf (q := 41) (ki := 1) fT_17 rfl (z_sv2 rfl) ia dT38 rfl ?_
  refine z_aload_n (q := 42) 0 dT41 rfl rfl ?_
  refine z_aload_n (q := 43) 1 dT42 rfl rfl ?_
  refine z_pf (q := 46) (ki := 3) fT_31 rfl (z_sv2 rfl) ia dT43 rfl ?_
  refine z_aload_n (q := 47) 0 dT46 rfl rfl ?_
  refine z_aload_n (q := 48) 2 dT47 rfl rfl ?_
  refine z_pf (q := 51) (ki := 0) fT_7 rfl (z_sv2 rfl) ia dT48 rfl ?_
  refine z_iload_n (q := 52) 3 dT51 rfl rfl ?_
  refine z_if_ne (q := 55) (t := 60) ⟨by decide, by decide⟩ dT52 (by decide) rfl (fun c => absurd rfl c) (fun _ => ?_)
  refine z_aload_n (q := 56) 0 dT55 rfl rfl ?_
  refine z_null (q := 57) dT56 rfl ?_
  refine z_pf (q := 60) (ki := 2) fT_24 rfl (z_sv2 rfl) ia dT57 rfl ?_
  refine z_vret rfl dT60 ⟨rfl, rfl, ?_⟩
  funext b j
  by_cases z : b = a
  · subst z
    by_cases z2 : j = 2
    · rw [z2, w_s]; exact e2.symm
    · rw [w_nj z2]
      by_cases z0 : j = 0
      · rw [z0, w_s]; exact e0.symm
      · rw [w_nj z0]
        by_cases z3 : j = 3
        · rw [z3, w_s]; exact e3.symm
        · rw [w_nj z3]
          by_cases z1 : j = 1
          · rw [z1, w_s]; exact e1.symm
          · rw [w_nj z1, w_nj z2, w_nj z1, w_nj z0]
  · rw [w_na z, w_na z, w_na z, w_na z, w_na z, w_na z, w_na z]
theorem i_EI (hd : 2 ≤ d) {a : Int} (ia : z_is G a 10) (e0 : h a 0 = -1) (e1 : h a 1 = -1) (e2 : h a 2 = -1) (e3 : h a 3 = -1) : z_C D M_EI d [(2, a), (2, (-1)), (2, (-1)), (0, 0), (0, 0)] G h (fun o G' h' => o = .inl none ∧ G' = G ∧ h' = h) := by
  refine z_enter mo_EI (L := [(0, 2, a), (1, 2, (-1)), (2, 2, (-1)), (3, 0, 0), (4, 0, 0)]) rfl (nle rfl) ?_
  refine z_aload_n (q := 1) 0 dE0 rfl rfl ?_
  refine z_aload_n (q := 2) 1 dE1 rfl rfl ?_
  refine z_aload_n (q := 3) 2 dE2 rfl rfl ?_
  refine z_iload_n (q := 4) 3 dE3 rfl rfl ?_
  refine z_iload (q := 6) 4 dE4 rfl rfl ?_
  refine n_inv (q := 9) (d2 := d - 1) (rest := []) (av := [(2, (-1)), (2, (-1)), (0, 0), (0, 0)]) ia.1 (i_TI (by omega) ia e0 e1 e2 e3) mo_TI np_TI rfl rfl rfl k1142 k1140 k1141 (by omega) rfl (nle rfl) dE6 rfl ?_
  exact z_vret rfl dE9 ⟨rfl, rfl, rfl⟩
theorem i_X12 (hd : 3 ≤ d) {a : Int} (ia : z_is G a 10) (e0 : h a 0 = -1) (e1 : h a 1 = -1) (e2 : h a 2 = -1) (e3 : h a 3 = -1) : z_C D M_X12_init d [(2, a)] G h (fun o G' h' => o = .inl none ∧ G' = G ∧ h' = h) := by
  refine z_enter mo_X12_init (L := [(0, 2, a)]) rfl (nle rfl) ?_
  refine z_aload_n (q := 1) 0 dX12_init_0 rfl rfl ?_
  refine z_null (q := 2) dX12_init_1 rfl ?_
  refine z_null (q := 3) dX12_init_2 rfl ?_
  refine z_iconst (q := 4) dX12_init_3 rfl ?_
  refine z_iconst (q := 5) dX12_init_4 rfl ?_
  refine n_inv (q := 8) (d2 := d - 1) (rest := []) (av := [(2, (-1)), (2, (-1)), (0, 0), (0, 0)]) ia.1 (i_EI (by omega) ia e0 e1 e2 e3) mo_EI np_EI rfl rfl rfl k1139 k1137 k1138 (by omega) rfl (nle rfl) dX12_init_5 rfl ?_
  exact z_vret rfl dX12_init_8 ⟨rfl, rfl, rfl⟩
end Thr
