section Call
variable {D : zD} {M M2 : zM} {d d2 pc q t idx k : Nat} {L : List (Nat × zV)} {st av rest : List zV} {G G1 : zG} {h h1 : zH} {o : zO} {Q Q2 : zO → zG → zH → Prop}
theorem z_catsum (D : zD) : ∀ rest : List zV, ((z_sc D rest).map fun v => v.category).sum = z_wid rest
  | [] => rfl
  | v :: vs => by
    have ih := z_catsum D vs
    show (z_v D v.1 v.2).category + ((z_sc D vs).map fun v => v.category).sum = (if v.1 = 1 then 2 else 1) + z_wid vs
    rw [ih]
    by_cases e : v.1 = 1
    · rw [if_pos e, (z_cat2 D v.1 v.2).mpr e]
    · rw [if_neg e, z_cat1 D e]
theorem z_callG {ig : Instr} (hc2 : z_C D M2 d2 av G h Q2) (hm : z_mok M2) (hdd : d2 + 1 ≤ d) (hw : z_wid rest ≤ 20) (hd : decode M.2.1 pc = .ok (ig, 3)) (hq : pc + 3 = q)
    (hs : ∀ {p l e R s m args below meth c T locs cells slots ls}, z_cx D M d p l e R s m args below meth c → z_rep D G h T.heap → lv_has ls M.2.2.1 (z_lc D L) → Stand p l e R s m args below meth c T locs cells slots →
      ∃ vm₁ mk, Stand p l e R s m args below meth c (T.setVm vm₁) locs cells slots ∧ (T.setVm vm₁).methodNamed? M2.1 = some mk ∧
        ∀ target, Steps p.tables e below (doInvoke e ((T.setVm vm₁).setTop { (F0 m pc ls (z_sc D st)) with stack := z_sc D rest }) [] mk (z_sc D av).toArray).1 target → Steps p.tables e below (T.setTop (F0 m pc ls (z_sc D st))) target)
    (kr : ∀ r G1 h1, Q2 (.inl r) G1 h1 → z_F D M d q L (r.toList ++ rest) G1 h1 Q) (kt : ∀ a G1 h1, Q2 (.inr a) G1 h1 → z_T D M d pc L rest G1 h1 a Q) : z_F D M d pc L st G h Q := by
  subst hq
  obtain ⟨o, G1, h1, hQ2, hE⟩ := hc2
  have l1 := hE.1
  have l2 := hE.2.1
  cases o with
  | inl r =>
    obtain ⟨o', G', h', hQ, e1, e2, hk⟩ := kr r G1 h1 hQ2
    refine ⟨o', G', h', hQ, by omega, by omega, ?_⟩
    intro p l e R s m args below meth c H locs cells slots ls cx hc hsl hlo hr hl T hT X
    subst hT
    obtain ⟨vm₁, mk, X₁, hn, hstep⟩ := hs cx hr hl X
    obtain ⟨T', L', X', hr', hL', hst⟩ := z_inv X₁ cx hE hm hdd hr (g := { (F0 m pc ls (z_sc D st)) with stack := z_sc D rest }) rfl (by show ls.size = _; rw [hl.1, cx.2.2.1]) (by rw [cx.2.1]; exact hd) (by show 2 * 0 + _ ≤ 20; rw [z_catsum]; omega) hn (by omega) (by omega)
    have b1 : cells + (G1.1 - G.1) + (G'.1 - G1.1) = cells + (G'.1 - G.1) := by omega
    have b2 : slots + (G1.2.1 - G.2.1) + (G'.2.1 - G1.2.1) = slots + (G'.2.1 - G.2.1) := by omega
    obtain ⟨t, a1, a2⟩ := hk p l e R s m args below meth c T'.heap (locs ++ L') (cells + (G1.1 - G.1)) (slots + (G1.2.1 - G.2.1)) ls cx (by omega) (by omega) (fun q hq => (List.mem_append.mp hq).elim (hlo q) (hL' q)) hr' hl T' rfl X'
    rw [b1, b2] at a2
    refine ⟨t, hstep t (hst.trans ?_), a2⟩
    have ee : z_sc D (r.toList ++ rest) = z_sc D r.toList ++ z_sc D rest := List.map_append
    rw [ee] at a1
    exact a1
  | inr a =>
    obtain ⟨o', G', h', hQ, e1, e2, hk⟩ := kt a G1 h1 hQ2
    refine ⟨o', G', h', hQ, by omega, by omega, ?_⟩
    intro p l e R s m args below meth c H locs cells slots ls cx hc hsl hlo hr hl T hT X
    subst hT
    obtain ⟨vm₁, mk, X₁, hn, hstep⟩ := hs cx hr hl X
    obtain ⟨T', L', X', hr', hL', hst⟩ := z_inv X₁ cx hE hm hdd hr (g := { (F0 m pc ls (z_sc D st)) with stack := z_sc D rest }) rfl (by show ls.size = _; rw [hl.1, cx.2.2.1]) (by rw [cx.2.1]; exact hd) (by show 2 * 0 + _ ≤ 20; rw [z_catsum]; omega) hn (by omega) (by omega)
    have b1 : cells + (G1.1 - G.1) + (G'.1 - G1.1) = cells + (G'.1 - G.1) := by omega
    have b2 : slots + (G1.2.1 - G.2.1) + (G'.2.1 - G1.2.1) = slots + (G'.2.1 - G.2.1) := by omega
    obtain ⟨t, a1, a2⟩ := hk p l e R s m args below meth c T' (locs ++ L') (cells + (G1.1 - G.1)) (slots + (G1.2.1 - G.2.1)) ls cx (by omega) (by omega) (fun q hq => (List.mem_append.mp hq).elim (hlo q) (hL' q)) hr' hl X'
    rw [b1, b2] at a2
    exact ⟨t, hstep t (hst.trans a1), a2⟩
theorem z_rev (D : zD) (av rest : List zV) : z_sc D (av.reverse ++ rest) = (z_sc D av).reverse ++ z_sc D rest := by
  simp [z_sc, List.map_append, List.map_reverse]
def z_np (M : zM) (n : Nat) : Prop := (parseMethodDescriptor M.1.desc).map (fun d => d.parameters.length) = some n
theorem z_np.len {M : zM} {n : Nat} (hn : z_np M n) {sig : MethodDescriptor} (h : parseMethodDescriptor M.1.desc = some sig) : n = sig.parameters.length := by
  unfold z_np at hn
  rw [h] at hn
  exact (Option.some.inj hn).symm
theorem z_invS (hc2 : z_C D M2 d2 av G h Q2) (hm : z_mok M2) (hn : z_np M2 av.length) (hlink : Cond.methodLink M.1.cls idx M2.1 ∈ zT) (hstat : Cond.static M2.1 ∈ zT) (hdd : d2 + 1 ≤ d) (hst : st = av.reverse ++ rest) (hw : z_wid rest ≤ 20) (hd : decode M.2.1 pc = .ok (.invokestatic idx, 3)) (hq : pc + 3 = q)
    (kr : ∀ r G1 h1, Q2 (.inl r) G1 h1 → z_F D M d q L (r.toList ++ rest) G1 h1 Q) (kt : ∀ a G1 h1, Q2 (.inr a) G1 h1 → z_T D M d pc L rest G1 h1 a Q) : z_F D M d pc L st G h Q := by
  subst hst
  refine z_callG hc2 hm hdd hw hd hq (fun {p l e R s m args below meth c T locs cells slots ls} cx hr hl X => ?_) kr kt
  obtain ⟨mk, methM, cM, hnamed, hmethM, -, -, -, -, -, -, hsigM⟩ := hm.spec cx.hts
  have hstatic : methM.isStatic = true := Cond.static_spec hnamed hmethM (cx.hts _ hstat)
  obtain ⟨kP, hkP, -⟩ := className_of_methodNamed hnamed
  have hinitP : kP.init = .initialized := Cond.initialized_spec (findClass_of_methodNamed hnamed) hkP (cx.hts _ hm.2.2.2.1)
  obtain ⟨vm₁, X₁, hstep₁⟩ := X.invokestatic cx.1 cx.own (cx.hts _ hlink) hnamed hmethM hstatic hkP hinitP hm.2.2.1 (g := F0 m pc ls (z_sc D (av.reverse ++ rest))) rfl (argsL := z_sc D av) (rest := z_sc D rest) (by rw [show (z_sc D av).length = av.length by simp [z_sc]]; exact hn.len hsigM) (z_rev D av rest) (by rw [cx.2.1]; exact hd)
  exact ⟨vm₁, mk, X₁, X₁.named hnamed, fun target ht => hstep₁ target fun acts => by rw [doInvoke_state]; exact ht⟩
theorem z_invSN {host : String} (hc2 : z_C D M2 d2 av G h Q2) (hm : z_mok M2) (hn : z_np M2 av.length) (hlink : Cond.methodLinkNest M.1.cls idx M2.1 host ∈ zT) (hstat : Cond.static M2.1 ∈ zT) (hdd : d2 + 1 ≤ d) (hst : st = av.reverse ++ rest) (hw : z_wid rest ≤ 20) (hd : decode M.2.1 pc = .ok (.invokestatic idx, 3)) (hq : pc + 3 = q)
    (kr : ∀ r G1 h1, Q2 (.inl r) G1 h1 → z_F D M d q L (r.toList ++ rest) G1 h1 Q) (kt : ∀ a G1 h1, Q2 (.inr a) G1 h1 → z_T D M d pc L rest G1 h1 a Q) : z_F D M d pc L st G h Q := by
  subst hst
  refine z_callG hc2 hm hdd hw hd hq (fun {p l e R s m args below meth c T locs cells slots ls} cx hr hl X => ?_) kr kt
  obtain ⟨mk, methM, cM, hnamed, hmethM, -, -, -, -, -, -, hsigM⟩ := hm.spec cx.hts
  have hstatic : methM.isStatic = true := Cond.static_spec hnamed hmethM (cx.hts _ hstat)
  obtain ⟨kP, hkP, -⟩ := className_of_methodNamed hnamed
  have hinitP : kP.init = .initialized := Cond.initialized_spec (findClass_of_methodNamed hnamed) hkP (cx.hts _ hm.2.2.2.1)
  obtain ⟨vm₁, X₁, hstep₁⟩ := X.invokestaticNest cx.1 cx.own (cx.hts _ hlink) hnamed hmethM hstatic hkP hinitP hm.2.2.1 (g := F0 m pc ls (z_sc D (av.reverse ++ rest))) rfl (argsL := z_sc D av) (rest := z_sc D rest) (by rw [show (z_sc D av).length = av.length by simp [z_sc]]; exact hn.len hsigM) (z_rev D av rest) (by rw [cx.2.1]; exact hd)
  exact ⟨vm₁, mk, X₁, X₁.named hnamed, fun target ht => hstep₁ target fun acts => by rw [doInvoke_state]; exact ht⟩
theorem z_rev2 (D : zD) {a : Int} (ha : 0 ≤ a) (av rest : List zV) : z_sc D (((2, a) :: av).reverse ++ rest) = (z_sc D av).reverse ++ .ref (z_ad D a) :: z_sc D rest := by
  rw [z_rev, z_ad_ref ha]
  simp
theorem z_invV {a : Int} {C : String} {T : u_T} {N : Nat} (hcb : zcl[t]? = some (C, T, N)) (ht : t < 50) (ha : z_is G a t) (hc2 : z_C D M2 d2 ((2, a) :: av) G h Q2) (hm : z_mok M2) (hn : z_np M2 av.length) (hlink : Cond.methodLink M.1.cls idx M2.1 ∈ zT) (hinst : Cond.instanceMethod M2.1 ∈ zT) (hsel : Cond.selects C M2.1 M2.1 ∈ zT) (hdd : d2 + 1 ≤ d) (hst : st = ((2, a) :: av).reverse ++ rest) (hw : z_wid rest ≤ 20) (hd : decode M.2.1 pc = .ok (.invokevirtual idx, 3)) (hq : pc + 3 = q)
    (kr : ∀ r G1 h1, Q2 (.inl r) G1 h1 → z_F D M d q L (r.toList ++ rest) G1 h1 Q) (kt : ∀ a G1 h1, Q2 (.inr a) G1 h1 → z_T D M d pc L rest G1 h1 a Q) : z_F D M d pc L st G h Q := by
  subst hst
  refine z_callG hc2 hm hdd hw hd hq (fun {p l e R s m args below meth c U locs cells slots ls} cx hr hl X => ?_) kr kt
  obtain ⟨cell, c1, c2⟩ := hr.at ha
  unfold z_cell at c2
  rw [if_pos ht] at c2
  obtain ⟨r, r1, r2, r3, -⟩ := c2
  cases hcb.symm.trans r1
  have hcls := (cx.K.1 t _ hcb).2
  obtain ⟨mk, methM, hnamed, hmethM, hstM, habM⟩ := Cond.instanceMethod_spec (cx.hts _ hinst)
  obtain ⟨mk', methM', cM, hnamed', hmethM', -, -, -, -, -, -, hsigM⟩ := hm.spec cx.hts
  cases hnamed.symm.trans hnamed'
  cases hmethM.symm.trans hmethM'
  obtain ⟨c2, r2', m2, q1, q2, q3, q4, kP, hkP, hkPi⟩ := Cond.selects_spec (cx.hts _ hsel)
  have hcc : c2 = cell.cls := by rw [r2]; exact Option.some.inj (q1.symm.trans hcls.1)
  subst hcc
  cases (State.methodFound?_of_named hnamed hm.2.2.1).symm.trans q2
  cases hnamed.symm.trans q3
  have hselP : selectMethod e.platform s.vm cell.cls mk = .method mk := by rw [Launch.admits_selectMethod X.admits]; exact q4
  obtain ⟨vm₁, X₁, hstep₁⟩ := X.invokevirtual cx.1 cx.own (cx.hts _ hlink) hnamed hmethM hstM hkP hkPi hm.2.2.1 (a := z_ad D a) (cell := cell) c1
    (fun z hz => by rw [r3] at hz; cases hz) hselP hmethM habM hkP hkPi (g := F0 m pc ls (z_sc D (((2, a) :: av).reverse ++ rest))) rfl (argsL := z_sc D av) (rest := z_sc D rest) (by rw [show (z_sc D av).length = av.length by simp [z_sc]]; exact hn.len hsigM) (z_rev2 D ha.1 av rest) (by rw [cx.2.1]; exact hd)
  refine ⟨vm₁, mk, X₁, X₁.named hnamed, fun target ht => hstep₁ target fun acts => ?_⟩
  rw [doInvoke_state]
  rw [z_ad_ref ha.1] at ht
  exact ht
theorem z_invI {a : Int} (ha : 0 ≤ a) (hc2 : z_C D M2 d2 ((2, a) :: av) G h Q2) (hm : z_mok M2) (hn : z_np M2 av.length) (h1 : M2.1.name = "<init>") (hrt : M2.2.2.2.1 = none) (hh : M2.2.2.2.2 = []) (hcode : Cond.code M2.1 M2.2.1 M2.2.2.1 none ∈ zT) (hlink : Cond.methodLink M.1.cls idx M2.1 ∈ zT) (hinst : Cond.instanceMethod M2.1 ∈ zT) (hdd : d2 + 1 ≤ d) (hst : st = ((2, a) :: av).reverse ++ rest) (hw : z_wid rest ≤ 20) (hd : decode M.2.1 pc = .ok (.invokespecial idx, 3)) (hq : pc + 3 = q)
    (kr : ∀ r G1 h1, Q2 (.inl r) G1 h1 → z_F D M d q L (r.toList ++ rest) G1 h1 Q) (kt : ∀ a G1 h1, Q2 (.inr a) G1 h1 → z_T D M d pc L rest G1 h1 a Q) : z_F D M d pc L st G h Q := by
  subst hst
  refine z_callG hc2 hm hdd hw hd hq (fun {p l e R s m args below meth c U locs cells slots ls} cx hr hl X => ?_) kr kt
  have hpl : e.platform.magicAccessors = ({} : Platform).magicAccessors := by rw [X.admits.platform]
  obtain ⟨mk, methM, cM, kP, vm₁, hnamed, hmethM, hcodeM, -, hlocalsM, -, hkP, -, hW₁, hstep₁⟩ := Steps.initColdArgs (e := e) X.here cx.1 X.warmed hpl cx.own h1 hm.2.2.1 (cx.hts _ hlink) (cx.hts _ hinst) (cx.hts _ hcode) (f := F0 m pc ls (z_sc D (((2, a) :: av).reverse ++ rest))) rfl (argsL := z_sc D av) (rest := z_sc D rest) (fun sig hs => by rw [show (z_sc D av).length = av.length by simp [z_sc]]; exact hn.len hs) (z_rev2 D ha av rest) (by rw [cx.2.1]; exact hd)
  have X₁ := X.noted hW₁
  refine ⟨vm₁, mk, X₁, X₁.named hnamed, fun target ht => hstep₁ target fun acts => ?_⟩
  rw [doInvoke_state]
  rw [z_ad_ref ha] at ht
  exact ht
theorem z_invIN {a : Int} {host : String} (ha : 0 ≤ a) (hc2 : z_C D M2 d2 ((2, a) :: av) G h Q2) (hm : z_mok M2) (hn : z_np M2 av.length) (h1 : M2.1.name = "<init>") (hcode : Cond.code M2.1 M2.2.1 M2.2.2.1 none ∈ zT) (hlink : Cond.methodLinkNest M.1.cls idx M2.1 host ∈ zT) (hinst : Cond.instanceMethod M2.1 ∈ zT) (hdd : d2 + 1 ≤ d) (hst : st = ((2, a) :: av).reverse ++ rest) (hw : z_wid rest ≤ 20) (hd : decode M.2.1 pc = .ok (.invokespecial idx, 3)) (hq : pc + 3 = q)
    (kr : ∀ r G1 h1, Q2 (.inl r) G1 h1 → z_F D M d q L (r.toList ++ rest) G1 h1 Q) (kt : ∀ a G1 h1, Q2 (.inr a) G1 h1 → z_T D M d pc L rest G1 h1 a Q) : z_F D M d pc L st G h Q := by
  subst hst
  refine z_callG hc2 hm hdd hw hd hq (fun {p l e R s m args below meth c U locs cells slots ls} cx hr hl X => ?_) kr kt
  have hpl : e.platform.magicAccessors = ({} : Platform).magicAccessors := by rw [X.admits.platform]
  obtain ⟨mk, methM, cM, kP, vm₁, hnamed, hmethM, hcodeM, -, hlocalsM, -, hkP, -, hW₁, hstep₁⟩ := Steps.initColdArgsNest (e := e) X.here cx.1 X.warmed hpl cx.own h1 hm.2.2.1 (cx.hts _ hlink) (cx.hts _ hinst) (cx.hts _ hcode) (f := F0 m pc ls (z_sc D (((2, a) :: av).reverse ++ rest))) rfl (argsL := z_sc D av) (rest := z_sc D rest) (fun sig hs => by rw [show (z_sc D av).length = av.length by simp [z_sc]]; exact hn.len hs) (z_rev2 D ha av rest) (by rw [cx.2.1]; exact hd)
  have X₁ := X.noted hW₁
  refine ⟨vm₁, mk, X₁, X₁.named hnamed, fun target ht => hstep₁ target fun acts => ?_⟩
  rw [doInvoke_state]
  rw [z_ad_ref ha] at ht
  exact ht
theorem z_objInit {a : Int} (ha : 0 ≤ a) (h1 : Cond.methodLink M.1.cls idx objectInit ∈ zT) (h2 : Cond.instanceMethod objectInit ∈ zT) (h3 : Cond.code objectInit ⟨#[0xb1]⟩ 1 none ∈ zT) (hdd : 1 ≤ d) (hw : z_wid st ≤ 20) (hd : decode M.2.1 pc = .ok (.invokespecial idx, 3)) (hq : pc + 3 = q) (kk : z_F D M d q L st G h Q) : z_F D M d pc L ((2, a) :: st) G h Q := by
  subst hq
  refine z_pure (fun {p l e R s m args below meth c H locs cells slots ls Qw} cx hr hl kk => ?_) kk
  rw [z_ad_ref ha]
  have hf := cx.2.2.2.2.2.2.2.2.2.2.1
  have hlo := cx.2.2.2.2.2.2.2.2.2.2.2
  exact W.objInit cx.1 cx.2.1 cx.own (cx.hts _ h1) (cx.hts _ h2) (cx.hts _ h3) rfl (by show ls.size = _; rw [hl.1, cx.2.2.1]) rfl hd (by omega) (by show 2 * 0 + _ + 12 ≤ _; rw [z_catsum]; omega) (kk _ hl)
end Call
