section Thr
variable {D : zD} {M M2 : zM} {d d2 pc q t idx k : Nat} {L : List (Nat × zV)} {st av rest : List zV} {G G1 : zG} {h h1 : zH} {o : zO} {Q Q2 : zO → zG → zH → Prop}
/-- a note 'throwing a' lies over the method's frame at pc -/
def z_T (D : zD) (M : zM) (d pc : Nat) (L : List (Nat × zV)) (st : List zV) (G : zG) (h : zH) (a : Int) (Q : zO → zG → zH → Prop) : Prop := ∃ o G' h', Q o G' h' ∧ G.1 ≤ G'.1 ∧ G.2.1 ≤ G'.2.1 ∧ ∀ p l e R s m args below meth c T locs cells slots ls,
    z_cx D M d p l e R s m args below meth c → cells + (G'.1 - G.1) ≤ R.cells → slots + (G'.2.1 - G.2.1) ≤ R.slots → (∀ q ∈ locs, D.1.size ≤ q.base) → z_rep D G h T.heap → lv_has ls M.2.2.1 (z_lc D L) → Stand p l e R s m args below meth c T locs cells slots →
    ∃ t, Steps p.tables e below ((T.setTop (F0 m pc ls (z_sc D st))).pushFrame (.throwing (z_ad D a))) t ∧ z_end D below s o G' h' (cells + (G'.1 - G.1)) (slots + (G'.2.1 - G.2.1)) t
theorem z_cov {c : Code} {hs : List (Nat × Nat × Nat × Nat)} (hc : c.exceptionTable.toList.map (fun h => (h.startPc, h.endPc, h.handlerPc, h.catchType)) = hs) (hout : hs.all (fun q => !(decide (q.1 ≤ pc) && decide (pc < q.2.1))) = true) : ∀ x ∈ c.exceptionTable.toList, covers x pc = false := by
  intro x hx
  have h1 : (x.startPc, x.endPc, x.handlerPc, x.catchType) ∈ hs := by rw [← hc]; exact List.mem_map.mpr ⟨x, hx, rfl⟩
  have := List.all_eq_true.mp hout _ h1
  simp [covers] at this ⊢
  omega
theorem z_T.out {a : Int} (hout : M.2.2.2.2.all (fun q => !(decide (q.1 ≤ pc) && decide (pc < q.2.1))) = true) (hQ : Q (.inr a) G h) : z_T D M d pc L st G h a Q := by
  refine ⟨.inr a, G, h, hQ, Nat.le_refl _, Nat.le_refl _, ?_⟩
  intro p l e R s m args below meth c T locs cells slots ls cx hc hsl hlo hr hl X
  obtain ⟨h1, h2, h3, h4, h5⟩ := X.leaveThrown (z_ad D a) (g := F0 m pc ls (z_sc D st)) rfl rfl rfl (z_cov cx.2.2.2.2.2.1 hout) cx.2.2.2.2.1
  refine ⟨_, h1, _, h2, h3, rfl, hr, h4, locs, ?_, hlo⟩
  rw [Nat.sub_self, Nat.sub_self]
  exact h5
theorem z_throw {a : Int} (ha : ¬ a = -1) (hd : decode M.2.1 pc = .ok (.athrow, 1)) (k : z_T D M d pc L st G h a Q) : z_F D M d pc L ((2, a) :: st) G h Q := by
  obtain ⟨o, G', h', hQ, e1, e2, hk⟩ := k
  refine ⟨o, G', h', hQ, e1, e2, ?_⟩
  intro p l e R s m args below meth c H locs cells slots ls cx hc hsl hlo hr hl
  intro T hT X
  subst hT
  obtain ⟨t, b1, b2⟩ := hk p l e R s m args below meth c T locs cells slots ls cx hc hsl hlo hr hl X
  refine ⟨t, ?_, b2⟩
  rw [z_sc_ref ha]
  have hexec := cx.1
  have hdg : decode c.code pc = .ok (.athrow, 1) := by rw [cx.2.1]; exact hd
  jvm_step X.here [hexec, hdg, athrow.wp_sem]
  exact b1
/-- the search in the table of handlers, the class of the one that catches cold or warm: what it gives, and the tables that it leaves -/
def z_Fin (e : Env) (s : State) (f : JFrame) (a : Addr) (hd : Handler) (vm' : Vm) : Prop := ∀ (Q : Handler → Pre) (E : CtlPost) (d : Bool) (acts : List Action), wp (findHandler f a) Q E e d acts s ↔ Q hd d acts (s.setVm vm')
theorem z_fin {e : Env} {s : State} {f : JFrame} {a : Addr} {meth : Method} {code : Code} {x : ExceptionTableEntry} {c : ClassId} {cell : Cell} (hm : s.vm.method? f.method = some meth) (hc : meth.code = some code) (htab : code.exceptionTable.toList = [x]) (hx : covers x f.pc = true) (h0 : x.catchType ≠ 0)
    (hl : s.vm.ClassLinks e.platform f.method.cls x.catchType c) (hcell : s.heap[a]? = some cell) (hobj : ∀ k, cell.vm ≠ .statics k) (hk : ∃ k, s.vm.classes[cell.cls]? = some k) (hcl : ∃ k, s.vm.classes[c]? = some k) (hfit : s.vm.assignable cell.cls c = true) :
    z_Fin e s f a (.found x.handlerPc) (s.vm.noted f.method.cls x.catchType (.cls c)) := by
  intro Q E d acts
  rw [W.findHandler_eq hm hc, htab]
  simp only [covers] at hx
  obtain ⟨ha, ht⟩ := (resolveClass_links e.toSetting hl).op (op := VmOp.resolveClass f.method.cls x.catchType) rfl
  have hal : s.vm.Alike (s.vm.noted f.method.cls x.catchType (.cls c)) := (Vm.Alike.refl s.vm).noted _ _ _
  obtain ⟨k1, hk1⟩ := hk
  obtain ⟨k2, hk2⟩ := hcl
  obtain ⟨k1', hk1', -⟩ := hal.2.2 _ _ hk1
  obtain ⟨k2', hk2', -⟩ := hal.2.2 _ _ hk2
  have hfit' : (s.vm.noted f.method.cls x.catchType (.cls c)).assignable cell.cls c = true := by rw [hal.assignable]; exact hfit
  simp [findHandler.go, hx, h0, ha, ht, hcell, hobj, hk1', hk2', hfit', VmOp.dirties, VmOp.acts]
theorem z_caught {tb : Tables} {e : Env} {s target : State} {g : JFrame} {c : Code} {below : List Frame} {a : Addr} (h : At s g.method c below) {pc : Nat} {vm' : Vm}
    (hfind : z_Fin e ((s.setTop g).pushFrame (.throwing a)) g a (.found pc) vm') (hrest : Steps tb e below ((s.setVm vm').setTop { g with pc := pc, stack := [.ref a] }) target) :
    Steps tb e below ((s.setTop g).pushFrame (.throwing a)) target := by
  have hst : (stepThrowing e ((s.setTop g).pushFrame (.throwing a)) a (.java g :: s.frames.tail)).Is ((((s.setTop g).pushFrame (.throwing a)).setVm vm').setFrames (.java { g with pc := pc, stack := [.ref a] } :: s.frames.tail)) [] := by
    simp only [stepThrowing, searchFrame, vmDo]
    generalize hr : Sem.go _ e false [] _ = res
    obtain ⟨as, rfl, ha⟩ := Sem.eq_ok_of hr (a := Handler.found pc) (s' := ((s.setTop g).pushFrame (.throwing a)).setVm vm') (acts' := []) (by simp [hfind _ _ _ _])
    exact ⟨rfl, ha⟩
  obtain ⟨hgo, hw⟩ := h.throwing a
  refine Steps.head hgo hw ?_
  rw [stepThread_throwing (frames_entered h.top _), hst.1]
  obtain ⟨g₀, hg⟩ := Option.isSome_iff_exists.mp h.top
  obtain ⟨r, hr⟩ := State.topJava?_eq_some.mp hg
  have hr' : (s.setVm vm').frames = .java g₀ :: r := hr
  have hfv : ∀ (u : State) (F F2 : List Frame), ((u.setFrames F).setVm vm').setFrames F2 = (u.setVm vm').setFrames F2 := fun u F F2 => by
    have h1 : (u.setFrames F).setVm vm' = (u.setVm vm').setFrames F := rfl
    rw [h1, State.setFrames_setFrames]
  rw [State.setTop_of_frames _ hr'] at hrest
  rw [hr, List.tail_cons, State.pushFrame, hfv, State.setTop_of_frames _ hr, hfv]
  exact hrest
theorem z_T.catch {a : Int} {s0 e0 hp ct : Nat} {C : String} {T : u_T} {N : Nat} (hM : M.2.2.2.2 = [(s0, e0, hp, ct)]) (h1 : s0 ≤ pc) (h2 : pc < e0) (h0 : ct ≠ 0) (hcb : zcl[t]? = some (C, T, N)) (ht : t < 50) (ha : z_is G a t) (hl : Cond.classLink M.1.cls ct C ∈ zT) (k : z_F D M d hp L [(2, a)] G h Q) : z_T D M d pc L st G h a Q := by
  obtain ⟨o, G', h', hQ, e1, e2, hk⟩ := k
  refine ⟨o, G', h', hQ, e1, e2, ?_⟩
  intro p l e R s m args below meth c U locs cells slots ls cx hc hsl hlo hr hll X
  have htab := cx.2.2.2.2.2.1
  rw [hM] at htab
  obtain ⟨x, hx1, hx2⟩ : ∃ x, c.exceptionTable.toList = [x] ∧ (x.startPc, x.endPc, x.handlerPc, x.catchType) = (s0, e0, hp, ct) := by
    cases hh : c.exceptionTable.toList with
    | nil => rw [hh] at htab; cases htab
    | cons y ys =>
      rw [hh] at htab
      cases ys with
      | nil => exact ⟨y, rfl, by simpa using htab⟩
      | cons z zs => simp at htab
  simp only [Prod.mk.injEq] at hx2
  obtain ⟨x1, x2, x3, x4⟩ := hx2
  have hpl : e.platform.magicAccessors = ({} : Platform).magicAccessors := by rw [X.admits.platform]
  have hlink := cx.hts _ hl
  rw [← x4] at hlink h0
  obtain ⟨c', hc', hcl⟩ := Cond.classLink_spec cx.own hlink e.platform hpl
  obtain ⟨dk, _, _, kt, hd, _, _, _, _, hkt, _, hopen⟩ := hcl.here
  have hcl₀ := X.warmed.classLinks hcl
  have hW' : s.WarmedH (U.vm.noted m.cls x.catchType (.cls c')) := X.warmed.noted hd hopen (State.rightAt_cls hcl)
  have hal := X.warmed.alike
  obtain ⟨kt', hkt', -⟩ := hal.2.2 _ _ hkt
  obtain ⟨cell, q1, q2⟩ := hr.at ha
  unfold z_cell at q2
  rw [if_pos ht] at q2
  obtain ⟨r, r1, r2, r3, -⟩ := q2
  have hcls := (cx.K.1 t _ hcb).2
  have hcc : c' = D.2.1 t := Option.some.inj (hc'.symm.trans hcls.1)
  have hfit' : U.vm.assignable cell.cls c' = true := by rw [hal.assignable, r2, hcc]; exact va_assign hcls
  have X' := X.noted hW'
  obtain ⟨t1, b1, b2⟩ := hk p l e R s m args below meth c U.heap locs cells slots ls cx hc hsl hlo hr hll (U.setVm (U.vm.noted m.cls x.catchType (.cls c'))) rfl X'
  refine ⟨t1, ?_, b2⟩
  refine z_caught (pc := x.handlerPc) X.here (z_fin (s := (U.setTop (F0 m pc ls (z_sc D st))).pushFrame (.throwing (z_ad D a))) (meth := meth) (code := c) X.method' X.code hx1 (by simp only [covers, x1, x2, Bool.and_eq_true, decide_eq_true_eq]; exact ⟨h1, h2⟩) h0 (c := c') (cell := cell) hcl₀ q1 (fun k hk => by rw [r3] at hk; cases hk) ?_ ⟨kt', hkt'⟩ hfit') ?_
  · rw [r2, ← hcc]; exact ⟨kt', hkt'⟩
  · rw [x3]
    rw [z_ad_ref ha.1] at b1
    exact b1
end Thr
