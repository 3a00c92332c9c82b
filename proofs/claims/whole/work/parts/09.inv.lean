section Inv
variable {D : zD} {M M2 : zM} {d d2 pc q t idx k : Nat} {L : List (Nat × zV)} {st av : List zV} {G G1 : zG} {h h1 : zH} {o : zO} {Q Q2 : zO → zG → zH → Prop}
/-- what the tables say of a method -/
def z_mok (M : zM) : Prop := plainName M.1.cls = true ∧ M.2.2.1 ≤ 29 ∧ (M.1.cls ≠ "java/lang/invoke/MethodHandle" ∧ M.1.cls ≠ "java/lang/invoke/VarHandle") ∧ Cond.initialized M.1.cls ∈ zT ∧ ((M.2.2.2.2 = [] ∧ Cond.code M.1 M.2.1 M.2.2.1 M.2.2.2.1 ∈ zT) ∨ Cond.codeWith M.1 M.2.1 M.2.2.1 M.2.2.2.1 M.2.2.2.2 ∈ zT)
theorem z_mok.spec (hm : z_mok M) {U : State} {a : Array Value} (hts : ∀ w ∈ zT, w.before a U = true) : ∃ mk meth c, U.methodNamed? M.1 = some mk ∧ U.vm.method? mk = some meth ∧ meth.code = some c ∧ c.code = M.2.1 ∧ c.maxLocals = M.2.2.1 ∧ meth.sig.returnType = M.2.2.2.1 ∧ meth.locks = false ∧
    c.exceptionTable.toList.map (fun h => (h.startPc, h.endPc, h.handlerPc, h.catchType)) = M.2.2.2.2 ∧ parseMethodDescriptor M.1.desc = some meth.sig := by
  rcases hm.2.2.2.2 with ⟨h1, h2⟩ | h2
  · have hw := hts _ h2
    obtain ⟨mk, hn⟩ := Cond.code_named hw
    obtain ⟨meth, c, a1, a2, a3, a4, a5, a6, a7, a8⟩ := Cond.code_spec hn hw
    refine ⟨mk, meth, c, hn, a1, a2, a3, a4, a5, a6, ?_, a8⟩
    rw [h1]
    have : c.exceptionTable = #[] := by simpa using a7
    rw [this]; rfl
  · obtain ⟨mk, meth, c, hn, a1, a2, a3, a4, a5, a6, a7, a8⟩ := Cond.codeWith_spec (hts _ h2)
    exact ⟨mk, meth, c, hn, a1, a2, a3, a4, a6, a7, a5, a8⟩
def z_args : Nat → List zV → List (Nat × zV)
  | _, [] => []
  | i, v :: vs => (i, v) :: z_args (bif Nat.beq v.1 1 then i + 2 else i + 1) vs
def z_wid (av : List zV) : Nat := (av.map fun v => if v.1 = 1 then 2 else 1).sum
theorem z_cat2 (D : zD) (k : Nat) (x : Int) : (z_v D k x).category = 2 ↔ k = 1 := ⟨z_cat D k x, fun h => by subst h; rfl⟩
theorem z_args_lc (D : zD) : ∀ (av : List zV) (i : Nat), lv_args i (z_sc D av) = z_lc D (z_args i av)
  | [], _ => rfl
  | v :: vs, i => by
    have e : (if (z_v D v.1 v.2).category = 2 then i + 2 else i + 1) = (bif Nat.beq v.1 1 then i + 2 else i + 1) := by
      simp only [z_cat2, cond_eq_ite, Nat.beq_eq]
    show (i, z_v D v.1 v.2) :: lv_args _ (z_sc D vs) = (i, z_v D v.1 v.2) :: z_lc D _
    rw [e, z_args_lc D vs]
theorem z_wid_eq (D : zD) : ∀ av : List zV, (lg_sl (z_sc D av)).length = z_wid av
  | [] => rfl
  | v :: vs => by
    show (List.flatMap _ (z_v D v.1 v.2 :: z_sc D vs)).length = _
    rw [List.flatMap_cons, List.length_append]
    have ih := z_wid_eq D vs
    unfold lg_sl at ih
    rw [ih]
    simp only [z_wid, List.map_cons, List.sum_cons, z_cat2]
    split <;> simp
theorem z_enter (hm : z_mok M) (hL : z_args 0 av = L) (hw : z_wid av ≤ M.2.2.1) (k : z_F D M d 0 L [] G h Q) : z_C D M d av G h Q := by
  subst hL
  obtain ⟨o, G', h', hQ, e1, e2, hk⟩ := k
  refine ⟨o, G', h', hQ, e1, e2, fun l => ?_⟩
  refine MetFree.of_bodyS (code := M.2.1) (maxLocals := M.2.2.1) (ret := M.2.2.2.1) hm.1 ?_ ?_
  · intro args s m hpre hn
    obtain ⟨mk, meth, c, a0, a1, a2, a3, a4, a5, a6, -⟩ := hm.spec (atoms_spec (ws := zT) hpre)
    cases hn.symm.trans a0
    exact ⟨meth, c, a1, a2, a3, a4, a5, a6⟩
  · intro p e s m args below meth c s₁ B hml hP _
    obtain ⟨rfl, hwd, hrep⟩ := hP
    have hts := atoms_spec (ws := zT) B.pre
    have X₀ := Stand.of_body B
    obtain ⟨mk, meth', c', a0, a1, a2, a3, a4, a5, a6, a7, -⟩ := hm.spec hts
    cases B.named.symm.trans a0
    cases B.method.symm.trans a1
    cases X₀.code.symm.trans a2
    have hh0 : s₁.heap = s.heap := by rw [B.state]; rfl
    have cx : z_cx D M d p l e (headSpec zT (z_rm d (G'.1 - G.1) (G'.2.1 - G.2.1))).room s m (z_sc D av).toArray below meth c :=
      ⟨B.exec, B.bytes, hml, B.returns, B.notSynchronized, a7, findClass_of_methodNamed B.named, (name_of_methodNamed B.named B.method).1, hts, hwd, Nat.le_refl _, Nat.le_refl _⟩
    have hl := lv_entry (z_sc D av) (n := M.2.2.1) (by rw [z_wid_eq]; exact hw)
    rw [z_args_lc] at hl
    have K := hk p l e _ s m _ below meth c s.heap [] 0 0 _ cx (by rw [Nat.zero_add]; exact Nat.le_refl _) (by rw [Nat.zero_add]; exact Nat.le_refl _) (fun q hq => by cases hq) hrep hl
    rw [Nat.zero_add, Nat.zero_add] at K
    rw [lg_entry_eq]
    obtain ⟨t, b0, oc, b1, b2, b3⟩ := K s₁ hh0 X₀
    exact ⟨t, oc, b0, b1, b2, b3⟩
/-- the caller's state behind a call -/
def z_back (D : zD) (o : zO) (g : JFrame) (T : State) : State := match o with
  | .inl r => T.setTop { g with pc := g.pc + 3, stack := z_sc D r.toList ++ g.stack }
  | .inr a => (T.setTop g).pushFrame (.throwing (z_ad D a))
theorem z_inv {p : Program} {l : Launch} {e : Env} {R : Room} {s : State} {m : MethodId} {args : Array Value} {below : List Frame} {meth : Method} {c : Code} {T : State} {locs : List Loc} {cells slots : Nat}
    (X : Stand p l e R s m args below meth c T locs cells slots) (cx : z_cx D M d p l e R s m args below meth c) (hE : z_Ex D M2 d2 av G h o G1 h1) (hm : z_mok M2) (hdd : d2 + 1 ≤ d) (hrep : z_rep D G h T.heap)
    {g : JFrame} {ig : Instr} (hg : g.method = m) (hsize : g.locals.size = c.maxLocals) (hdg : decode c.code g.pc = .ok (ig, 3)) (hW : 2 * g.monitorRoom + (g.stack.map fun v => v.category).sum ≤ 20) {mk : MethodId} (hn : T.methodNamed? M2.1 = some mk)
    (hc : cells + (G1.1 - G.1) ≤ R.cells) (hs : slots + (G1.2.1 - G.2.1) ≤ R.slots) :
    ∃ (T' : State) (L' : List Loc), Stand p l e R s m args below meth c T' (locs ++ L') (cells + (G1.1 - G.1)) (slots + (G1.2.1 - G.2.1)) ∧ z_rep D G1 h1 T'.heap ∧ (∀ q ∈ L', D.1.size ≤ q.base) ∧
      Steps p.tables e below (doInvoke e (T.setTop g) [] mk (z_sc D av).toArray).1 (z_back D o g T') := by
  have hts2 : ∀ w ∈ zT, w.before (z_sc D av).toArray T = true := fun w hw => z_word X.warmed hw (cx.hts w hw)
  obtain ⟨mk', methY, cY, hn', hmY, hcY, -, hlY, -, -, -, -⟩ := hm.spec hts2
  cases hn.symm.trans hn'
  obtain ⟨kY, hkY, -⟩ := className_of_methodNamed hn
  have hinitY : kY.init = .initialized := Cond.initialized_spec (findClass_of_methodNamed hn) hkY (hts2 _ hm.2.2.2.1)
  have hat : At T g.method c below := by rw [hg]; exact X.here
  have hml := hm.2.1
  have hfr1 := cx.2.2.2.2.2.2.2.2.2.2.1
  have hlo1 := cx.2.2.2.2.2.2.2.2.2.2.2
  have happ : (headSpec zT (z_rm d2 (G1.1 - G.1) (G1.2.1 - G.2.1))).appliesLoose M2.1 e.platform (T.calling g mk (z_sc D av).toArray) = true :=
    Spec.appliesLoose_calling (g := g) hat hdg hn hkY hinitY
      (X.room_calling (g := g) (R' := z_rm d2 (G1.1 - G.1) (G1.2.1 - G.2.1)) hsize hmY hcY (by show d2 + 1 ≤ _; omega) (by rw [hlY]; show _ + 64 * d2 ≤ _; omega) hc hs) (atoms_intro hts2)
  obtain ⟨mid, hmid⟩ := hat.above
  have hfr : (T.setTop g).frames = (.java g :: mid) ++ below := by rw [State.frames_setTop' g hat.top, hmid]; rfl
  obtain ⟨oc, s₂, hsteps, -, hend, hq⟩ := Steps.callFree (hE.2.2 l) p X.admits X.cas X.clock (acts := []) hfr happ ⟨rfl, z_wd.moved (u := T) (U := T.calling g mk (z_sc D av).toArray) (State.WarmedH.refl T) (cx.wd.moved X.warmed), hrep⟩ trivial
  have hq' : z_fe D o G1 h1 (G1.1 - G.1) (G1.2.1 - G.2.1) (T.calling g mk (z_sc D av).toArray) oc s₂ := hq
  rw [State.frames_setTop' g hat.top] at hend
  obtain ⟨rfl, hrep2, hW₂, Lw, ⟨e2, q2, q3, q4, q5, q6⟩, hLw⟩ := hq'
  have e3 : s₂ = ({ (T.calling g mk (z_sc D av).toArray).setFrames s₂.frames with heap := s₂.heap, slotsUsed := s₂.slotsUsed } : State).setVm s₂.vm := by
    have : s₂ = ({ s₂ with vm := (T.calling g mk (z_sc D av).toArray).vm } : State).setVm s₂.vm := rfl
    rw [e2] at this
    exact this
  have hW' : T.WarmedH s₂.vm := hW₂
  obtain ⟨g₀, hg0⟩ := Option.isSome_iff_exists.mp hat.top
  obtain ⟨r, hr⟩ := State.topJava?_eq_some.mp hg0
  have hsame : T.sameButNew ({ T with heap := s₂.heap, slotsUsed := s₂.slotsUsed } : State) Lw (G1.1 - G.1) (G1.2.1 - G.2.1) := by
    refine ⟨?_, q2, q3, q4, q5, q6⟩
    obtain ⟨t, ht, -⟩ := State.frames_cons hr
    show ({ T with heap := s₂.heap, slotsUsed := s₂.slotsUsed } : State) = { T.setFrames T.frames with heap := s₂.heap, slotsUsed := s₂.slotsUsed }
    rw [State.setFrames_self ht]
  have hr' : (({ T with heap := s₂.heap, slotsUsed := s₂.slotsUsed } : State).setVm s₂.vm).frames = .java g₀ :: r := hr
  have hs₂ : s₂ = z_back D o g (({ T with heap := s₂.heap, slotsUsed := s₂.slotsUsed } : State).setVm s₂.vm) := by
    cases o with
    | inl rv =>
      have hend' : ∃ c₂ i₂ len₂, s₂.code? g.method = some c₂ ∧ decode c₂.code g.pc = .ok (i₂, len₂) ∧ s₂.frames = .java { g with pc := g.pc + len₂, stack := z_sc D rv.toList ++ g.stack } :: T.frames.tail := by
        cases rv with
        | none => exact hend
        | some v => exact hend
      obtain ⟨c₂, i₂, len₂, hc₂, hd₂, hf₂⟩ := hend'
      have hcc : c₂ = c := by
        have h1 : s₂.code? g.method = T.code? g.method := by
          rw [State.code?_eq, State.code?_eq, hW'.alike.method?]
        exact Option.some.inj (hc₂.symm.trans (h1.trans hat.code))
      subst hcc
      have hlen : len₂ = 3 := by rw [hdg] at hd₂; cases hd₂; rfl
      subst hlen
      refine e3.trans ?_
      unfold z_back
      rw [hf₂, State.calling_eq hat.top, State.setFrames_setFrames]
      dsimp only
      rw [State.setTop_of_frames _ hr', hr]
      rfl
    | inr a =>
      have hf₂ : s₂.frames = .throwing (z_ad D a) :: .java g :: T.frames.tail := hend
      refine e3.trans ?_
      unfold z_back
      dsimp only
      rw [hf₂, State.calling_eq hat.top, State.setFrames_setFrames, State.pushFrame, State.frames_setTop _ hr', State.setTop_of_frames _ hr', State.setFrames_setFrames, hr]
      rfl
  subst hg
  refine ⟨(({ T with heap := s₂.heap, slotsUsed := s₂.slotsUsed } : State).setVm s₂.vm), Lw,
    ⟨X.admits, X.cas, X.clock, X.frames, X.room, X.hears, X.method, X.code, (X.here.setHeapUsed s₂.heap s₂.slotsUsed).setVm hW'.alike, X.tail, State.WarmedH.trans X.warmed hW', X.limits, X.bytes, X.same.trans (hsame.setVm s.vm)⟩, hrep2, hLw, ?_⟩
  rw [← hs₂]
  exact hsteps
end Inv
