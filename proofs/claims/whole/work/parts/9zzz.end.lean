/-! the machine's start as z_wd; the walk; the claim -/
section End
theorem ne_obj_int (C : String) : (FieldType.int) ≠ .object C := fun h => by cases h
theorem s_wd {s : State} {b L : Nat} {xs : Nat → Int32} (hs : ∀ w ∈ fl1, w.before #[Value.ref b] s = true) (hts : ∀ w ∈ lw_tbl, w.before #[Value.ref b] s = true) (hz : ∀ w ∈ zT, w.before #[Value.ref b] s = true) (hX : va_X b L xs s s.heap) (hb : b < s.heap.size) (hL : L ≤ 3072) : ∃ D : zD, D.1 = s.heap ∧ D.2.2.2.2.1 6 = b ∧ D.2.2.2.2.2.1 = (L : Int) ∧ (∀ j : Int, D.2.2.2.2.2.2 j = (xs j.toNat).toInt) ∧ z_wd D s := by
  obtain ⟨dC, dI, hk⟩ := s_kn hz
  obtain ⟨adK, adV, hS, hE⟩ := s_str hs
  obtain ⟨t2, y2, v2⟩ := s_t2 hs hts
  obtain ⟨t3, y3, v3⟩ := s_t3 hs hts
  obtain ⟨t4, y4, v4⟩ := s_t4 hs hts
  obtain ⟨t5, y5, v5⟩ := s_t5 hs hts
  have hcs := s_cs hs hts
  obtain ⟨t50, z50, r50⟩ := s_r50 hs hts
  obtain ⟨t51, z51, r51⟩ := s_r51 hs hts
  obtain ⟨t52, z52, r52⟩ := s_r52 hs hts
  obtain ⟨c50, a50⟩ := s_ac (ty := .int) (fun C h => by cases h) (hz _ k222)
  obtain ⟨c51, a51⟩ := s_ac (ty := .long) (fun C h => by cases h) (hz _ k168)
  obtain ⟨c52, a52⟩ := s_ac (ty := .byte) (fun C h => by cases h) (hz _ k167)
  obtain ⟨c53, a53⟩ := s_ac (ty := .boolean) (fun C h => by cases h) (hz _ k1287)
  obtain ⟨c54, a54⟩ := s_ao (hz _ k130)
  obtain ⟨c55, a55⟩ := s_ao (hz _ k132)
  obtain ⟨c56, a56⟩ := s_ao (hz _ k315)
  obtain ⟨ad, e2, e3, e4, e5, e6, e50, e51, e52, e60, e61, e62, eK, eV⟩ : ∃ ad : Nat → Nat, ad 2 = t2 ∧ ad 3 = t3 ∧ ad 4 = t4 ∧ ad 5 = t5 ∧ ad 6 = b ∧ ad 50 = t50 ∧ ad 51 = t51 ∧ ad 52 = t52 ∧ ad 60 = z50 ∧ ad 61 = z51 ∧ ad 62 = z52 ∧ (∀ i : Nat, i < 16 → ad (10 + i) = adK i) ∧ ∀ i : Nat, i < 16 → ad (30 + i) = adV i := by
    refine ⟨fun n => if n = 2 then t2 else if n = 3 then t3 else if n = 4 then t4 else if n = 5 then t5 else if n = 6 then b else if n = 50 then t50 else if n = 51 then t51 else if n = 52 then t52 else if n = 60 then z50 else if n = 61 then z51 else if n = 62 then z52 else if n < 30 then adK (n - 10) else adV (n - 30), rfl, rfl, rfl, rfl, rfl, rfl, rfl, rfl, rfl, rfl, rfl, fun i hi => ?_, fun i hi => ?_⟩
    · show (if 10 + i = 2 then t2 else _) = _
      rw [if_neg (by omega), if_neg (by omega), if_neg (by omega), if_neg (by omega), if_neg (by omega), if_neg (by omega), if_neg (by omega), if_neg (by omega), if_neg (by omega), if_neg (by omega), if_neg (by omega), if_pos (by omega), Nat.add_sub_cancel_left]
    · show (if 30 + i = 2 then t2 else _) = _
      rw [if_neg (by omega), if_neg (by omega), if_neg (by omega), if_neg (by omega), if_neg (by omega), if_neg (by omega), if_neg (by omega), if_neg (by omega), if_neg (by omega), if_neg (by omega), if_neg (by omega), if_neg (by omega), Nat.add_sub_cancel_left]
  obtain ⟨dA, f50, f51, f52, f53, f54, f55, f56⟩ : ∃ dA : Nat → ClassId, dA 50 = c50 ∧ dA 51 = c51 ∧ dA 52 = c52 ∧ dA 53 = c53 ∧ dA 54 = c54 ∧ dA 55 = c55 ∧ dA 56 = c56 := ⟨fun n => if n = 50 then c50 else if n = 51 then c51 else if n = 52 then c52 else if n = 53 then c53 else if n = 54 then c54 else if n = 55 then c55 else c56, rfl, rfl, rfl, rfl, rfl, rfl, rfl⟩
  subst e2 e3 e4 e5 e50 e51 e52 e60 e61 e62 f50 f51 f52 f53 f54 f55 f56
  refine ⟨(s.heap, dC, dI, dA, ad, (L : Int), fun j => (xs j.toNat).toInt), rfl, e6, rfl, fun j => rfl, ?_⟩
  refine ⟨⟨hk, fun k q e => ?_⟩, fun q hq => ?_, fun i h2 h7 => ?_, ?_, fun q hq => ?_, hcs, fun q hq => ?_⟩
  · match k, e with
    | 0, e => cases (show some _ = some q from e); exact a50
    | 1, e => cases (show some _ = some q from e); exact a51
    | 2, e => cases (show some _ = some q from e); exact a52
    | 3, e => cases (show some _ = some q from e); exact a53
    | 4, e => cases (show some _ = some q from e); exact a54
    | 5, e => cases (show some _ = some q from e); exact a55
    | 6, e => cases (show some _ = some q from e); exact a56
    | k + 7, e => cases (show none = some q from e)
  · simp only [z_sts, List.mem_cons, List.not_mem_nil, or_false] at hq
    rcases hq with rfl | rfl | rfl | rfl
    · exact y2
    · exact y3
    · exact y4
    · exact y5
  · have : i = 2 ∨ i = 3 ∨ i = 4 ∨ i = 5 ∨ i = 6 := by omega
    rcases this with rfl | rfl | rfl | rfl | rfl
    · exact ⟨(by decide : (0 : Int) ≤ 4), (by decide : (4 : Int) < 2147483648), v2⟩
    · exact ⟨(by decide : (0 : Int) ≤ 15), (by decide : (15 : Int) < 2147483648), v3⟩
    · exact ⟨(by decide : (0 : Int) ≤ 6), (by decide : (6 : Int) < 2147483648), v4⟩
    · exact ⟨(by decide : (0 : Int) ≤ 6), (by decide : (6 : Int) < 2147483648), v5⟩
    · refine ⟨(Int.natCast_nonneg L : (0 : Int) ≤ (L : Int)), (by omega : (L : Int) < 2147483648), ?_⟩
      obtain ⟨scr, g1, g2, g3, g4, g5⟩ := hX
      show va_T .int (ad 6) ((L : Int).toNat) (fun j => .int (Int32.ofInt ((xs ((j : Int)).toNat).toInt))) _ s s.heap
      rw [e6, Int.toNat_natCast]
      refine ⟨scr, g1, g2, g3, by rw [g4]; exact Nat.le_refl _, by rw [g4], fun j hj => ?_, Nat.not_le.mpr hb⟩
      rw [g5 j hj]
      show some (Value.int (xs j)) = some (Value.int (Int32.ofInt (xs ((j : Int)).toNat).toInt))
      rw [Int.toNat_natCast, o32]
  · refine ⟨fun i hi => ?_, fun i j hi hj e => ?_⟩
    · show va_O "java/lang/String" (ad (10 + i)) _ s s.heap ∧ va_OF "java/lang/String" "coder" "B" (.int 0) (ad (10 + i)) _ s s.heap ∧ va_OF "java/lang/String" "value" "[B" (.ref (ad (30 + i))) (ad (10 + i)) _ s s.heap ∧ va_T .byte (ad (30 + i)) _ _ _ s s.heap
      rw [eK i hi, eV i hi]
      exact hS.1 i hi
    · have e : ad (10 + i) = ad (10 + j) := e
      rw [eK i hi, eK j hj] at e
      exact hS.2 i j hi hj e
  · obtain ⟨h16, et, hm⟩ := s_rf q hq
    refine vk_R.of (hts _ hm) ?_
    show (Term.string q.1 q.2.1).eval #[Value.ref b] s none [] s = some (.ref (ad (10 + q.2.2.2)))
    rw [← et, eK _ h16]
    exact hE _ h16
  · simp only [z_srf, List.mem_cons, List.not_mem_nil, or_false] at hq
    rcases hq with rfl | rfl | rfl
    · exact r50
    · exact r51
    · exact r52
theorem sI_nn {f : Int → Int} : ∀ n : Nat, (∀ i : Int, 0 ≤ i → i < n → 0 ≤ f i) → 0 ≤ sI f n := by
  intro n
  induction n with
  | zero => intro _; exact Int.le_refl 0
  | succ n ih =>
    intro h
    have a := ih fun i i0 i1 => h i i0 (by omega)
    have b := h n (by omega) (by omega)
    rw [sI]
    omega
theorem PI_room {G : zG} {h : zH} (p : PI G h) : G.1 ≤ 601024 ∧ G.2.1 ≤ 7293034 := by
  obtain ⟨-, ⟨r1, r2⟩, eg, -⟩ := p
  have l := eg.2.2.2
  have n : 0 ≤ sI (ptS G h) 1500 := sI_nn 1500 fun i _ _ => by
    unfold ptS pt
    split
    · decide
    · split <;> omega
  omega
def R_law : String := "TableWaysLaw"
def lw_P (b : Addr) (xs : List Int32) (args : Array Value) (s : State) : Prop := args = #[.ref b] ∧ s.IntsAt b xs ∧ xs.length ≤ 3072 ∧ (Jvm.Cond.and given_1 narrow_1).before args s = true
def lw_Q (_ : Array Value) (s : State) (o : Outcome) (t : State) : Prop := o = .returned (some (.int 1)) ∧ Framed s o t [] 601024 7293034
set_option maxHeartbeats 4000000 in
theorem lw_walk (l : Launch) (b : Addr) (xs : List Int32) : MetFree l x (headSpec (Jvm.Cond.code x code maxLocals ret :: tables_1) room_1) (lw_P b xs) (fun _ _ _ _ _ => True) lw_Q := by
  refine MetFree.of_bodyS (code := code) (maxLocals := maxLocals) (ret := ret) (by decide) ?_ ?_
  · intro args s m h hn
    obtain ⟨meth, c, h1, h2, h3, h4, h5, h6, -, -⟩ := Cond.code_spec hn (atoms_spec (ws := Jvm.Cond.code x code maxLocals ret :: tables_1) h _ List.mem_cons_self)
    exact ⟨meth, c, h1, h2, h3, h4, h5, h6⟩
  · intro p e s m args below meth c s₁ B hml0 hP _
    obtain ⟨rfl, hx, hbd, hgv⟩ := hP
    obtain ⟨scr, harrAt, hlist, hof, hsmall⟩ := hx
    obtain ⟨hcb, hkn, -, -⟩ := State.arrayAt?_spec harrAt
    have hown : s.vm.findClass R_law = some m.cls := findClass_of_methodNamed B.named
    have hts0 : ∀ c ∈ (Jvm.Cond.code x code maxLocals ret :: tables_1), c.before #[Value.ref b] s = true := atoms_spec (ws := Jvm.Cond.code x code maxLocals ret :: tables_1) B.pre
    have hts : ∀ w ∈ lw_tbl, w.before #[Value.ref b] s = true := k2_hts_sels lw_privs (fun w hw => hts0 w (List.mem_cons_of_mem _ hw)) lw_privs_ok
    have hml : c.maxLocals = 4 := B.maxLocals_eq (hts0 _ List.mem_cons_self)
    have X₀ : Stand p l e room_1 s m #[Value.ref b] below meth c s₁ [] 0 0 := Stand.of_body B
    have hh0 : s₁.heap = s.heap := by rw [B.state]; rfl
    have hsz : scr.slots.size = xs.length := by rw [← Array.length_toList, hlist, List.length_map]
    have hval : ∀ j : Nat, j < xs.length → scr.slots[j]? = some (.int (xs.getD j 0)) := fun j hj => by
      rw [← Array.getElem?_toList, hlist]
      simp [hj]
    have hbl : b < s.heap.size := (Array.getElem?_eq_some_iff.mp hcb).1
    have hX : va_X b xs.length (fun j => xs.getD j 0) s s.heap := ⟨scr, hcb, hof, hkn, hsz, hval⟩
    have hz : ∀ w ∈ zT, w.before #[Value.ref b] s = true := fun w hw => hts w (List.mem_filter.mp hw).1
    obtain ⟨D, d1, d6, dL, dx, hwd⟩ := s_wd (flat_of_before _ hgv) hts hz hX hbl hbd
    obtain ⟨o, G', h', ⟨hly, ho, pi⟩, q1, q2, hk⟩ := law_all (D := D) (d := 100) (by decide) (fun j => by rw [dx]; exact z_in_toInt _) (by rw [dL]; omega) (by rw [dL]; omega)
    obtain ⟨rm1, rm2⟩ := PI_room pi
    obtain ⟨meth', c', a1, a2, a3, a4, a5, a6, a7, a8⟩ := Cond.code_spec B.named (hts0 _ List.mem_cons_self)
    cases B.method.symm.trans a1
    cases X₀.code.symm.trans a2
    have hex : c.exceptionTable.toList.map (fun h => (h.startPc, h.endPc, h.handlerPc, h.catchType)) = M_law.2.2.2.2 := by
      have : c.exceptionTable = #[] := by simpa using a7
      rw [this]; rfl
    have cx : z_cx D M_law 100 p l e room_1 s m #[Value.ref b] below meth c := ⟨B.exec, B.bytes, hml, B.returns, B.notSynchronized, hex, hown, (name_of_methodNamed B.named B.method).1, hz, hwd, by decide, by decide⟩
    have eA : z_sc D [(2, -6)] = [Value.ref b] := by
      show [Value.ref (D.2.2.2.2.1 6)] = _
      rw [d6]
    have hl := lv_entry (z_sc D [(2, -6)]) (n := 4) (by rw [z_wid_eq]; decide)
    rw [z_args_lc] at hl
    have hrep : z_rep D (gL 0) iB s.heap := ⟨by rw [d1]; rfl, fun q _ => by rw [d1], fun a ha => absurd ha (Nat.not_lt_zero a)⟩
    have K := hk p l e room_1 s m #[Value.ref b] below meth c s.heap [] 0 0 _ cx (by show 0 + (G'.1 - 0) ≤ 601024; omega) (by show 0 + (G'.2.1 - 0) ≤ 7293034; omega) (fun q hq => by cases hq) hrep hl
    have K2 : W p l e room_1 s m #[Value.ref b] below meth c s.heap [] 0 0 (z_end D below s o G' h' (0 + (G'.1 - (gL 0).1)) (0 + (G'.2.1 - (gL 0).2.1))) (entryFrame m ([Value.ref b] : List Value).toArray 4) := by
      rw [lg_entry_eq]
      rw [eA] at K
      exact K
    obtain ⟨t, b0, oc, b1, b2, b3⟩ := K2 s₁ hh0 X₀
    obtain ⟨w1, w2, w3, Lw, w4, w5⟩ := b3
    have w1' : oc = .returned (some (.int 1)) := by rw [w1, ho]; rfl
    refine ⟨t, oc, b0, b1, b2, w1', ⟨_, w1'⟩, w3, ?_⟩
    · have w6 := State.sameButNew.drop_fresh (L := []) (J := Lw) w4 (fun q hq => by rw [← d1]; exact w5 q hq)
      exact w6.mono (by show 0 + (G'.1 - 0) ≤ 601024; omega) (by show 0 + (G'.2.1 - 0) ≤ 7293034; omega)
end End
theorem lw_pre_spec {args : Array Value} {s : State} (h : (Jvm.Cond.and given_1 narrow_1).before args s = true) (hr : rest_1_c.before args s = true) : ∃ (b : Addr) (xs : List Int32), lw_P b xs args s := by
  have hs := flat_of_before _ h
  have hq := flat_of_before _ hr
  have hc : (Cond.count 1).before args s = true := hs _ (by decide +kernel)
  have harr : (Cond.arrayOf (.arg 0) .int).before args s = true := hs _ (by decide +kernel)
  have hle : (Cond.le (.length (.arg 0)) (.int 3072)).before args s = true := hs _ (by decide +kernel)
  have hlen : (Cond.isInt (.length (.arg 0))).before args s = true := hq _ (by decide +kernel)
  have hall : (Cond.all (.arg 0) (.isInt (.elem (.arg 0) (.index 0)))).before args s = true := hq _ (by decide +kernel)
  obtain ⟨b, xs, hb, hx⟩ := State.ints_of_pre rfl harr hlen hall
  have hsm : xs.length < 2 ^ 31 := hx.choose_spec.2.2.2
  have hev : (Term.length (.arg 0)).eval args s none [] s = some (.int xs.length.toInt32) := hx.length_eval hb
  have hv := Cond.le_ints hev (show (Term.int 3072).eval args s none [] s = some (.int 3072) from rfl)
  have hd : xs.length.toInt32 ≤ 3072 := by
    simpa [Cond.before, Cond.holds, hv] using hle
  have hN : xs.length ≤ 3072 := (Int32.ofNat_le_ofNat hsm (by decide)).mp (show Int32.ofNat xs.length ≤ Int32.ofNat 3072 from hd)
  exact ⟨b, xs, Cond.one_arg hc (show args[0]? = some (.ref b) from hb), hx, hN, h⟩
theorem lw_comes (l : Launch) : Comes l x (Jvm.Cond.code x code maxLocals ret :: tables_1) room_1 (fun tb e args s => Calls_1 tb e args s ∧ rest_1 tb e args s ∧ Pre_1 tb e args s)
    (fun _ _ args s o t => lw_Q args s o t) := by
  intro p e ha hc hk s m args below hf hfit hheap happ hpre
  obtain ⟨b, xs, hP⟩ := lw_pre_spec hpre.2.2 hpre.2.1
  obtain ⟨k, o, h1, h2, h3, hQ⟩ := lw_walk l b xs p e ha hc hk s m args below hf ((Spec.applies_iff_loose hf).mp happ).1 hP trivial
  exact ⟨k, o, h1, h2, h3, hQ⟩
theorem lw_frame {s t : State} {o : Outcome} {args : Array Value} (h : Framed s o t [] 601024 7293034) :
    Framed s o t (fieldLocs frame_1_writes args s ++ arrayLocs frame_1_arrays args s ++ staticLocs frame_1_statics s) 601024 7293034 := h
theorem lw_limb (L : Cond) (hL : ∀ (args : Array Value) (s t : State), L.after args s (.returned (some (.int 1))) t = true) :
    ArmFor flags0 classFile x code maxLocals ret World_1 tables_1 room_1 Calls_1 rest_1 Pre_1
      (fun tb e a s o t => postC L tb e a s o t ∧ Framed s o t (fieldLocs frame_1_writes a s ++ arrayLocs frame_1_arrays a s ++ staticLocs frame_1_statics s) 601024 7293034) := by
  intro l _ _ _ p e ha hc hk s m args below hf hfit hheap happ hpre
  obtain ⟨k, o, h1, h2, h3, rfl, hF⟩ := lw_comes l p e ha hc hk s m args below hf hfit hheap happ hpre
  exact ⟨k, _, h1, h2, h3, hL args s _, lw_frame hF⟩
theorem i_vc : Claimed_1_1 ∧ Claimed_1_2 := ⟨lw_limb limb_1_1 (fun args s t => by simp [limb_1_1, Cond.after, Cond.holds, Cond.value]), lw_limb limb_1_2 (fun args s t => Cond.after_iff.mpr (by
  first | (rw [show limb_1_2 = Cond.eq .result (.int 1) from rfl, Cond.eq_ints (x := 1) (y := 1) rfl rfl]; simp; done) | (simp [limb_1_2, Cond.value, Term.eval]; done)))⟩
