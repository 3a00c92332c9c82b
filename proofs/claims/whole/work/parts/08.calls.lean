section Makes
variable {D : zD} {M : zM} {d pc q t idx k : Nat} {L : List (Nat × zV)} {st : List zV} {G : zG} {h : zH} {Q : zO → zG → zH → Prop}
def z_al (G : zG) (t n : Nat) : zG := (G.1 + 1, G.2.1 + n, (fun b => if b = (G.1 : Int) then t else G.2.2.1 b), fun b => if b = (G.1 : Int) then (n : Int) else G.2.2.2 b)
def z_nw (h : zH) (a : Int) (f : Int → Int) : zH := fun b => if b = a then f else h b
theorem z_rep.push {H : Heap} (hr : z_rep D G h H) {n : Nat} {f : Int → Int} {cell : Cell} (hc : z_cell D t n f cell) : z_rep D (z_al G t n) (z_nw h G.1 f) (H.push cell) := by
  refine ⟨?_, fun q hq => ?_, fun b hb => ?_⟩
  · rw [Array.size_push, hr.1]; show _ = D.1.size + (G.1 + 1); omega
  · rw [Array.getElem?_push, if_neg (by rw [hr.1]; omega)]
    exact hr.2.1 q hq
  · have hb' : b < G.1 + 1 := hb
    by_cases e : b = G.1
    · subst e
      refine ⟨cell, ?_, ?_⟩
      · rw [← hr.1, Array.getElem?_push_size]
      · simp only [z_al, z_nw, if_true]
        exact hc
    · have e' : ¬ (b : Int) = (G.1 : Int) := by omega
      obtain ⟨c', e1, e2⟩ := hr.2.2 b (by omega)
      refine ⟨c', ?_, ?_⟩
      · rw [Array.getElem?_push, if_neg (by rw [hr.1]; omega)]
        exact e1
      · simp only [z_al, z_nw, e', if_false]
        exact e2
/-- an instruction that makes a cell -/
theorem z_make {st' : List zV} {n : Nat} {f : Int → Int} (hs : ∀ {p l e R s m args below meth c H locs cells slots ls Qw}, z_cx D M d p l e R s m args below meth c → z_rep D G h H → lv_has ls M.2.2.1 (z_lc D L) → cells + 1 ≤ R.cells → slots + n ≤ R.slots →
      (∀ H', z_rep D (z_al G t n) (z_nw h G.1 f) H' → W p l e R s m args below meth c H' locs (cells + 1) (slots + n) Qw (F0 m q ls (z_sc D st'))) → W p l e R s m args below meth c H locs cells slots Qw (F0 m pc ls (z_sc D st)))
    (k : z_F D M d q L st' (z_al G t n) (z_nw h G.1 f) Q) : z_F D M d pc L st G h Q := by
  obtain ⟨o, G', h', hq, e1, e2, hk⟩ := k
  have e1' : G.1 + 1 ≤ G'.1 := e1
  have e2' : G.2.1 + n ≤ G'.2.1 := e2
  refine ⟨o, G', h', hq, by omega, by omega, ?_⟩
  intro p l e R s m args below meth c H locs cells slots ls cx hc hsl hlo hr hl
  have a1 : (z_al G t n).1 = G.1 + 1 := rfl
  have a2 : (z_al G t n).2.1 = G.2.1 + n := rfl
  have b1 : cells + 1 + (G'.1 - (z_al G t n).1) = cells + (G'.1 - G.1) := by rw [a1]; omega
  have b2 : slots + n + (G'.2.1 - (z_al G t n).2.1) = slots + (G'.2.1 - G.2.1) := by rw [a2]; omega
  refine hs cx hr hl (by omega) (by omega) fun H' hr' => ?_
  have := hk p l e R s m args below meth c H' locs (cells + 1) (slots + n) ls cx (by omega) (by omega) hlo hr' hl
  rw [b1, b2] at this
  exact this
def z_dfv (ty : FieldType) : Int := if z_kd ty = 2 then -1 else 0
theorem z_dfv_ok {ty : FieldType} (hok : z_okt ty = true) : z_v D (z_kd ty) (z_dfv ty) = defaultValue ty := by
  cases ty <;> simp [z_okt] at hok <;> rfl
theorem z_top (D : zD) (G : zG) {H : Heap} (hr : z_rep D G h H) : .ref H.size :: z_sc D st = z_sc D ((2, (G.1 : Int)) :: st) := by
  rw [z_ad_ref (by omega), z_ad_pos (by omega), hr.1]
  simp
theorem z_new {C : String} {T : u_T} {N : Nat} (hcb : z_cb t C T N) (h1 : Cond.classLink M.1.cls idx C ∈ zT) (h2 : Cond.instantiable C N ∈ zT) (h3 : Cond.initialized C ∈ zT) (hd : decode M.2.1 pc = .ok (.new idx, 3)) (hq : pc + 3 = q)
    (kk : z_F D M d q L ((2, (G.1 : Int)) :: st) (z_al G t N) (z_nw h G.1 (fun j => z_dfv (z_ty t j.toNat))) Q) : z_F D M d pc L st G h Q := by
  subst hq
  refine z_make (fun {p l e R s m args below meth c H locs cells slots ls Qw} cx hr hl hc hs kk => ?_) kk
  obtain ⟨hc0, ht, hin, hnm, hty, hok⟩ := id hcb
  refine W.newc cx.1 cx.2.1 cx.own (cx.hts _ h1) (cx.hts _ h2) (cx.hts _ h3) rfl hd hc hs fun cC kC f1 f2 f3 f4 => ?_
  rw [z_top D G hr]
  refine kk _ (hr.push ?_)
  unfold z_cell
  rw [if_pos ht]
  have hcls := (cx.K.1 t _ hc0).2
  have e : cC = D.2.1 t := Option.some.inj (f1.symm.trans hcls.1)
  refine ⟨_, hc0, e, rfl, fun j hj => ?_⟩
  have hb : (H.push (blank cC kC))[H.size]? = some (blank cC kC) := by rw [Array.getElem?_push_size]
  have hK := cx.K.1 t _ hc0
  rw [← e] at hK
  obtain ⟨cell, g1, g2, g3, g4⟩ := u_born (z_ty t) cx.hts hin hK f2 hb hty
  cases hb.symm.trans g1
  have := g4 j hj
  show _ = some (z_v D (z_kd (z_ty t j)) (z_dfv (z_ty t j)))
  rw [z_dfv_ok (hok j hj)]
  exact this
theorem z_newa {n : Int} {atype : ArrayType} (t : Nat) (h50 : 50 ≤ t) (h54 : t < 54) (hty : newarray.typeOf atype = z_ety t) (h1 : Cond.arrayClass (z_ety t) ∈ zT) (h0 : 0 ≤ n) (hn : n ≤ 60000000) (hd : decode M.2.1 pc = .ok (.newarray atype, 2)) (hq : pc + 2 = q)
    (kk : z_F D M d q L ((2, (G.1 : Int)) :: st) (z_al G t n.toNat) (z_nw h G.1 (fun _ => 0)) Q) : z_F D M d pc L ((0, n) :: st) G h Q := by
  subst hq
  refine z_make (fun {p l e R s m args below meth c H locs cells slots ls Qw} cx hr hl hc hs kk => ?_) kk
  have hcl := i_clamp h0 (by omega : n < 2147483648)
  have hby : componentBytes (z_ety t) ≤ 8 := by
    have : t = 50 ∨ t = 51 ∨ t = 52 ∨ t = 53 := by omega
    rcases this with rfl | rfl | rfl | rfl <;> decide
  refine W.newa cx.1 cx.2.1 (by rw [hty]; exact cx.hts _ h1) rfl hd rfl (i_nneg h0 (by omega)) (by rw [hcl, hty]; exact Nat.le_trans (Nat.mul_le_mul_left _ hby) (by omega)) hc (by rw [hcl]; exact hs) fun cA kA comp f1 f2 f3 => ?_
  rw [hcl, hty]
  rw [hty] at f1
  have hk := kk (H.push { cls := cA, slots := Array.replicate n.toNat (defaultValue (z_ety t)), vm := .none }) (hr.push ?_)
  · rw [← z_top D G hr] at hk
    exact hk
  unfold z_cell
  rw [if_neg (by omega)]
  refine ⟨by omega, by omega, ?_⟩
  rw [arrV_new]
  have e : cA = D.2.2.2.1 t := by
    have h2 := (cx.K.2 _ _ (z_tyat h50 (by omega))).2
    have : t = 50 ∨ t = 51 ∨ t = 52 ∨ t = 53 := by omega
    rcases this with rfl | rfl | rfl | rfl <;> exact Option.some.inj (f1.symm.trans h2)
  rw [e]
  congr 1
  funext j
  have : t = 50 ∨ t = 51 ∨ t = 52 ∨ t = 53 := by omega
  rcases this with rfl | rfl | rfl | rfl <;> rfl
theorem z_anew {n : Int} {C : String} (t : Nat) (h54 : 54 ≤ t) (h57 : t < 57) (hty : z_ety t = .object C) (h1 : Cond.classLink M.1.cls idx C ∈ zT) (h2 : Cond.arrayOver (.object C) ∈ zT) (h0 : 0 ≤ n) (hn : n ≤ 60000000) (hd : decode M.2.1 pc = .ok (.anewarray idx, 3)) (hq : pc + 3 = q)
    (kk : z_F D M d q L ((2, (G.1 : Int)) :: st) (z_al G t n.toNat) (z_nw h G.1 (fun _ => -1)) Q) : z_F D M d pc L ((0, n) :: st) G h Q := by
  subst hq
  refine z_make (fun {p l e R s m args below meth c H locs cells slots ls Qw} cx hr hl hc hs kk => ?_) kk
  have hcl := i_clamp h0 (by omega : n < 2147483648)
  refine W.anew cx.1 cx.2.1 cx.own (cx.hts _ h1) (cx.hts _ h2) rfl hd rfl (i_nneg h0 (by omega)) (by rw [hcl]; omega) hc (by rw [hcl]; exact hs) fun cA kA comp f1 f2 f3 f4 => ?_
  rw [hcl]
  have hk := kk (H.push { cls := cA, slots := Array.replicate n.toNat .null, vm := .none }) (hr.push ?_)
  · rw [← z_top D G hr] at hk
    exact hk
  unfold z_cell
  rw [if_neg (by omega)]
  refine ⟨by omega, by omega, ?_⟩
  rw [arrV_new]
  have e : cA = D.2.2.2.1 t := by
    have h2 := (cx.K.2 _ _ (z_tyat (by omega) h57)).2
    rw [hty] at h2
    obtain ⟨kA', comp', g1, g2, g3, g4⟩ := h2
    exact Option.some.inj (f1.symm.trans g4)
  rw [e, hty]
  congr 1
theorem W.mono {p : Program} {l : Launch} {e : Env} {R : Room} {s : State} {m : MethodId} {args : Array Value} {below : List Frame} {meth : Method} {c : Code} {H : Heap} {locs : List Loc} {cells slots : Nat} {Q Q' : State → Prop} {g : JFrame} (hq : ∀ t, Q t → Q' t) (k : W p l e R s m args below meth c H locs cells slots Q g) : W p l e R s m args below meth c H locs cells slots Q' g := by
  intro T hT X
  obtain ⟨t, a, b⟩ := k T hT X
  exact ⟨t, a, hq t b⟩
/-- a return, out of the kit's row for it -/
theorem z_retn {o : zO} (hs : ∀ {p l e R s m args below meth c H locs cells slots ls}, z_cx D M d p l e R s m args below meth c → z_rep D G h H → lv_has ls M.2.2.1 (z_lc D L) → (∀ q ∈ locs, D.1.size ≤ q.base) →
      W p l e R s m args below meth c H locs cells slots (MQ below (fun _ st oc t => oc = z_out D o ∧ z_rep D G h t.heap) args s cells slots (fun q => D.1.size ≤ q)) (F0 m pc ls (z_sc D st))) (hQ : Q o G h) : z_F D M d pc L st G h Q := by
  refine ⟨o, G, h, hQ, Nat.le_refl _, Nat.le_refl _, ?_⟩
  intro p l e R s m args below meth c H locs cells slots ls cx hc hsl hlo hr hl
  refine W.mono (fun t ht => ?_) (hs cx hr hl hlo)
  obtain ⟨oc, h1, h2, ⟨h3, h4⟩, Lw, ⟨-, h5, h6⟩, h7⟩ := ht
  refine ⟨oc, h1, h2, h3, h4, h5, Lw, ?_, h7⟩
  rw [Nat.sub_self, Nat.sub_self]
  exact h6
theorem z_iret {x : Int} (hr : M.2.2.2.1 = some .int) (hd : decode M.2.1 pc = .ok (.ireturn, 1)) (hQ : Q (.inl (some (0, x))) G h) : z_F D M d pc L [(0, x)] G h Q :=
  z_retn (fun cx hrp hl hlo => W.iret cx.1 cx.2.1 (cx.2.2.2.1.trans hr) (fun t ht _ => ⟨rfl, by rw [ht]; exact hrp⟩) hlo hd cx.2.2.2.2.1) hQ
theorem z_zret {x : Int} {ty : FieldType} (hr : M.2.2.2.1 = some ty) (hn : narrow ty (.int (Int32.ofInt x)) = .int (Int32.ofInt x)) (hd : decode M.2.1 pc = .ok (.ireturn, 1)) (hQ : Q (.inl (some (0, x))) G h) : z_F D M d pc L [(0, x)] G h Q :=
  z_retn (fun cx hrp hl hlo => W.zret cx.1 cx.2.1 (cx.2.2.2.1.trans hr) hn (fun t ht _ => ⟨rfl, by rw [ht]; exact hrp⟩) hlo hd cx.2.2.2.2.1) hQ
theorem z_bret {x : Int} (hr : M.2.2.2.1 = some .boolean) (hx : x = 0 ∨ x = 1) (hd : decode M.2.1 pc = .ok (.ireturn, 1)) (hQ : Q (.inl (some (0, x))) G h) : z_F D M d pc L [(0, x)] G h Q := z_zret hr (w_bool x hx) hd hQ
theorem z_lret {x : Int} (hr : M.2.2.2.1 = some .long) (hd : decode M.2.1 pc = .ok (.lreturn, 1)) (hQ : Q (.inl (some (1, x))) G h) : z_F D M d pc L [(1, x)] G h Q :=
  z_retn (fun cx hrp hl hlo => W.lret cx.1 cx.2.1 (cx.2.2.2.1.trans hr) (fun t ht _ => ⟨rfl, by rw [ht]; exact hrp⟩) hlo hd cx.2.2.2.2.1) hQ
theorem z_vret (hr : M.2.2.2.1 = none) (hd : decode M.2.1 pc = .ok (.return_, 1)) (hQ : Q (.inl none) G h) : z_F D M d pc L [] G h Q :=
  z_retn (fun cx hrp hl hlo => W.vret cx.1 cx.2.1 (cx.2.2.2.1.trans hr) (fun t ht _ => ⟨rfl, by rw [ht]; exact hrp⟩) hlo hd cx.2.2.2.2.1) hQ
theorem z_aret {x : Int} {ty : FieldType} (hr : M.2.2.2.1 = some ty) (hty : (∃ n, ty = .object n) ∨ ∃ t, ty = .array t) (hd : decode M.2.1 pc = .ok (.areturn, 1)) (hQ : Q (.inl (some (2, x))) G h) : z_F D M d pc L [(2, x)] G h Q :=
  z_retn (fun cx hrp hl hlo => W.aret (v := z_v D 2 x) cx.1 cx.2.1 (cx.2.2.2.1.trans hr) hty (by unfold z_v; by_cases hx : x = -1; exact Or.inl (by simp [hx]); exact Or.inr ⟨_, by simp [hx]; rfl⟩) (fun t ht _ => ⟨rfl, by rw [ht]; exact hrp⟩) hlo hd cx.2.2.2.2.1) hQ
end Makes
