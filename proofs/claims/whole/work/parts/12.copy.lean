section Copy
variable {D : zD} {M : zM} {d pc q t idx k : Nat} {L : List (Nat × zV)} {st : List zV} {G : zG} {h : zH} {Q : zO → zG → zH → Prop}
def z_cp (h : zH) (a sp b dp n : Int) : zH := fun x i => if x = b ∧ dp ≤ i ∧ i < dp + n then h a (sp + (i - dp)) else h x i
theorem z_cp_eq (h : zH) (a sp b dp n : Int) : z_cp h a sp b dp n = fun x => if x = b then (fun i => if dp ≤ i ∧ i < dp + n then h a (sp + (i - dp)) else h b i) else h x := by
  funext x i
  unfold z_cp
  by_cases e : x = b
  · subst e; simp
  · simp [e]
theorem z_copy {a b sp dp n : Int} (t : Nat) (ht : t = 50 ∨ t = 51) (ha : z_is G a t) (hb : z_is G b t) (h1 : 0 ≤ sp) (h2 : 0 ≤ dp) (h3 : 0 ≤ n) (h4 : sp + n ≤ G.2.2.2 a) (h5 : dp + n ≤ G.2.2.2 b) (hlink : Cond.methodLink M.1.cls idx arraycopyName ∈ zT) (hnat : Cond.native arraycopyName ∈ zT) (hstat : Cond.static arraycopyName ∈ zT) (hini : Cond.initialized "java/lang/System" ∈ zT)
    (hdd : 1 ≤ d) (hw : z_wid st ≤ 20) (hd : decode M.2.1 pc = .ok (.invokestatic idx, 3)) (hq : pc + 3 = q) (kn : z_F D M d q L st G (z_cp h a sp b dp n) Q) : z_F D M d pc L ((0, n) :: (0, dp) :: (2, b) :: (0, sp) :: (2, a) :: st) G h Q := by
  subst hq
  refine z_step (fun {p l e R s m args below meth c H locs cells slots ls Qw} cx hr hl hlo kn => ?_) kn
  have ht50 : 50 ≤ t := by omega
  have ht57 : t < 57 := by omega
  obtain ⟨ca, c1, c2⟩ := hr.at ha
  obtain ⟨n1, n2, rfl⟩ := z_arr ht50 c2
  obtain ⟨cb, c3, c4⟩ := hr.at hb
  obtain ⟨n3, n4, rfl⟩ := z_arr ht50 c4
  have es : z_sc D ((0, n) :: (0, dp) :: (2, b) :: (0, sp) :: (2, a) :: st) = .int (Int32.ofInt n) :: .int (Int32.ofInt dp) :: .ref (z_ad D b) :: .int (Int32.ofInt sp) :: .ref (z_ad D a) :: z_sc D st := by
    show .int (Int32.ofInt n) :: .int (Int32.ofInt dp) :: z_v D 2 b :: .int (Int32.ofInt sp) :: z_v D 2 a :: z_sc D st = _
    rw [z_vref D (x := a) (by have := ha.1; omega), z_vref D (x := b) (by have := hb.1; omega)]
  rw [es]
  intro T hT X
  subst hT
  have hf := cx.2.2.2.2.2.2.2.2.2.2.1
  have hlo2 := cx.2.2.2.2.2.2.2.2.2.2.2
  obtain ⟨-, k0, hk0, cm0, hkk0⟩ := (cx.K.2 _ _ (z_tyat ht50 ht57)).1 (G.2.2.2 a).toNat (fun j => z_v D (z_kd (z_ety t)) (h a j))
  obtain ⟨-, k1, hk1, cm1, hkk1⟩ := (cx.K.2 _ _ (z_tyat ht50 ht57)).1 (G.2.2.2 b).toNat (fun j => z_v D (z_kd (z_ety t)) (h b j))
  have hnp := i_clamp h3 (by omega : n < 2147483648)
  have hsp := i_clamp h1 (by omega : sp < 2147483648)
  have hdp := i_clamp h2 (by omega : dp < 2147483648)
  obtain ⟨vm', X', step⟩ := X.arraycopy cx.1 cx.own (cx.hts _ hlink) (cx.hts _ hnat) (cx.hts _ hstat) (cx.hts _ hini) (src := z_ad D a) (dst := z_ad D b) (srcPos := Int32.ofInt sp) (destPos := Int32.ofInt dp) (n := Int32.ofInt n) c1 c3
    (fun _ hh => by cases hh) (fun _ hh => by cases hh) (fun hh => by cases hh) (fun hh => by cases hh) hk0 hk1 hkk0 hkk1 (by rcases ht with rfl | rfl <;> rfl) (i_nneg h1 (by omega)) (i_nneg h2 (by omega)) (i_nneg h3 (by omega))
    (by rw [w32_of, w32_of, w32_id ⟨by omega, by omega⟩, w32_id ⟨by omega, by omega⟩, arrV_size]; omega)
    (by rw [w32_of, w32_of, w32_id ⟨by omega, by omega⟩, w32_id ⟨by omega, by omega⟩, arrV_size]; omega)
    (fun vm₁ _ i hi => by
      rw [hnp] at hi
      have e : (arrV (D.2.2.2.1 t) (G.2.2.2 a).toNat (fun j => z_v D (z_kd (z_ety t)) (h a j))).slots.getD ((Int32.ofInt sp).toNatClampNeg + i) .null = z_v D (z_kd (z_ety t)) (h a ((sp.toNat + i : Nat) : Int)) := by
        rw [Array.getD_eq_getD_getElem?, hsp, arrV_read _ _ (by omega)]
        rfl
      rw [e]
      rcases ht with rfl | rfl
      · exact ⟨rfl, trivial⟩
      · exact ⟨rfl, trivial⟩)
    (g := F0 m pc ls (.int (Int32.ofInt n) :: .int (Int32.ofInt dp) :: .ref (z_ad D b) :: .int (Int32.ofInt sp) :: .ref (z_ad D a) :: z_sc D st)) rfl (by show ls.size = _; rw [hl.1, cx.2.2.1]) (rest := z_sc D st) rfl (by rw [cx.2.1]; exact hd) (by omega)
    (by show 2 * 0 + _ + _ ≤ _; rw [z_catsum, show nativeFrameWords "java/lang/System" "arraycopy" 5 = nativeFrameWords "java/lang/System" "arraycopy" 5 from rfl]; have : nativeFrameWords "java/lang/System" "arraycopy" 5 ≤ 30 := by decide
        omega)
  have e1 : copied (arrV (D.2.2.2.1 t) (G.2.2.2 a).toNat (fun j => z_v D (z_kd (z_ety t)) (h a j))) (arrV (D.2.2.2.1 t) (G.2.2.2 b).toNat (fun j => z_v D (z_kd (z_ety t)) (h b j))) (Int32.ofInt sp) (Int32.ofInt dp) (Int32.ofInt n) = arrV (D.2.2.2.1 t) (G.2.2.2 b).toNat (fun j => z_v D (z_kd (z_ety t)) (va_cpy (fun j : Nat => h a j) (fun j : Nat => h b j) (Int32.ofInt sp).toNatClampNeg (Int32.ofInt dp).toNatClampNeg (Int32.ofInt n).toNatClampNeg j)) := va_copied (fun z => z_v D (z_kd (z_ety t)) z) _ _ (fun j : Nat => h a j) (fun j : Nat => h b j) (by rw [hsp, hnp]; omega)
  rw [e1, hsp, hdp, hnp] at X' step
  have hlt : z_ad D b < T.heap.size := (Array.getElem?_eq_some_iff.mp c3).1
  have hrep' : z_rep D G (z_cp h a sp b dp n) (T.heap.setIfInBounds (z_ad D b) (arrV (D.2.2.2.1 t) (G.2.2.2 b).toNat (fun j => z_v D (z_kd (z_ety t)) (va_cpy (fun j : Nat => h a j) (fun j : Nat => h b j) sp.toNat dp.toNat n.toNat j)))) := by
    rw [z_cp_eq]
    refine hr.upd hb (by simp) (fun q hq => by simp [Array.getElem?_setIfInBounds, Ne.symm hq]) (cell := arrV (D.2.2.2.1 t) (G.2.2.2 b).toNat (fun j => z_v D (z_kd (z_ety t)) (va_cpy (fun j : Nat => h a j) (fun j : Nat => h b j) sp.toNat dp.toNat n.toNat j))) (by simp [Array.getElem?_setIfInBounds, hlt]) ?_
    unfold z_cell
    rw [if_neg (by omega)]
    refine ⟨n3, n4, ?_⟩
    congr 1
    funext j
    congr 1
    by_cases hj : dp.toNat ≤ j ∧ j < dp.toNat + n.toNat
    · rw [pk_cpy_in hj.1 hj.2]
      dsimp only
      rw [if_pos (by omega)]
      congr 1
      omega
    · rw [pk_cpy_out (by omega)]
      dsimp only
      rw [if_neg (by omega)]
  obtain ⟨t1, a1, b1⟩ := kn _ _ hrep' (fun q hq => by
      rcases List.mem_append.mp hq with hh | hh
      · exact hlo q hh
      · obtain ⟨z, -, hz⟩ := List.mem_map.mp hh
        rw [← hz]
        show D.1.size ≤ z_ad D b
        rw [z_ad_pos hb.1]
        omega) _ rfl X'
  exact ⟨t1, step t1 a1, b1⟩
end Copy
