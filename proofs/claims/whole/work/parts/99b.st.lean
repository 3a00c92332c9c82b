/-! tables, cell by cell; what a State holds -/
def fl (T : zTb) (j : Int) : Int := T.2.2 (j / T.2.1) (j % T.2.1)
theorem fl_rc {T : zTb} {r c : Int} (c0 : 0 ≤ c) (c1 : c < T.2.1) : fl T (r * T.2.1 + c) = T.2.2 r c := by
  unfold fl
  rw [Int.add_comm, Int.add_mul_ediv_right _ _ (by omega), Int.add_mul_emod_self_right, Int.ediv_eq_zero_of_lt c0 c1, Int.emod_eq_of_lt c0 c1, Int.zero_add]
theorem isC_fl {h : zH} {t : Int} {T : zTb} (k : isC h t T) (oT : okT T) {j : Int} (j0 : 0 ≤ j) (j1 : j < T.1 * T.2.1) : h (t + 1) j = fl T j := by
  obtain ⟨r, c, a1, a2, a3, a4, rfl⟩ := ix_of (by have := oT.1; omega) j0 j1
  rw [fl_rc a3 a4]; exact k.2.2 r c a1 a2 a3 a4
theorem isC_of {h : zH} {t : Int} {T : zTb} (e1 : h t 1 = T.1) (e2 : h t 2 = T.2.1) (k : ∀ j : Int, 0 ≤ j → j < T.1 * T.2.1 → h (t + 1) j = fl T j) : isC h t T :=
  ⟨e1, e2, fun r c a1 a2 a3 a4 => by have ix := ix_lt a1 a2 a3 a4; rw [k _ ix.1 ix.2, fl_rc a3 a4]⟩
theorem teq_fl {T U : zTb} (oT : okT T) : teq T U ↔ T.1 = U.1 ∧ T.2.1 = U.2.1 ∧ ∀ j : Int, 0 ≤ j → j < T.1 * T.2.1 → fl T j = fl U j := by
  constructor
  · intro q
    refine ⟨q.1, q.2.1, fun j j0 j1 => ?_⟩
    obtain ⟨r, c, a1, a2, a3, a4, rfl⟩ := ix_of (by have := oT.1; omega) j0 j1
    rw [fl_rc a3 a4, q.2.1, fl_rc a3 (by rw [← q.2.1]; exact a4)]
    exact q.2.2 r c a1 a2 a3 a4
  · intro q
    refine ⟨q.1, q.2.1, fun r c a1 a2 a3 a4 => ?_⟩
    have ix := ix_lt a1 a2 a3 a4
    have := q.2.2 _ ix.1 ix.2
    rw [fl_rc a3 a4, q.2.1, fl_rc a3 (by rw [← q.2.1]; exact a4)] at this
    exact this
theorem fl_ok {T : zTb} (oT : okT T) {j : Int} (j0 : 0 ≤ j) (j1 : j < T.1 * T.2.1) : -1 ≤ fl T j ∧ fl T j < 72057594037927936 := by
  obtain ⟨r, c, a1, a2, a3, a4, rfl⟩ := ix_of (by have := oT.1; omega) j0 j1
  rw [fl_rc a3 a4]; exact oT.2 r c a1 a2 a3 a4
def sz (T : zTb) : Int := T.1 * T.2.1
theorem sz_rg {T : zTb} (oT : okT T) : 1 ≤ sz T ∧ sz T ≤ 72 := by
  obtain ⟨a1, a2, a3, a4⟩ := oT.1
  exact rc_le a1 a2 a3 a4
/-! the mix -/
def mxs (v t : Int) : Int := z_ixor ((z_ixor v (z_lxor t (z_lushr t 32))) * 16777619) (z_iushr ((z_ixor v (z_lxor t (z_lushr t 32))) * 16777619) 13)
def mxG (f : Int → Int) : Nat → Int → Int → Int
  | 0, _, v => v
  | m + 1, j, v => mxG f m (j + 1) (mxs v (f j))
theorem mxG_c {f g : Int → Int} : ∀ (m : Nat) (j v : Int), (∀ i : Int, j ≤ i → i < j + m → f i = g i) → mxG f m j v = mxG g m j v := by
  intro m
  induction m with
  | zero => intro j v _; rfl
  | succ m ih =>
    intro j v k
    rw [mxG, mxG, k j (Int.le_refl _) (by omega), ih (j + 1) _ fun i a b => k i (by omega) (by omega)]
def mxT (T : zTb) (v : Int) : Int := mxG (fl T) (sz T).toNat 0 ((31 * ((31 * v) + T.1)) + T.2.1)
def mx (P : zSt) : Int := z_ixor (mxT P.2 (mxT P.1 1)) (z_iushr (mxT P.2 (mxT P.1 1)) 15)
theorem mx_in (P : zSt) : z_in (mx P) := by unfold mx z_ixor; exact z_in_toInt _
theorem mxT_eq {T U : zTb} (oT : okT T) (k : teq T U) (v : Int) : mxT T v = mxT U v := by
  have q := (teq_fl oT).1 k
  have e : sz U = sz T := by unfold sz; rw [q.1, q.2.1]
  have z := sz_rg oT
  unfold mxT
  rw [e, q.1, q.2.1]
  exact mxG_c _ _ _ fun i a b => q.2.2 i a (by unfold sz at b z; omega)
theorem mx_eq {P Q : zSt} (o : okP P) (k : seqS P Q) : mx P = mx Q := by
  unfold mx
  rw [mxT_eq o.1 k.1, mxT_eq o.2 k.2]
/-- a State's cell row and its shapes -/
def isS (h : zH) (a : Int) (P : zSt) : Prop := (h a 1 = P.1.1 ∧ h a 2 = P.1.2.1 ∧ h a 3 = P.2.1 ∧ h a 4 = P.2.2.1) ∧ (∀ j : Int, 0 ≤ j → j < sz P.1 → h (h a 0) j = fl P.1 j) ∧ (∀ j : Int, 0 ≤ j → j < sz P.2 → h (h a 0) (sz P.1 + j) = fl P.2 j) ∧ h a 5 = mx P
def stS (G : zG) (h : zH) (a : Int) : Prop := z_is G a 1 ∧ z_is G (h a 0) 51 ∧ 16 ≤ G.2.2.2 (h a 0) ∧ G.2.2.2 (h a 0) ≤ 144
theorem al_is {G : zG} {t n t' : Nat} {b : Int} (k : z_is G b t') : z_is (z_al G t n) b t' := by
  obtain ⟨h0, h1, h2⟩ := k
  have hne : ¬ b = (G.1 : Int) := by omega
  refine ⟨h0, by show b < ((G.1 + 1 : Nat) : Int); omega, ?_⟩
  simpa [z_al, hne] using h2
theorem al_new {G : zG} {t n : Nat} : z_is (z_al G t n) G.1 t := ⟨by omega, by show (G.1 : Int) < ((G.1 + 1 : Nat) : Int); omega, by simp [z_al]⟩
theorem al_ln {G : zG} {t n t' : Nat} {b : Int} (k : z_is G b t') : (z_al G t n).2.2.2 b = G.2.2.2 b := by
  have := k.2.1
  have hne : ¬ b = (G.1 : Int) := by omega
  simp [z_al, hne]
theorem al_lnn {G : zG} {t n : Nat} : (z_al G t n).2.2.2 G.1 = n := by simp [z_al]
theorem nw_s {h : zH} {a : Int} {f : Int → Int} {j : Int} : z_nw h a f a j = f j := by simp [z_nw]
theorem nw_n {h : zH} {a b : Int} {f : Int → Int} {j : Int} (k : ¬ b = a) : z_nw h a f b j = h b j := by simp [z_nw, k]
theorem cp_in {h : zH} {a sp b dp n j : Int} (h0 : dp ≤ j) (h1 : j < dp + n) : z_cp h a sp b dp n b j = h a (sp + (j - dp)) := by
  unfold z_cp; rw [if_pos ⟨rfl, h0, h1⟩]
theorem cp_out {h : zH} {a sp b dp n j : Int} (h0 : ¬ (dp ≤ j ∧ j < dp + n)) : z_cp h a sp b dp n b j = h b j := by
  unfold z_cp; rw [if_neg (fun q => h0 q.2)]
section St
variable {D : zD} {d : Nat} {G : zG} {h h0 h1 : zH} {Q : zO → zG → zH → Prop}
theorem l_isAt {a t f n : Int} (ta : z_is G a 1) (tc : z_is G (h a 0) 51) (tt : z_is G t 3) (f0 : 0 ≤ f) (fn : f + n ≤ G.2.2.2 (h a 0)) (n1 : n ≤ 72) (i1 : ∀ j : Int, 0 ≤ j → j < n → z_in64 (h (h a 0) (f + j))) (i2 : ∀ j : Int, 0 ≤ j → j < n → z_in64 (h (t + 1) j)) : ∀ (m : Nat) (i : Int), n = i + m → 0 ≤ i → (∀ j : Int, 0 ≤ j → j < i → h (h a 0) (f + j) = h (t + 1) j) →
    z_Y D M_X2_isAt d 3 [(0, 2, a), (1, 2, t), (2, 0, f), (3, 0, n), (4, 0, i)] [] G h (fun out G' h' => out = .inl (some (0, z_b (∀ j : Int, 0 ≤ j → j < n → h (h a 0) (f + j) = h (t + 1) j))) ∧ G' = G ∧ h' = h) := by
  intro m
  induction m with
  | zero =>
    intro i e i0 k
    refine b_X2_isAt_3 ⟨by omega, by omega⟩ ⟨by omega, by omega⟩ (fun c => by omega) (fun c => by omega) (fun c => by omega) (fun c => by omega) (fun c => by omega) (fun c => by omega) (fun c => by omega) (fun c => by omega) (fun c => by omega) (fun _ => ⟨?_, rfl, rfl⟩) (fun c => by omega) (fun c => by omega)
    rw [z_b1 fun j a b => k j a (by omega)]
  | succ m ih =>
    intro i e i0 k
    refine b_X2_isAt_3 ⟨by omega, by omega⟩ ⟨by omega, by omega⟩ (fun c => ta) (fun c => tc) (fun c => by omega) (fun c => by omega) (fun c => tt) (fun c => by omega) (fun c => by omega) (fun c => i1 i i0 (by omega)) (fun c => i2 i i0 (by omega)) (fun c => by omega) (fun c q => ?_) (fun c q => ⟨?_, rfl, rfl⟩)
    · refine ih (i + 1) (by omega) (by omega) fun j a b => ?_
      by_cases z : j = i
      · rw [z]; exact q
      · exact k j a (by omega)
    · rw [z_b0 fun w => q (w i i0 (by omega))]
theorem a_X2_isAt {a t f n : Int} (ta : z_is G a 1) (tc : z_is G (h a 0) 51) (tt : z_is G t 3) (f0 : 0 ≤ f) (fn : f + n ≤ G.2.2.2 (h a 0)) (n0 : 0 ≤ n) (n1 : n ≤ 72) (i1 : ∀ j : Int, 0 ≤ j → j < n → z_in64 (h (h a 0) (f + j))) (i2 : ∀ j : Int, 0 ≤ j → j < n → z_in64 (h (t + 1) j)) :
    z_Ei D M_X2_isAt d [(2, a), (2, t), (0, f), (0, n)] G h (z_b (∀ j : Int, 0 ≤ j → j < n → h (h a 0) (f + j) = h (t + 1) j)) h :=
  z_begin mo_X2_isAt rfl (nle rfl) (b_X2_isAt_0 (l_isAt ta tc tt f0 fn n1 i1 i2 n.toNat 0 (by omega) (by omega) fun j a b => by omega))
theorem a_X2_holds (hd : 1 ≤ d) {a t u : Int} {P S : zSt} (sa : stS G h a) (ks : isS h a P) (oP : okP P) (ln : sz P.1 + sz P.2 ≤ G.2.2.2 (h a 0)) (tt : z_is G t 3) (tu : z_is G u 3) (kt : isC h t S.1) (ku : isC h u S.2) (oS : okP S) :
    z_Ei D M_X2_holds d [(2, a), (2, t), (2, u)] G h (z_b (seqS P S)) h := by
  obtain ⟨ta, tc, l1, l2⟩ := sa
  obtain ⟨⟨d1, d2, d3, d4⟩, kc1, kc2, -⟩ := ks
  have z1 := sz_rg oP.1
  have z2 := sz_rg oP.2
  have p1 := oP.1.1
  have p2 := oP.2.1
  have s1 := oS.1.1
  have s2 := oS.2.1
  have et1 := kt.1
  have et2 := kt.2.1
  have eu1 := ku.1
  have eu2 := ku.2.1
  have esz : h a 1 * h a 2 = sz P.1 := by rw [d1, d2]; rfl
  have esz2 : h a 3 * h a 4 = sz P.2 := by rw [d3, d4]; rfl
  have no : ∀ {x y : Int}, ¬ x = y → (seqS P S → x = y) → (.inl (some (0, 0)) : zO) = .inl (some (0, z_b (seqS P S))) := by
    intro x y q w
    rw [z_b0 fun z => q (w z)]
  refine z_begin mo_X2_holds rfl (nle rfl) (b_X2_holds_0 ta tt ⟨by omega, by omega⟩ ⟨by omega, by omega⟩ (fun _ => ⟨by omega, by omega⟩) (fun _ => ⟨by omega, by omega⟩) (fun _ _ => tu) (fun _ _ => ⟨by omega, by omega⟩) (fun _ _ => ⟨by omega, by omega⟩) (fun _ _ _ => ⟨by omega, by omega⟩) (fun _ _ _ => ⟨by omega, by omega⟩)
    (fun c => ⟨no c fun q => by have := q.1.1; omega, rfl, rfl⟩) (fun _ _ c => ⟨no c fun q => by have := q.2.1; omega, rfl, rfl⟩) (fun c1 c2 c3 c4 => ?_) (fun _ _ _ c => ⟨no c fun q => by have := q.2.2.1; omega, rfl, rfl⟩) (fun _ c => ⟨no c fun q => by have := q.1.2.1; omega, rfl, rfl⟩))
  have g1 : P.1.1 = S.1.1 := by omega
  have g2 : P.1.2.1 = S.1.2.1 := by omega
  have g3 : P.2.1 = S.2.1 := by omega
  have g4 : P.2.2.1 = S.2.2.1 := by omega
  have y1 : sz S.1 = sz P.1 := by unfold sz; rw [g1, g2]
  have y2 : sz S.2 = sz P.2 := by unfold sz; rw [g3, g4]
  rw [esz]
  have q1 : ∀ j : Int, 0 ≤ j → j < sz P.1 → h (t + 1) j = fl S.1 j := fun j a b => isC_fl kt oS.1 a (by rw [← y1] at b; exact b)
  have q2 : ∀ j : Int, 0 ≤ j → j < sz P.2 → h (u + 1) j = fl S.2 j := fun j a b => isC_fl ku oS.2 a (by rw [← y2] at b; exact b)
  have in64 : ∀ {x : Int}, -1 ≤ x ∧ x < 72057594037927936 → z_in64 x := fun q => ⟨by omega, by omega⟩
  refine z_Ki.of (d2 := d - 1) (by omega) (a_X2_isAt ta tc tt (Int.le_refl _) (by omega) (by omega) z1.2 (fun j a b => by rw [Int.zero_add, kc1 j a b]; exact in64 (fl_ok oP.1 a b)) (fun j a b => by rw [q1 j a b]; exact in64 (fl_ok oS.1 a (by rw [← y1] at b; exact b)))) ?_
  rintro out G' h' hl' ⟨r1, rfl, rfl⟩
  have r01 := z_b01 (∀ j : Int, 0 ≤ j → j < sz P.1 → h' (h' a 0) (0 + j) = h' (t + 1) j)
  refine ⟨_, r1, b_X2_holds_65 ⟨by omega, by omega⟩ (fun _ => ta) (fun c => ⟨?_, rfl, rfl⟩) (fun c => ?_)⟩
  · rw [z_b0]
    intro q
    have q := ((teq_fl oP.1).1 q.1).2.2
    rw [z_b1 fun j a b => by rw [Int.zero_add, kc1 j a b, q1 j a b]; exact q j a b] at c
    cases c
  · rw [esz2]
    refine z_Ki.of (d2 := d - 1) (by omega) (a_X2_isAt ta tc tu (by omega) (by omega) (by omega) z2.2 (fun j a b => by rw [kc2 j a b]; exact in64 (fl_ok oP.2 a b)) (fun j a b => by rw [q2 j a b]; exact in64 (fl_ok oS.2 a (by rw [← y2] at b; exact b)))) ?_
    rintro out G'' h'' hl'' ⟨r2, rfl, rfl⟩
    have r02 := z_b01 (∀ j : Int, 0 ≤ j → j < sz P.2 → h'' (h'' a 0) (sz P.1 + j) = h'' (u + 1) j)
    have t1 : teq P.1 S.1 := (teq_fl oP.1).2 ⟨g1, g2, fun j a b => by
      refine Classical.byContradiction fun w => c (z_b0 fun z => w ?_)
      have := z j a b
      rw [Int.zero_add, kc1 j a b, q1 j a b] at this
      exact this⟩
    refine ⟨_, r2, b_X2_holds_83 ⟨by omega, by omega⟩ (fun c => ⟨?_, rfl, rfl⟩) (fun c => ⟨?_, rfl, rfl⟩)⟩
    · rw [z_b0]
      intro q
      have q := ((teq_fl oP.2).1 q.2).2.2
      rw [z_b1 fun j a b => by rw [kc2 j a b, q2 j a b]; exact q j a b] at c
      cases c
    · rw [z_b1]
      refine ⟨t1, (teq_fl oP.2).2 ⟨g3, g4, fun j a b => ?_⟩⟩
      refine Classical.byContradiction fun w => c (z_b0 fun z => w ?_)
      have := z j a b
      rw [kc2 j a b, q2 j a b] at this
      exact this
/-- the State's tables, laid -/
theorem c_lay (hd : 2 ≤ d) {a t u : Int} {P : zSt} (sa : stS G h a) (ks : isS h a P) (oP : okP P) (ln : sz P.1 + sz P.2 ≤ G.2.2.2 (h a 0)) (tt : z_is G t 3) (tu : z_is G u 3) (ntu : ¬ t = u) (nc : ¬ h a 0 = t + 1 ∧ ¬ h a 0 = u + 1) :
    z_CY D M_X2_lay d [(2, a), (2, t), (2, u)] G h (fun out G' h' => out = .inl none ∧ G' = G ∧ frB (fun b _ => b = t ∨ b = t + 1 ∨ b = u ∨ b = u + 1) h h' ∧ isC h' t P.1 ∧ isC h' u P.2) := by
  intro hl
  obtain ⟨ta, tc, l1, l2⟩ := sa
  obtain ⟨⟨d1, d2, d3, d4⟩, kc1, kc2, -⟩ := ks
  have z1 := sz_rg oP.1
  have z2 := sz_rg oP.2
  have p1 := oP.1.1
  have p2 := oP.2.1
  have esz : h a 1 * h a 2 = sz P.1 := by rw [d1, d2]; rfl
  have esz2 : h a 3 * h a 4 = sz P.2 := by rw [d3, d4]; rfl
  have m1 : ¬ t = u + 1 := z_isne tt (hl.ti tu) (by decide)
  have m2 : ¬ u = t + 1 := z_isne tu (hl.ti tt) (by decide)
  have m3 : ¬ h a 0 = t := z_isne tc tt (by decide)
  have m4 : ¬ h a 0 = u := z_isne tc tu (by decide)
  have ok1 : (1 ≤ h a 1 ∧ h a 1 ≤ 12) ∧ 1 ≤ h a 2 ∧ h a 2 ≤ 6 := ⟨⟨by omega, by omega⟩, by omega, by omega⟩
  have ok2 : (1 ≤ h a 3 ∧ h a 3 ≤ 12) ∧ 1 ≤ h a 4 ∧ h a 4 ≤ 6 := ⟨⟨by omega, by omega⟩, by omega, by omega⟩
  refine z_begin mo_X2_lay rfl (nle rfl) (b_X2_lay_0 hd ta tt ⟨by omega, by omega⟩ ⟨by omega, by omega⟩ (fun _ => tu) (fun _ => ⟨by omega, by omega⟩) (fun _ => ⟨by omega, by omega⟩) (fun _ _ => tc) (fun _ _ => by omega) (fun _ _ => by omega) (fun _ _ => by omega) (fun _ _ => by omega) (fun _ _ => by omega) (fun _ _ => by omega) (fun _ c => absurd ok2 c) (fun _ c => absurd ok2 c) (fun _ c => absurd ok2 c) (fun _ c => absurd ok2 c) (fun _ c => absurd ok2 c) (fun _ c => absurd ok2 c) (fun _ c => absurd ok2 c) (fun c => absurd ok1 c) (fun c => absurd ok1 c) (fun c => absurd ok1 c) (fun c => absurd ok1 c) (fun c => absurd ok1 c) (fun c => absurd ok1 c) (fun c => absurd ok1 c) (fun c => absurd ok1 c) (fun c => absurd ok1 c) (fun c => absurd ok1 c) (fun c => absurd ok1 c) (fun c => absurd ok1 c) (fun c => absurd ok1 c) (fun c => absurd ok1 c) (fun c => absurd ok1 c) (fun c => absurd ok1 c) (fun c => absurd ok1 c) (fun _ _ => ?_) (fun _ c => absurd ok2 c) (fun c => absurd ok1 c) (fun c => absurd ok1 c)) hl
  rw [esz, esz2]
  refine ⟨rfl, rfl, ?_, ?_, ?_⟩
  · exact (((((frB.rf.w (Or.inl rfl)).w (Or.inl rfl)).w (Or.inr (Or.inr (Or.inl rfl)))).w (Or.inr (Or.inr (Or.inl rfl)))).c (fun j _ _ => Or.inr (Or.inl rfl))).c (fun j _ _ => Or.inr (Or.inr (Or.inr rfl)))
  · refine isC_of ?_ ?_ fun j j0 j1 => ?_
    · rw [c_na m1, c_na (by omega), w_na ntu, w_na ntu, w_nj (by omega), w_s, d1]
    · rw [c_na m1, c_na (by omega), w_na ntu, w_na ntu, w_s, d2]
    · have j1 : j < sz P.1 := j1
      rw [c_na (by omega), cp_in (by omega) (by omega), w_na m4, w_na m4, w_na m3, w_na m3, show (0 : Int) + (j - 0) = j by omega]
      exact kc1 j j0 j1
  · refine isC_of ?_ ?_ fun j j0 j1 => ?_
    · rw [c_na (by omega), c_na m2, w_nj (by omega), w_s, d3]
    · rw [c_na (by omega), c_na m2, w_s, d4]
    · have j1 : j < sz P.2 := j1
      rw [cp_in (by omega) (by omega), c_na nc.1, w_na m4, w_na m4, w_na m3, w_na m3, show sz P.1 + (j - 0) = sz P.1 + j by omega]
      exact kc2 j j0 j1
/-- mixes -/
theorem l_mixOf20 {t : Int} {T : zTb} (tt : z_is G t 3) (k : isC h t T) (oT : okT T) : ∀ (m : Nat) (j v : Int), sz T = j + m → 0 ≤ j → z_Y D M_X1_mixOf d 20 [(0, 2, t), (2, 0, v), (3, 0, j)] [] G h (fun out G' h' => out = .inl (some (0, mxG (fl T) m j v)) ∧ G' = G ∧ h' = h) := by
  have z := sz_rg oT
  have e : h t 1 * h t 2 = sz T := by rw [k.1, k.2.1]; rfl
  intro m
  induction m with
  | zero =>
    intro j v q j0
    exact b_X1_mixOf_20 tt ⟨by omega, by omega⟩ ⟨by omega, by omega⟩ (fun c => by omega) (fun c => by omega) (fun _ => ⟨rfl, rfl, rfl⟩) (fun c => by omega)
  | succ m ih =>
    intro j v q j0
    refine b_X1_mixOf_20 tt ⟨by omega, by omega⟩ ⟨by omega, by omega⟩ (fun c => by omega) (fun c => by omega) (fun c => by omega) (fun _ => ?_)
    rw [isC_fl k oT j0 (show j < sz T by omega)]
    exact ih (j + 1) (mxs v (fl T j)) (by omega) (by omega)
theorem a_X1_mixOf {t : Int} {T : zTb} (tt : z_is G t 3) (k : isC h t T) (oT : okT T) (v : Int) : z_Ei D M_X1_mixOf d [(2, t), (0, v)] G h (mxT T v) h := by
  have z := sz_rg oT
  refine z_begin mo_X1_mixOf rfl (nle rfl) (b_X1_mixOf_0 tt ?_)
  rw [k.1, k.2.1]
  exact l_mixOf20 tt k oT (sz T).toNat 0 _ (by omega) (by omega)
theorem a_X1_mixOfMade (hd : 1 ≤ d) {S : zSt} (kt : isC h 38 S.1) (ku : isC h 40 S.2) (oS : okP S) : z_Ei D M_X1_mixOfMade d [(2, 33)] G h (mx S) h := by
  intro hl
  have t1 : z_is G 38 3 := hl.i 38 (by decide) rfl
  have t2 : z_is G 40 3 := hl.i 40 (by decide) rfl
  refine z_begin mo_X1_mixOfMade rfl (nle rfl) (b_X1_mixOfMade_0 (z_Ki.of (d2 := d - 1) (by omega) (a_X1_mixOf t1 kt oS.1 1) ?_)) hl
  rintro out G' h' hl' ⟨r1, rfl, rfl⟩
  refine ⟨_, r1, b_X1_mixOfMade_12 (z_Ki.of (d2 := d - 1) (by omega) (a_X1_mixOf t2 ku oS.2 _) ?_)⟩
  rintro out G' h' hl' ⟨r1, rfl, rfl⟩
  exact ⟨_, r1, b_X1_mixOfMade_15 ⟨rfl, rfl, rfl⟩⟩
end St
