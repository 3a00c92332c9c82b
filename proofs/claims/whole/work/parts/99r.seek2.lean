/-! seek, and a way told -/
theorem pth_ok {Ed : Nat → Int → List (Int × Int)} {E : Int → Bool} (k : ∀ (r : Nat) (t : Int), ∀ ct ∈ Ed r t, 64 ≤ ct.1 ∧ ct.1 < 960) : ∀ (r : Nat) (t : Int) (p : List Int), p ∈ pth Ed E r t → p.length = r ∧ ∀ c ∈ p, 64 ≤ c ∧ c < 960 := by
  intro r
  induction r with
  | zero =>
    intro t p hp
    have hp : p ∈ (if E t then [[]] else []) := hp
    split at hp
    · rw [List.mem_singleton.mp hp]; exact ⟨rfl, fun c hc => by cases hc⟩
    · cases hp
  | succ r ih =>
    intro t p hp
    have hp : p ∈ ((Ed r t).flatMap fun ct => (pth Ed E r ct.2).map fun p => ct.1 :: p) := hp
    obtain ⟨ct, hc, hp⟩ := List.mem_flatMap.mp hp
    obtain ⟨q, hq, rfl⟩ := List.mem_map.mp hp
    obtain ⟨y1, y2⟩ := ih ct.2 q hq
    refine ⟨by rw [List.length_cons, y1], fun c hc' => ?_⟩
    rcases List.mem_cons.mp hc' with z | z
    · rw [z]; exact k r t ct hc
    · exact y2 c z
theorem eD_ok {two : Prop} {s : bS} {lvl : Int → Int} {L : Int} (r : Nat) (t : Int) (ct : Int × Int) (h : ct ∈ eD two s lvl L r t) : 64 ≤ ct.1 ∧ ct.1 < 960 := edP_cd 504 ct (Nat.le_refl _) h
/-- what is told of a search are ways -/
def okF (r : Int × Int × Int × Int × List (List Int)) : Prop := (r.2.2.2.2.length ≤ 60) ∧ ∀ p ∈ r.2.2.2.2, 0 ≤ r.1 ∧ (p.length : Int) = r.1 ∧ ∀ c ∈ p, 64 ≤ c ∧ c < 960
theorem fRR_ok {two : Prop} {E : zSt → Prop} {R : Int × bS × (Int → Int)} : okF (fRR two E R) := by
  unfold okF fRR
  dsimp only
  by_cases z : 0 ≤ R.1
  · rw [if_pos z]
    refine ⟨by rw [List.length_take]; omega, fun p hp => ⟨z, ?_⟩⟩
    obtain ⟨y1, y2⟩ := pth_ok eD_ok _ _ p (List.mem_of_mem_take hp)
    exact ⟨by omega, y2⟩
  · rw [if_neg z]; exact ⟨by decide, fun p hp => by cases hp⟩
theorem dec_p {p : List Int} {k : Nat} (l3 : p.length ≤ 3) (ok : ∀ c ∈ p, 64 ≤ c ∧ c < 960) (hk : k < p.length) : z_iand (z_ishr (enc 0 p) (((p.length : Int) - 1 - k) * 10)) 1023 = p[k] := by
  rw [z_iand1023]
  match p, l3, ok, hk with
  | [], _, _, hk => cases hk
  | [a], _, ok, hk =>
    have a1 := ok a (by simp)
    have k0 : k = 0 := by have : k < 1 := hk; omega
    subst k0
    show z_ishr (0 * 1024 + a) (((1 : Int) - 1 - 0) * 10) % 1024 = a
    rw [z_ishr_n ⟨by omega, by omega⟩ (by omega) (by omega)]
    show (0 * 1024 + a) / 1 % 1024 = a
    omega
  | [a, b], _, ok, hk =>
    have a1 := ok a (by simp)
    have b1 := ok b (by simp)
    have : k = 0 ∨ k = 1 := by have : k < 2 := hk; omega
    rcases this with rfl | rfl
    · show z_ishr ((0 * 1024 + a) * 1024 + b) (((2 : Int) - 1 - 0) * 10) % 1024 = a
      rw [z_ishr_n ⟨by omega, by omega⟩ (by omega) (by omega)]
      show ((0 * 1024 + a) * 1024 + b) / 1024 % 1024 = a
      omega
    · show z_ishr ((0 * 1024 + a) * 1024 + b) (((2 : Int) - 1 - 1) * 10) % 1024 = b
      rw [z_ishr_n ⟨by omega, by omega⟩ (by omega) (by omega)]
      show ((0 * 1024 + a) * 1024 + b) / 1 % 1024 = b
      omega
  | [a, b, c], _, ok, hk =>
    have a1 := ok a (by simp)
    have b1 := ok b (by simp)
    have c1 := ok c (by simp)
    have : k = 0 ∨ k = 1 ∨ k = 2 := by have : k < 3 := hk; omega
    rcases this with rfl | rfl | rfl
    · show z_ishr (((0 * 1024 + a) * 1024 + b) * 1024 + c) (((3 : Int) - 1 - 0) * 10) % 1024 = a
      rw [z_ishr_n ⟨by omega, by omega⟩ (by omega) (by omega)]
      show (((0 * 1024 + a) * 1024 + b) * 1024 + c) / 1048576 % 1024 = a
      omega
    · show z_ishr (((0 * 1024 + a) * 1024 + b) * 1024 + c) (((3 : Int) - 1 - 1) * 10) % 1024 = b
      rw [z_ishr_n ⟨by omega, by omega⟩ (by omega) (by omega)]
      show (((0 * 1024 + a) * 1024 + b) * 1024 + c) / 1024 % 1024 = b
      omega
    · show z_ishr (((0 * 1024 + a) * 1024 + b) * 1024 + c) (((3 : Int) - 1 - 2) * 10) % 1024 = c
      rw [z_ishr_n ⟨by omega, by omega⟩ (by omega) (by omega)]
      show (((0 * 1024 + a) * 1024 + b) * 1024 + c) / 1 % 1024 = c
      omega
  | a :: b :: c :: e :: q, l3, _, _ => simp at l3
def pW (p : List Int) : zWy := (p.length, fun k => p.getD k.toNat 0)
section Seek2
variable {D : zD} {d : Nat} {G G0 : zG} {h h1 h2 h0 g : zH} {two : Prop} {W V B : zTb}
theorem c_seek (hd : 8 ≤ d) {a b x y most : Int} {T U : zTb} (pi : PI G h) (ra : rdT G h a T) (rb : rdT G h b W) (tw : (two ∧ rdT G h x U ∧ rdT G h y V ∧ ¬ x = -1 ∧ ¬ y = -1) ∨ (¬ two ∧ x = -1 ∧ y = -1 ∧ rdT G h 46 U ∧ rdT G h 46 V)) (nB : ¬ two → noA U) (m0 : 0 ≤ most) (m3 : most ≤ 3) :
    z_CY D M_X1_seek d [(2, 33), (2, a), (2, b), (2, x), (2, y), (0, most)] G h (seQ two W V (bF two (eW W V) most.toNat 0 0 (1, fun _ => (T, U))) G h) := by
  have oU : okT U ∧ okT V := by
    rcases tw with ⟨-, q1, q2, -⟩ | ⟨-, -, -, q1, q2⟩
    · exact ⟨q1.2.2.1, q2.2.2.1⟩
    · exact ⟨q1.2.2.1, q2.2.2.1⟩
  refine z_begin mo_X1_seek rfl (nle rfl) (b_X1_seek_0 (z_Kv.of (d2 := d - 1) (by omega) (c_begin (by omega) pi ra rb tw) ?_))
  rintro out G1 g hl1 ⟨r1, si, fK, td, e51, e12, e16⟩
  refine ⟨r1, ?_⟩
  obtain ⟨lvl, l0, l1⟩ : ∃ lvl : Int → Int, lvl 0 = 0 ∧ lvl 1 = 1 := ⟨fun k => if k = 0 then 0 else 1, rfl, rfl⟩
  have sk : skI two W V U lvl 0 (1, fun _ => (T, U)) (fun x => if x = 0 then 0 + 1 else 0) G1 g := by
    refine ⟨si, ⟨⟨Int.le_refl _, l0, fun k k0 k1 => ?_⟩, l1⟩, fun r Edf E _ => ?_, fun l' a b j c e i => ?_, fun l' a b => by omega, by rw [l0, e12]; omega⟩
    · have : k = 0 := by omega
      subst this
      rw [show (0 : Int) + 1 = 1 from rfl, l0, l1]; omega
    · rw [l0]
      show sm _ 1 0 = (pth Edf E (r + 0) 0).length
      rw [sm, sm, Nat.add_zero]
      show 1 * (pth Edf E r 0).length = (pth Edf E r 0).length
      exact Nat.one_mul _
    · have : l' = 0 := by omega
      subst this
      rw [l0] at c i; omega
  have e15 : g 33 15 = zct (fun i => eW W V ((T, U) : zSt)) (1 : Int).toNat := si.2.2.2.2.2.1
  have rg := zct_rg (fun _ => eW W V ((T, U) : zSt)) (1 : Int).toNat
  have bq : bqI two (eW W V) (bF two (eW W V) most.toNat 0 0 (1, fun _ => (T, U))) most.toNat lvl 0 (1, fun _ => (T, U)) := by
    unfold bqI
    rw [l0]
    exact ⟨rfl, rfl, fun k k0 hk => by omega, fun _ _ => rfl⟩
  refine b_X1_seek_9 (by rw [e15]; exact ⟨by omega, by omega⟩) (fun c => ?_) (fun c => ?_)
  · have q := l_seek30 (D := D) (d := d) (G0 := G1) (h0 := g) (by omega) rb.2.2.1 oU.2 nB td e16 e51 m3 most.toNat 0 lvl (1, fun _ => (T, U)) _ G1 g (by omega) (by rw [l1]; omega) sk ((no_E si).1 c) bq ⟨ext.rf, fun _ _ _ _ _ _ => rfl⟩ (fun _ => rfl) rfl
    rw [l0, show (0 : Int) + 1 = 1 from rfl] at q
    exact q.mono fun out G' h' _ q => ⟨q.1, fK.tr q.2.1, q.2.2⟩
  · have ex : ∃ i : Int, 0 ≤ i ∧ i < 1 ∧ eW W V ((T, U) : zSt) := Classical.byContradiction fun z => c ((no_E si).2 z)
    have q := l_found (D := D) (d := d) (G0 := G) (h0 := h) (by omega) sk (by omega) (by rw [l1]; omega) (fun _ => by obtain ⟨i, -, -, q⟩ := ex; exact q) td e16 fK ex bq (K := fun G' h' => z_Y D M_X1_seek d 22 [] [] G' h' (seQ two W V (bF two (eW W V) most.toNat 0 0 (1, fun _ => (T, U))) G h)) fun G2 h2 r1 q => b_X1_seek_22 q
    rw [l0] at q
    exact q
/-- a way told, written -/
theorem isW_c {w : Int} {X Y : zWy} (k : isW h w X) (e : Y.1 = X.1) (f : ∀ i : Int, 0 ≤ i → i < X.1 → Y.2 i = X.2 i) : isW h w Y := ⟨by rw [e]; exact k.1, fun i a b => by rw [f i a (by omega)]; exact k.2 i a (by omega)⟩
theorem l_write {w i : Int} {p : List Int} (hl : lay G h0) (tw : z_is G w 7) (w56 : 56 ≤ w) (td : tdI h0) (i0 : 0 ≤ i) (i1 : i < 60) (l3 : p.length ≤ 3) (ok : ∀ c ∈ p, 64 ≤ c ∧ c < 960) (e1 : h0 (h0 51 2) i = enc 0 p) (hd : 1 ≤ d) : ∀ (m k : Nat) (h : zH), p.length = k + m → frB (fun a _ => a = w ∨ a = w + 1) h0 h → isW h w ((k : Int), fun j => p.getD j.toNat 0) →
    z_Y D M_X7_write d 11 [(0, 2, 51), (1, 0, i), (2, 2, w), (3, 0, (p.length : Int) - 1 - k)] [] G h (fun out G' h' => out = .inl none ∧ G' = G ∧ frB (fun a _ => a = w ∨ a = w + 1) h0 h' ∧ isW h' w (pW p)) := by
  have r2 : h0 51 2 = 52 ∨ h0 51 2 = 54 := by unfold tdI at td; omega
  have i2 : z_is G (h0 51 2) 50 ∧ G.2.2.2 (h0 51 2) = 60 := by
    rcases r2 with q | q <;> rw [q]
    · exact ⟨hl.i 52 (by decide) rfl, hl.n 52 (by decide) rfl⟩
    · exact ⟨hl.i 54 (by decide) rfl, hl.n 54 (by decide) rfl⟩
  intro m
  induction m with
  | zero =>
    intro k h e f kw
    refine b_X7_write_11 ⟨by omega, by omega⟩ (fun c => by omega) (fun c => by omega) (fun c => by omega) (fun c => by omega) (fun _ => ⟨rfl, rfl, f, ?_⟩) (fun c => by omega)
    unfold pW
    rw [show p.length = k by omega]; exact kw
  | succ m ih =>
    intro k h e f kw
    have f51 : h 51 2 = h0 51 2 := f 51 2 (by omega)
    have fr : h (h0 51 2) i = enc 0 p := by rw [f _ _ (by omega)]; exact e1
    refine b_X7_write_11 ⟨by omega, by omega⟩ (fun _ => by rw [f51]; exact i2.1) (fun _ => i0) (fun _ => by rw [f51, i2.2]; exact i1) (fun _ => tw) (fun c => by omega) (fun _ => ?_)
    rw [f51, fr, dec_p l3 ok (show k < p.length by omega)]
    refine z_Ki.of (d2 := d - 1) (by omega) (c_wadd tw kw ⟨by show (0 : Int) ≤ k; omega, by show (k : Int) ≤ 12; omega, fun j j0 j1 => ?_⟩ (by show (k : Int) < 12; omega)) ?_
    · have j1 : j < (k : Int) := j1
      have : j.toNat < p.length := by omega
      show 64 ≤ p.getD j.toNat 0 ∧ p.getD j.toNat 0 < 960
      rw [List.getD_eq_getElem?_getD, List.getElem?_eq_getElem this]
      exact ok _ (List.getElem_mem this)
    rintro out G' h' hl' ⟨r1, rfl, f', kw'⟩
    refine ⟨_, r1, b_X7_write_34 ?_⟩
    rw [show (p.length : Int) - 1 - (k : Int) + -1 = (p.length : Int) - 1 - ((k + 1 : Nat) : Int) by omega]
    refine ih (k + 1) h' (by omega) (f.tr f') (isW_c kw' (by show ((k + 1 : Nat) : Int) = (k : Int) + 1; omega) fun j j0 j1 => ?_)
    show p.getD j.toNat 0 = if j = (k : Int) then p[k] else p.getD j.toNat 0
    split
    · rename_i q
      have : j.toNat = k := by omega
      rw [this, List.getD_eq_getElem?_getD, List.getElem?_eq_getElem (show k < p.length by omega)]; rfl
    · rfl
theorem c_write (hd : 1 ≤ d) {w i : Int} {p : List Int} (tw : z_is G w 7) (w56 : 56 ≤ w) (td : tdI h) (i0 : 0 ≤ i) (i1 : i < 60) (l3 : p.length ≤ 3) (ok : ∀ c ∈ p, 64 ≤ c ∧ c < 960) (e1 : h (h 51 2) i = enc 0 p) (el : h 51 1 = p.length) : z_CY D M_X7_write d [(2, 51), (0, i), (2, w)] G h (fun out G' h' => out = .inl none ∧ G' = G ∧ frB (fun a _ => a = w ∨ a = w + 1) h h' ∧ isW h' w (pW p)) := by
  intro hl
  refine z_begin mo_X7_write rfl (nle rfl) (b_X7_write_0 tw (z_Kv.of (d2 := d - 1) (by omega) (z_begin mo_X9_clear rfl (nle rfl) (b_X9_clear_0 (Q := fun o G' h' => o = .inl none ∧ G' = _ ∧ h' = _) tw ⟨rfl, rfl, rfl⟩)) ?_)) hl
  rintro out G' h' hl' ⟨rfl, rfl, e⟩
  refine ⟨rfl, b_X7_write_4 ?_⟩
  have f : frB (fun a _ => a = w ∨ a = w + 1) h h' := by rw [e]; exact frB.rf.w (Or.inl rfl)
  rw [f 51 1 (by omega), el]
  have q := l_write (D := D) (d := d) hl tw w56 td i0 i1 l3 ok e1 hd p.length 0 h' (by omega) f ⟨by rw [e, w_s]; rfl, fun j a b => by have : j < 0 := b; omega⟩
  rw [show (p.length : Int) - 1 - ((0 : Nat) : Int) = p.length - 1 by omega] at q
  exact q
end Seek2
