/-! the model's tellWays, whole -/
section Tel2
variable {D : zD} {G : zG} {h h0 h1 : zH} {two : Prop} {W V B : zTb} {wi vi : Int} {lvl : Int → Int} {l : Int} {s : bS}
def tlM (two : Prop) (W V B : zTb) (wi vi : Int) (lvl : Int → Int) (l : Int) (s : bS) (h : zH) : Prop := msI two W V B wi vi h s ∧ lvR h lvl l ∧ ∀ l' : Int, 0 ≤ l' → l' ≤ l → ∀ t : Int, lvl l' ≤ t → t < lvl (l' + 1) → h 105 t = cap (pL two W V lvl l s (l - l').toNat t)
theorem tlM_T (m : tlM two W V B wi vi lvl l s h) (f : frB mTl h h1) : tlM two W V B wi vi lvl l s h1 := by
  obtain ⟨⟨a1, a2, ⟨a3, a4, a5⟩, a6, a7, a8, a9⟩, lr, ld⟩ := m
  have u : ∀ {a j : Int}, ¬ (mW a j) → ¬ (a = 88 ∧ (j = 41 ∨ j = 42)) → ¬ (108 ≤ a ∧ a ≤ 113) → h1 a j = h a j := fun x y z => f _ _ fun q => by
    rcases q with q | q | q
    · exact x q
    · exact y q
    · exact z q
  refine ⟨⟨mST_k a1 (fun b j p => u (by unfold mW; omega) (by omega) (by omega)), by rw [u (by unfold mW; omega) (by omega) (by omega)]; exact a2, ⟨a3, by rw [u (by unfold mW; omega) (by omega) (by omega)]; exact a4, ?_⟩, fun t => ?_, by rw [u (by unfold mW; omega) (by omega) (by omega)]; exact a7, fun i i0 i1 => by rw [u (by unfold mW; omega) (by omega) (by omega)]; exact a8 i i0 i1, a9⟩, fun k k0 k1 => by rw [u (by unfold mW; omega) (by omega) (by omega)]; exact lr k k0 k1, fun l' a b t t0 t1 => by rw [u (by unfold mW; omega) (by omega) (by omega)]; exact ld l' a b t t0 t1⟩
  · exact ⟨by rw [u (by unfold mW; omega) (by omega) (by omega)]; exact a5.1, by rw [u (by unfold mW; omega) (by omega) (by omega)]; exact a5.2.1, fun r c x1 x2 x3 x4 => by rw [u (by unfold mW; omega) (by omega) (by omega)]; exact a5.2.2 r c x1 x2 x3 x4⟩
  · obtain ⟨b1, b2, b3⟩ := a6 t
    exact ⟨b1, by rw [u (by unfold mW; omega) (by omega) (by omega)]; exact b2, by rw [u (by unfold mW; omega) (by omega) (by omega)]; exact b3.1, by rw [u (by unfold mW; omega) (by omega) (by omega)]; exact b3.2.1, fun r c x1 x2 x3 x4 => by rw [u (by unfold mW; omega) (by omega) (by omega)]; exact b3.2.2 r c x1 x2 x3 x4⟩
noncomputable def pP (two : Prop) (W V : zTb) (lvl : Int → Int) (l : Int) (s : bS) (r : Nat) (t : Int) : List (List Int) := pth (eD two s lvl l) (eE (eW W V) s) r t
def cbl (f : Int → List (List Int)) (pre : List Int) (L : List (Int × Int)) : List (List Int) := L.flatMap fun ct => (f ct.2).map fun p => pre ++ (ct.1 :: p)
theorem cbl_ap {f : Int → List (List Int)} {pre : List Int} {a b : List (Int × Int)} : cbl f pre (a ++ b) = cbl f pre a ++ cbl f pre b := by unfold cbl; rw [List.flatMap_append]
theorem cbl_0 {f : Int → List (List Int)} {pre : List Int} : ∀ L : List (Int × Int), sml (fun x => (f x).length) L = 0 → cbl f pre L = [] := by
  intro L
  induction L with
  | nil => intro _; rfl
  | cons ct L ih =>
    intro e
    have e : (f ct.2).length + sml (fun x => (f x).length) L = 0 := by
      unfold sml at e ⊢
      rw [List.map_cons, List.sum_cons] at e
      exact e
    have e1 : (f ct.2).length = 0 := by omega
    have e2 : sml (fun x => (f x).length) L = 0 := by omega
    have ih := ih e2
    unfold cbl at ih ⊢
    rw [List.flatMap_cons, ih, List.eq_nil_of_length_eq_zero e1]; rfl
theorem cbl_t {r : Nat} {pre : List Int} {dep t : Int} (d0 : 0 ≤ dep) (er : l = dep + (r + 1 : Nat)) : (pP two W V lvl l s (r + 1) t).map (fun p => pre ++ p) = cbl (pP two W V lvl l s r) pre (edP two (s.2 t) (lvl (dep + 1)) s 504) := by
  unfold cbl pP
  show ((eD two s lvl l r t).flatMap fun ct => (pth (eD two s lvl l) (eE (eW W V) s) r ct.2).map fun p => ct.1 :: p).map (fun p => pre ++ p) = _
  rw [show r = (l - dep - 1).toNat by omega, eD_at d0 (by omega), List.map_flatMap]
  congr 1
  funext ct
  rw [List.map_map]
  rfl
def tlQ (two : Prop) (W V : zTb) (lvl : Int → Int) (l : Int) (s : bS) (dep : Int) (X : List (List Int)) (G : zG) (h : zH) : zO → zG → zH → Prop := fun out G' h' => out = .inl none ∧ G' = G ∧ frB mTl h h' ∧ tdM l h' (X.take 60) ∧ ∀ a j : Int, 108 ≤ a → a ≤ 110 → j < dep → h' a j = h a j
/-- the deeper calls -/
def tlR (D : zD) (G : zG) (two : Prop) (W V B : zTb) (wi vi : Int) (lvl : Int → Int) (l : Int) (s : bS) (r d : Nat) : Prop := ∀ (x dep : Int) (h : zH) (T : List (List Int)) (pre : List Int), 0 ≤ dep → l = dep + r → lvl dep ≤ x → x < lvl (dep + 1) → (r = 0 → ¬ pP two W V lvl l s r x = []) → tdM l h T → rwM h pre → (pre.length : Int) = dep → tlM two W V B wi vi lvl l s h → z_CY D M_X13_tellWays d [(2, 88), (0, x), (0, dep), (0, l)] G h (tlQ two W V lvl l s dep (T ++ (pP two W V lvl l s r x).map fun p => pre ++ p) G h)
theorem l_tel132 {d r : Nat} (hd : 10 ≤ d) (IH : tlR D G two W V B wi vi lvl l s r (d - 1)) (o : lvO lvl l) (e0 : lvl (l + 1) = s.1) (tg : tgB two lvl l s) (l3 : l ≤ 3) {x dep n a : Int} {T X : List (List Int)} {pre : List Int} (d0 : 0 ≤ dep) (er : l = dep + (r + 1 : Nat)) (x0 : lvl dep ≤ x) (x1 : x < lvl (dep + 1)) (rp : rwM h0 pre) (lp : (pre.length : Int) = dep) (tm : tlM two W V B wi vi lvl l s h0) (n1 : 1 ≤ n) (n2 : n ≤ 14) (a0 : 0 ≤ a) (a1 : a ≤ 5)
    (K : ∀ g : zH, frB mTl h0 g → (∀ a j : Int, 108 ≤ a → a ≤ 110 → j < dep → g a j = h0 a j) → tdM l g ((T ++ cbl (pP two W V lvl l s r) pre (edP two (s.2 x) (lvl (dep + 1)) s (ei n (a + 1) 0).toNat)).take 60) → z_Y D M_X13_tellWays d 122 [(0, 2, 88), (1, 0, x), (2, 0, dep), (3, 0, l), (4, 0, n), (5, 0, a + 1)] [] G g (tlQ two W V lvl l s dep X G h0)) :
    ∀ (m : Nat) (b : Int) (g : zH), 6 = b + m → 0 ≤ b → frB mTl h0 g → (∀ a j : Int, 108 ≤ a → a ≤ 110 → j < dep → g a j = h0 a j) → tdM l g ((T ++ cbl (pP two W V lvl l s r) pre (edP two (s.2 x) (lvl (dep + 1)) s (ei n a b).toNat)).take 60) → z_Y D M_X13_tellWays d 132 [(0, 2, 88), (1, 0, x), (2, 0, dep), (3, 0, l), (4, 0, n), (5, 0, a), (6, 0, b)] [] G g (tlQ two W V lvl l s dep X G h0) := by
  intro m
  induction m with
  | zero =>
    intro b g e b0 f fr td
    refine b_X13_tellWays_132 ⟨by omega, by omega⟩ (fun c => by omega) (fun _ => K g f fr ?_) (fun c => by omega) (fun c => by omega)
    rw [show ei n a b = ei n (a + 1) 0 by unfold ei; omega] at td
    exact td
  | succ m ih =>
    intro b g e b0 f fr td
    have tmg := tlM_T tm f
    obtain ⟨ms, lr, ld⟩ := id tmg
    obtain ⟨⟨e29, s0, s15⟩, -⟩ := id ms.1
    have lb := lv_bd o e0 s15
    have bx := lb dep d0 (by omega)
    have bx2 := o.mo (a := dep + 1) (b := l + 1) (by omega) (by omega) (by omega)
    have td2 := td.2.1
    have td1 := td.1
    have st := cw_step (n := n) (a := a) (b := b) (h0 := g) (⟨ms, lr, frB.rf, fun l' p q t t0 t1 _ => ld l' p q t t0 t1⟩ : ctI two W V B wi vi lvl l s g dep x g) o tg d0 (by omega) x0 x1 n1 n2 a0 a1 b0 (by omega)
    have nxt : edP two (s.2 x) (lvl (dep + 1)) s (ei n a (b + 1)).toNat = edP two (s.2 x) (lvl (dep + 1)) s (ei n a b).toNat ++ edI two (s.2 x) (lvl (dep + 1)) s (ei n a b) := by
      rw [show ei n a (b + 1) = ei n a b + 1 by unfold ei; omega, edP_s (by unfold ei; omega)]
    have er' : (l - (dep + 1)).toNat = r := by omega
    rw [er'] at st
    refine b_X13_tellWays_132 ⟨by omega, by omega⟩ (fun _ => by rw [td2]; exact ⟨by omega, by omega⟩) (fun c => by omega) (fun _ c => ?_) (fun _ c => ?_)
    · refine ih (b + 1) g (by omega) (by omega) f fr ?_
      rw [nxt, cbl_ap, ← List.append_assoc, tk_ge (by omega)]; exact td
    · refine z_Ki.of (d2 := d - 1) (by omega) (m_leadsBy (l := l) (lvl := lvl) (by omega) ms (by omega) (by omega) n1 n2 a0 a1 b0 (by omega) lr (by omega) (by omega) l3 lb) ?_
      rintro out G' h1 hl1 ⟨rfl, f1, r1, mp⟩
      rw [st] at r1
      have F1 : frB mTl h0 h1 := f.tr (f1.imp fun _ _ q => Or.inl q)
      have fr1 : ∀ a j : Int, 108 ≤ a → a ≤ 110 → j < dep → h1 a j = h0 a j := fun a j p q r => by rw [f1 a j (by unfold mW; omega)]; exact fr a j p q r
      have keep : ∀ {g' : zH} {Y : List (List Int)}, (∀ a j : Int, ¬ mW a j → g' a j = g a j) → tdM l g Y → tdM l g' Y := fun fg t => ⟨t.1, by rw [fg 88 41 (by unfold mW; omega)]; exact t.2.1, fun q => by rw [fg 88 42 (by unfold mW; omega)]; exact t.2.2.1 q, fun i p hp => ⟨(t.2.2.2 i p hp).1, fun k c hc => by rw [fg 111 _ (by unfold mW; omega), fg 112 _ (by unfold mW; omega), fg 113 _ (by unfold mW; omega)]; exact (t.2.2.2 i p hp).2 k c hc⟩⟩
      have td1' := keep f1 td
      have rgc := cap_rg (sml (pL two W V lvl l s r) (edI two (s.2 x) (lvl (dep + 1)) s (ei n a b)))
      have zin : z_in (cap (sml (pL two W V lvl l s r) (edI two (s.2 x) (lvl (dep + 1)) s (ei n a b)))) := by
        generalize cap (sml (pL two W V lvl l s r) (edI two (s.2 x) (lvl (dep + 1)) s (ei n a b))) = y at *
        exact ⟨by omega, by omega⟩
      refine ⟨_, r1, b_X13_tellWays_162 zin (fun c2 => ?_) (fun c2 => ?_)⟩
      · -- it leads on
        have nz : ¬ sml (pL two W V lvl l s r) (edI two (s.2 x) (lvl (dep + 1)) s (ei n a b)) = 0 := fun q => c2 ((cap_z _).2 q)
        cases es : nx two n a b (s.2 x) with
        | none =>
          exfalso
          refine nz ?_
          unfold edI; rw [nxe_ei a0 a1 b0 (by omega), es]; rfl
        | some S =>
          have eI : edI two (s.2 x) (lvl (dep + 1)) s (ei n a b) = if lvl (dep + 1) ≤ idx s S then [(cod (ei n a b), idx s S)] else [] := by unfold edI; rw [nxe_ei a0 a1 b0 (by omega), es]
          have lv : lvl (dep + 1) ≤ idx s S := Classical.byContradiction fun q => nz (by rw [eI, if_neg q]; rfl)
          rw [if_pos lv] at eI
          have mI : (cod (ei n a b), idx s S) ∈ edP two (s.2 x) (lvl (dep + 1)) s 504 := by
            refine edI_mem 504 (ei n a b).toNat (by unfold ei; omega) ?_
            rw [show (((ei n a b).toNat : Nat) : Int) = ei n a b by unfold ei; omega, eI]; exact List.mem_singleton.mpr rfl
          have tt : idx s S < lvl (dep + 2) := tg dep d0 (by omega) x x0 x1 _ mI
          have ne : ¬ pP two W V lvl l s r (idx s S) = [] := fun q => nz (by
            rw [eI]
            show (pP two W V lvl l s r (idx s S)).length + 0 = 0
            rw [q]; rfl)
          have oP := (ms.1.2.1 x (by omega) (by omega)).2
          have oS := nx_ok oP es
          have ms1 := msI_W ms f1
          have sb : ¬ two → S.2 = B := fun z => by rw [nx_B z es]; exact (ms.2.2.2.2.2.2 z).2 x (by omega) (by omega)
          refine z_Ki.of (d2 := d - 1) (by omega) (a_search (B := B) (by omega) ms1.1 (mp S es) oS (fun z => ⟨sb z, (ms1.2.2.2.2.2.2 z).2⟩)) ?_
          rintro out G' h2 hl2 ⟨r2, rfl, rfl⟩
          refine ⟨_, r2, b_X13_tellWays_172 d0 (by omega) ?_⟩
          obtain ⟨H, eH⟩ : ∃ H, H = z_wr (z_wr (z_wr h2 108 dep n) 109 dep a) 110 dep b := ⟨_, rfl⟩
          rw [← eH]
          have oH : ∀ x j : Int, ¬ ((108 ≤ x ∧ x ≤ 110) ∧ j = dep) → H x j = h2 x j := fun x j q => by rw [eH]; unfold z_wr; rw [if_neg (by omega), if_neg (by omega), if_neg (by omega)]
          have FH : frB mTl h0 H := by rw [eH]; exact ((F1.w (Or.inr (Or.inr (by omega)))).w (Or.inr (Or.inr (by omega)))).w (Or.inr (Or.inr (by omega)))
          have tdH : tdM l H ((T ++ cbl (pP two W V lvl l s r) pre (edP two (s.2 x) (lvl (dep + 1)) s (ei n a b).toNat)).take 60) := ⟨td1'.1, by rw [oH 88 41 (by omega)]; exact td1'.2.1, fun q => by rw [oH 88 42 (by omega)]; exact td1'.2.2.1 q, fun i p hp => ⟨(td1'.2.2.2 i p hp).1, fun k c hc => by rw [oH 111 _ (by omega), oH 112 _ (by omega), oH 113 _ (by omega)]; exact (td1'.2.2.2 i p hp).2 k c hc⟩⟩
          obtain ⟨c1, c2, c3⟩ := ei_c (n := n) a0 a1 b0 (show b ≤ 5 by omega)
          have ec : cod (ei n a b) = n * 64 + a * 8 + b := by unfold cod zco; rw [c1, c2, c3]
          have rH : rwM H (pre ++ [cod (ei n a b)]) := by
            intro k c hk
            by_cases z : k < pre.length
            · rw [List.getElem?_append_left z] at hk
              rw [oH 108 _ (by omega), oH 109 _ (by omega), oH 110 _ (by omega), fr1 108 _ (by omega) (by omega) (by omega), fr1 109 _ (by omega) (by omega) (by omega), fr1 110 _ (by omega) (by omega) (by omega)]
              exact rp k c hk
            · rw [List.getElem?_append_right (by omega)] at hk
              have l2 : k - pre.length < 1 := (List.getElem?_eq_some_iff.mp hk).1
              rw [show k - pre.length = 0 by omega] at hk
              cases hk
              rw [show (k : Int) = dep by omega, ec]
              refine ⟨?_, ?_, ?_⟩
              · rw [eH, w_na (by omega), w_na (by omega), w_s]; omega
              · rw [eH, w_na (by omega), w_s]; omega
              · rw [eH, w_s]; omega
          refine z_Kv.of (d2 := d - 1) (by omega) (IH (idx s S) (dep + 1) H _ _ (by omega) (by omega) lv (by rw [show dep + 1 + 1 = dep + 2 by omega]; exact tt) (fun _ => ne) tdH rH (by rw [List.length_append]; show ((pre.length + 1 : Nat) : Int) = _; omega) (tlM_T tm FH)) ?_
          rintro out G' h3 hl3 ⟨r3, rfl, f3, td3, fr3⟩
          refine ⟨r3, b_X13_tellWays_208 (ih (b + 1) h3 (by omega) (by omega) (FH.tr f3) (fun x j p q r => ?_) ?_)⟩
          · rw [fr3 x j p q (by omega), oH x j (by omega)]; exact fr1 x j p q r
          · rw [tk_tk] at td3
            rw [nxt, cbl_ap, eI, ← List.append_assoc]
            have e9 : cbl (pP two W V lvl l s r) pre [(cod (ei n a b), idx s S)] = (pP two W V lvl l s r (idx s S)).map fun p => (pre ++ [cod (ei n a b)]) ++ p := by
              unfold cbl
              rw [List.flatMap_cons, List.flatMap_nil, List.append_nil]
              refine List.map_congr_left fun p _ => ?_
              rw [List.append_assoc]; rfl
            rw [e9]; exact td3
      · have q0 : sml (pL two W V lvl l s r) (edI two (s.2 x) (lvl (dep + 1)) s (ei n a b)) = 0 := Classical.byContradiction fun q => c2 fun w => q ((cap_z _).1 w)
        refine ih (b + 1) h1 (by omega) (by omega) F1 fr1 ?_
        rw [nxt, cbl_ap, cbl_0 (f := pP two W V lvl l s r) _ q0, List.append_nil]
        exact td1'
end Tel2
