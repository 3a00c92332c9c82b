/-! the model's search: spread -/
theorem tlk.rf {T : zTb} : tlk T T := ⟨rfl, rfl, fun _ _ _ _ _ _ => Or.inl rfl⟩
theorem nx_B {two : Prop} {n a b : Int} {P S : zSt} (z : ¬ two) (e : nx two n a b P = some S) : S.2 = P.2 := by
  unfold nx at e
  cases e1 : sMake n a b P.1 with
  | none => rw [e1] at e; cases e
  | some T => rw [e1] at e; dsimp only at e; rw [zif0 z] at e; cases e; rfl
section Ms5
variable {D : zD} {d : Nat} {G : zG} {h h0 h1 : zH} {two : Prop} {W V B : zTb} {wi vi : Int}
theorem mK_X {a j : Int} (q : mK a j) : mX a j := Or.inr (Or.inl q)
theorem mW_X {a j : Int} (q : mW a j) : mX a j := Or.inl q
/-- one more State, noted -/
theorem m_more (hd : 4 ≤ d) {s : bS} {S : zSt} (ms : msI two W V B wi vi h s) (oW : okT W) (oV : okT V) (m : mPr two h S) (oS : okP S) (ix : idx s S = -1) (s15 : s.1 < 1500) (sb : ¬ two → S.2 = B) {K : zG → zH → Prop} (hK : ∀ h', lay G h' → frB mX h h' → msI two W V B wi vi h' (adS s S) → K G h') :
    z_Kv D M_X13_keepState d [(2, 88)] G h (fun G' h' => z_Kv D M_X13_noteEnd d [(2, 88), (0, h' 88 29 - 1)] G' h' K) := by
  obtain ⟨a1, a2, ⟨a3, a4, a5⟩, a6, a7, a8, a9⟩ := id ms
  have s0 := a1.1
  refine z_Kv.of (d2 := d - 1) (by omega) (m_keepS (by omega) a1 m oS ix s15) ?_
  rintro out G' h1 hl1 ⟨r1, rfl, f1, ms1⟩
  refine ⟨r1, ?_⟩
  have e29 : h1 88 29 = s.1 + 1 := ms1.1.1
  rw [e29, show s.1 + 1 - 1 = s.1 by omega]
  have kp : ∀ {k : Int} {T : zTb}, isM h k T → isM h1 k T := fun m => isM_B m f1 (by unfold mK; omega) (by unfold mK; omega) (fun j _ _ => by unfold mK; omega)
  have v1 : two → (0 ≤ vi ∧ vi < 8) ∧ h1 88 34 = vi ∧ isM h1 vi V := fun t => by
    obtain ⟨b1, b2, b3⟩ := a6 t
    exact ⟨b1, by rw [f1 88 34 (by unfold mK; omega)]; exact b2, kp b3⟩
  refine z_Kv.of (d2 := d - 1) (by omega) (m_noteEnd (W := W) (V := V) (wi := wi) (vi := vi) (by omega) (by omega) s15 ⟨kp m.1, fun t => kp (m.2.1 t), by rw [f1 88 32 (by unfold mK; omega)]; exact m.2.2⟩ oS ⟨a3, by rw [f1 88 33 (by unfold mK; omega)]; exact a4, kp a5⟩ v1 oW oV (fun z => by rw [sb z, (a9 z).1]; exact tlk.rf)) ?_
  rintro out G' h2 hl2 ⟨r2, rfl, e2⟩
  refine ⟨r2, hK h2 hl2 (fun b j p => ?_) ?_⟩
  · rw [e2]
    have : z_wr (z_wr h1 107 s.1 (z_b (eW W V S))) 88 30 (h1 88 30 + z_b (eW W V S)) b j = h1 b j := by
      unfold z_wr
      rw [if_neg (fun q => p (Or.inr (Or.inr (Or.inr q)))), if_neg (fun q => p (Or.inr (Or.inr (Or.inl q.1))))]
    rw [this]
    exact f1 b j fun q => p (mK_X q)
  · have o : ∀ b j : Int, ¬ b = 107 → ¬ (b = 88 ∧ j = 30) → h2 b j = h1 b j := fun b j p q => by
      rw [e2]; unfold z_wr; rw [if_neg q, if_neg (fun w => p w.1)]
    have kp2 : ∀ {k : Int} {T : zTb}, isM h k T → isM h2 k T := fun m => by
      have q := kp m
      exact ⟨by rw [o 89 _ (by omega) (by omega)]; exact q.1, by rw [o 90 _ (by omega) (by omega)]; exact q.2.1, fun r c x1 x2 x3 x4 => by rw [o 91 _ (by omega) (by omega)]; exact q.2.2 r c x1 x2 x3 x4⟩
    refine ⟨mST_k ms1 (fun b j p => o b j (by omega) (by omega)), by rw [o 88 32 (by omega) (by omega), f1 88 32 (by unfold mK; omega)]; exact a2, ⟨a3, by rw [o 88 33 (by omega) (by omega), f1 88 33 (by unfold mK; omega)]; exact a4, kp2 a5⟩, fun t => ?_, ?_, fun i i0 i1 => ?_, fun z => ⟨(a9 z).1, fun i i0 i1 => ?_⟩⟩
    · obtain ⟨b1, b2, b3⟩ := a6 t
      exact ⟨b1, by rw [o 88 34 (by omega) (by omega), f1 88 34 (by unfold mK; omega)]; exact b2, kp2 b3⟩
    · show h2 88 30 = zct (fun i => eW W V ((adS s S).2 i)) (s.1 + 1).toNat
      rw [e2, w_s, f1 88 30 (by unfold mK; omega), a7, zct_s (by omega), adS_n]
      congr 1
      exact zct_congr _ fun i i0 i1 => by rw [adS_o (by omega)]
    · have i1 : i < s.1 + 1 := i1
      by_cases z : i = s.1
      · subst z; rw [adS_n, e2, w_na (by omega), w_s]
      · rw [adS_o z, e2, w_na (by omega), w_nj z, f1 107 i (by unfold mK; omega)]; exact a8 i i0 (by omega)
    · have i1 : i < s.1 + 1 := i1
      by_cases y : i = s.1
      · subst y; rw [adS_n]; exact sb z
      · rw [adS_o y]; exact (a9 z).2 i i0 (by omega)
def spQ (two : Prop) (W V B : zTb) (wi vi : Int) (R : Int × bS) (G : zG) (h : zH) : zO → zG → zH → Prop := fun out G' h' => G' = G ∧ frB mX h h' ∧ out = .inl (some (0, R.1)) ∧ msI two W V B wi vi h' R.2
theorem l_sp19 (hd : 8 ≤ d) {q : Int} {P : zSt} {s0 : bS} {R : Int × bS} (oW : okT W) (oV : okT V) (q0 : 0 ≤ q) (q1 : q < s0.1) (eP : s0.2 q = P) (oP : okP P) {n a : Int} (n1 : 1 ≤ n) (n2 : n ≤ 14) (a0 : 0 ≤ a) (a1 : a ≤ 5)
    (K : ∀ (s : bS) (h : zH), msI two W V B wi vi h s → frB mX h0 h → exS s0 s → bX two P (504 - ei n (a + 1) 0).toNat (ei n (a + 1) 0) s = R → z_Y D M_X13_spread d 10 [(0, 2, 88), (1, 0, q), (2, 0, n), (3, 0, a + 1)] [] G h (spQ two W V B wi vi R G h0)) :
    ∀ (m : Nat) (b : Int) (s : bS) (h : zH), 6 = b + m → 0 ≤ b → msI two W V B wi vi h s → frB mX h0 h → exS s0 s → bX two P (504 - ei n a b).toNat (ei n a b) s = R → z_Y D M_X13_spread d 19 [(0, 2, 88), (1, 0, q), (2, 0, n), (3, 0, a), (4, 0, b)] [] G h (spQ two W V B wi vi R G h0) := by
  intro m
  induction m with
  | zero =>
    intro b s h e b0 ms f x eb
    refine b_X13_spread_19 ⟨by omega, by omega⟩ (fun _ => K s h ms f x ?_) (fun c => by omega)
    rw [show ei n a b = ei n (a + 1) 0 by unfold ei; omega] at eb
    exact eb
  | succ m ih =>
    intro b s h e b0 ms f x eb
    have b5 : b ≤ 5 := by omega
    obtain ⟨⟨e29, s0', s15⟩, he, ds, -, -⟩ := id ms.1
    have x1 := x.1
    have eP' : s.2 q = P := by rw [x.2 q q0 q1]; exact eP
    have em : (504 - ei n a b).toNat = (504 - ei n a (b + 1)).toNat + 1 := by unfold ei; omega
    have en : ei n a b + 1 = ei n a (b + 1) := by unfold ei; omega
    have ee : nxe two (ei n a b) P = nx two n a b P := nxe_ei a0 a1 b0 b5
    rw [em] at eb
    refine b_X13_spread_19 ⟨by omega, by omega⟩ (fun c => by omega) (fun _ => ?_)
    have hq := he q q0 (by omega)
    rw [eP'] at hq
    refine z_Ki.of (d2 := d - 1) (by omega) (m_goes (by omega) q0 (by omega) hq.1 oP ms.2.1 n1 n2 a0 a1 b0 b5) ?_
    rintro out G' h1 hl1 ⟨rfl, f1, hr⟩
    have ms1 := msI_W ms f1
    have F1 : frB mX h0 h1 := f.tr (f1.imp fun x j q => mW_X q)
    cases es : nx two n a b P with
    | none =>
      rw [es] at hr ee
      rw [bX_n ee, en] at eb
      exact ⟨0, hr, b_X13_spread_35 ⟨by omega, by omega⟩ (fun _ => ih (b + 1) s h1 (by omega) (by omega) ms1 F1 x eb) (fun c => absurd rfl c)⟩
    | some S =>
      rw [es] at hr ee
      have oS := nx_ok oP es
      have sb : ¬ two → S.2 = B := fun z => by rw [nx_B z es, ← eP']; exact (ms.2.2.2.2.2.2 z).2 q q0 (by omega)
      refine ⟨1, hr.1, b_X13_spread_35 ⟨by omega, by omega⟩ (fun c => absurd c (by decide)) (fun _ => ?_)⟩
      refine z_Ki.of (d2 := d - 1) (by omega) (a_search (B := B) (by omega) ms1.1 hr.2 oS (fun z => ⟨sb z, (ms1.2.2.2.2.2.2 z).2⟩)) ?_
      rintro out G' h2 hl2 ⟨r2, rfl, rfl⟩
      have ir := idx_rg s S
      have ib : -1 ≤ idx s S ∧ idx s S < 1500 := by
        rcases ir with w | w
        · omega
        · have := w.2.1.1; omega
      have e291 : h2 88 29 = s.1 := ms1.1.1.1
      refine ⟨_, r2, b_X13_spread_42 ⟨by omega, by omega⟩ (fun _ => by rw [e291]; exact ⟨by omega, by omega⟩) (fun c c2 => ?_) (fun c c2 => ?_) (fun c => ?_)⟩
      · rw [e291] at c2
        rw [bX_a ee c c2, en] at eb
        obtain ⟨d2, hd2, kk⟩ := m_more (D := D) (d := d) (G := G') (K := fun G h => z_Y D M_X13_spread d 75 [(0, 2, 88), (1, 0, q), (2, 0, n), (3, 0, a), (4, 0, b)] [] G h (spQ two W V B wi vi R G' h0)) (by omega) ms1 oW oV hr.2 oS c (by omega) sb fun h' _ f' ms' => b_X13_spread_75 (ih (b + 1) (adS s S) h' (by omega) (by omega) ms' (F1.tr f') (x.tr adS_ex) eb)
        exact ⟨d2, hd2, kk.mono fun o G1 h3 hl3 q => by obtain ⟨r, e, z, w⟩ := q; exact ⟨r, e, z, b_X13_spread_65 w⟩⟩
      · rw [e291] at c2
        rw [bX_f ee c (by omega)] at eb
        refine ⟨rfl, F1, by rw [← eb], ?_⟩
        rw [← eb]; exact ms1
      · rw [bX_o ee c, en] at eb
        exact ih (b + 1) s h2 (by omega) (by omega) ms1 F1 x eb
theorem l_sp10 (hd : 8 ≤ d) {q : Int} {P : zSt} {s0 : bS} {R : Int × bS} (oW : okT W) (oV : okT V) (q0 : 0 ≤ q) (q1 : q < s0.1) (eP : s0.2 q = P) (oP : okP P) {n : Int} (n1 : 1 ≤ n) (n2 : n ≤ 14)
    (K : ∀ (s : bS) (h : zH), msI two W V B wi vi h s → frB mX h0 h → exS s0 s → bX two P (504 - ei (n + 1) 0 0).toNat (ei (n + 1) 0 0) s = R → z_Y D M_X13_spread d 2 [(0, 2, 88), (1, 0, q), (2, 0, n + 1)] [] G h (spQ two W V B wi vi R G h0)) :
    ∀ (m : Nat) (a : Int) (s : bS) (h : zH), 6 = a + m → 0 ≤ a → msI two W V B wi vi h s → frB mX h0 h → exS s0 s → bX two P (504 - ei n a 0).toNat (ei n a 0) s = R → z_Y D M_X13_spread d 10 [(0, 2, 88), (1, 0, q), (2, 0, n), (3, 0, a)] [] G h (spQ two W V B wi vi R G h0) := by
  intro m
  induction m with
  | zero =>
    intro a s h e a0 ms f x eb
    refine b_X13_spread_10 ⟨by omega, by omega⟩ (fun _ => K s h ms f x ?_) (fun c => by omega)
    rw [show ei n a 0 = ei (n + 1) 0 0 by unfold ei; omega] at eb
    exact eb
  | succ m ih =>
    intro a s h e a0 ms f x eb
    exact b_X13_spread_10 ⟨by omega, by omega⟩ (fun c => by omega) (fun _ => l_sp19 hd oW oV q0 q1 eP oP n1 n2 a0 (by omega) (fun s h ms f x eb => ih (a + 1) s h (by omega) (by omega) ms f x eb) 6 0 s h (by omega) (by omega) ms f x eb)
theorem l_sp2 (hd : 8 ≤ d) {q : Int} {P : zSt} {s0 : bS} {R : Int × bS} (oW : okT W) (oV : okT V) (q0 : 0 ≤ q) (q1 : q < s0.1) (eP : s0.2 q = P) (oP : okP P) : ∀ (m : Nat) (n : Int) (s : bS) (h : zH), 15 = n + m → 1 ≤ n → msI two W V B wi vi h s → frB mX h0 h → exS s0 s → bX two P (504 - ei n 0 0).toNat (ei n 0 0) s = R → z_Y D M_X13_spread d 2 [(0, 2, 88), (1, 0, q), (2, 0, n)] [] G h (spQ two W V B wi vi R G h0) := by
  intro m
  induction m with
  | zero =>
    intro n s h e n0 ms f x eb
    have en : n = 15 := by omega
    subst en
    rw [show ei 15 0 0 = 504 by decide] at eb
    have eb : (1, s) = R := eb
    refine b_X13_spread_2 ⟨by omega, by omega⟩ (fun _ => ⟨rfl, f, by rw [← eb], ?_⟩) (fun c => by omega)
    rw [← eb]; exact ms
  | succ m ih =>
    intro n s h e n0 ms f x eb
    exact b_X13_spread_2 ⟨by omega, by omega⟩ (fun c => by omega) (fun _ => l_sp10 hd oW oV q0 q1 eP oP (by omega) (by omega) (fun s h ms f x eb => ih (n + 1) s h (by omega) (by omega) ms f x eb) 6 0 s h (by omega) (by omega) ms f x eb)
theorem m_spread (hd : 8 ≤ d) {q : Int} {s : bS} (ms : msI two W V B wi vi h s) (oW : okT W) (oV : okT V) (q0 : 0 ≤ q) (q1 : q < s.1) : z_CY D M_X13_spread d [(2, 88), (0, q)] G h (spQ two W V B wi vi (bX two (s.2 q) 504 0 s) G h) :=
  z_begin mo_X13_spread rfl (nle rfl) (b_X13_spread_0 (l_sp2 hd oW oV q0 q1 rfl (ms.1.2.1 q q0 q1).2 14 1 s h (by omega) (by omega) ms frB.rf exS.rf rfl))
end Ms5
