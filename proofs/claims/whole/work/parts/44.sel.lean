/-! rows chosen, and groups of rows -/
theorem zct_s {p : Int → Prop} {r : Int} (h : 0 ≤ r) : zct p (r + 1).toNat = zct p r.toNat + z_b (p r) := by
  rw [show (r + 1).toNat = r.toNat + 1 by omega, zct, show ((r.toNat : Nat) : Int) = r by omega]
theorem zct_mn {p : Int → Prop} (a : Nat) : ∀ n : Nat, zct p a ≤ zct p (a + n)
  | 0 => Int.le_refl _
  | n + 1 => by
    have := zct_mn (p := p) a n
    have e : zct p (a + (n + 1)) = zct p (a + n) + z_b (p ((a + n : Nat) : Int)) := rfl
    have := z_b01 (p ((a + n : Nat) : Int))
    omega
theorem zct_le {p : Int → Prop} {a b : Int} (h : a ≤ b) : zct p a.toNat ≤ zct p b.toNat := by
  have := zct_mn (p := p) a.toNat (b.toNat - a.toNat)
  rwa [show a.toNat + (b.toNat - a.toNat) = b.toNat by omega] at this
theorem zct_lt {p : Int → Prop} {a b : Int} (h0 : 0 ≤ a) (h : a < b) (pa : p a) : zct p a.toNat < zct p b.toNat := by
  have h1 := zct_s (p := p) h0
  rw [z_b1 pa] at h1
  have := zct_le (p := p) (show a + 1 ≤ b by omega)
  omega
theorem zct_ij {p : Int → Prop} {a b : Int} (ha : 0 ≤ a) (hb : 0 ≤ b) (pa : p a) (pb : p b) (e : zct p a.toNat = zct p b.toNat) : a = b := by
  rcases Int.lt_trichotomy a b with q | q | q
  · have := zct_lt ha q pa; omega
  · exact q
  · have := zct_lt hb q pb; omega
theorem zct_su {p : Int → Prop} {g : Int} (g0 : 0 ≤ g) : ∀ n : Nat, g < zct p n → ∃ q : Int, 0 ≤ q ∧ q < n ∧ p q ∧ zct p q.toNat = g
  | 0, h => absurd h (by simp only [zct]; omega)
  | n + 1, h => by
    by_cases c : g < zct p n
    · obtain ⟨q, a, b, e⟩ := zct_su (p := p) g0 n c
      exact ⟨q, a, by omega, e⟩
    · simp only [zct] at h
      by_cases pn : p n
      · rw [z_b1 pn] at h
        exact ⟨n, by omega, by omega, pn, by rw [show ((n : Nat) : Int).toNat = n by omega]; omega⟩
      · rw [z_b0 pn] at h; omega
theorem zct_sr {p : Int → Prop} {g r : Int} (h0 : 0 ≤ r) (g0 : 0 ≤ g) (h : g < zct p r.toNat) : ∃ q : Int, 0 ≤ q ∧ q < r ∧ p q ∧ zct p q.toNat = g := by
  obtain ⟨q, a, b, e⟩ := zct_su g0 r.toNat h
  exact ⟨q, a, by omega, e⟩
theorem zct_r {p : Int → Prop} {r : Int} (h0 : 0 ≤ r) : 0 ≤ zct p r.toNat ∧ zct p r.toNat ≤ r := by
  have := zct_rg p r.toNat
  omega
/-- the row that was chosen as the g-th -/
noncomputable def zse (p : Int → Prop) : Nat → Int → Int
  | 0, _ => 0
  | n + 1, g => zif (p n ∧ zct p n = g) n (zse p n g)
theorem zse_n {p : Int → Prop} {q : Int} (h0 : 0 ≤ q) (pq : p q) : ∀ n : Nat, q < n → zse p n (zct p q.toNat) = q
  | 0, h => by omega
  | n + 1, h => by
    rw [zse]
    by_cases e : q = n
    · subst e
      rw [zif1 ⟨pq, by rw [show ((n : Nat) : Int).toNat = n by omega]⟩]
    · rw [zif0, zse_n h0 pq n (by omega)]
      rintro ⟨p1, p2⟩
      exact e (zct_ij h0 (by omega) pq p1 (by rw [show ((n : Nat) : Int).toNat = n by omega]; exact p2.symm))
theorem zse_q {p : Int → Prop} {q r : Int} (h0 : 0 ≤ q) (h : q < r) (pq : p q) : zse p r.toNat (zct p q.toNat) = q := zse_n h0 pq _ (by omega)
/-- the least -/
def lst (p : Int → Prop) (s : Int) : Prop := 0 ≤ s ∧ p s ∧ ∀ j : Int, 0 ≤ j → j < s → ¬ p j
theorem lst_ex {p : Int → Prop} : ∀ (n : Nat) (i : Int), i < n → 0 ≤ i → p i → ∃ s, s ≤ i ∧ lst p s
  | 0, i, h, h0, _ => by omega
  | n + 1, i, h, h0, pi => by
    by_cases c : ∃ j : Int, 0 ≤ j ∧ j < i ∧ p j
    · obtain ⟨j, j0, j1, pj⟩ := c
      obtain ⟨s, s1, s2⟩ := lst_ex (p := p) n j (by omega) j0 pj
      exact ⟨s, by omega, s2⟩
    · exact ⟨i, Int.le_refl _, h0, pi, fun j j0 j1 pj => c ⟨j, j0, j1, pj⟩⟩
noncomputable def zls (p : Int → Prop) : Int := @dite Int (∃ s, lst p s) (Classical.propDecidable _) (fun h => Classical.choose h) (fun _ => 0)
theorem zls_eq {p : Int → Prop} {s : Int} (h : lst p s) : zls p = s := by
  have ex : ∃ s, lst p s := ⟨s, h⟩
  have e : zls p = Classical.choose ex := by unfold zls; rw [dif_pos ex]
  have k := Classical.choose_spec ex
  rw [← e] at k
  rcases Int.lt_trichotomy (zls p) s with q | q | q
  · exact absurd k.2.1 (h.2.2 _ k.1 q)
  · exact q
  · exact absurd h.2.1 (k.2.2 _ h.1 q)
/-- rows that are the same in the columns f .. t - 1 -/
def zag (T : zTb) (f t r q : Int) : Prop := ∀ k : Int, f ≤ k → k < t → T.2.2 r k = T.2.2 q k
theorem zag.sy {T : zTb} {f t r q : Int} (k : zag T f t r q) : zag T f t q r := fun c a b => (k c a b).symm
theorem zag.tr {T : zTb} {f t r q s : Int} (k : zag T f t r q) (k2 : zag T f t q s) : zag T f t r s := fun c a b => (k c a b).trans (k2 c a b)
theorem zag.rf {T : zTb} {f t r : Int} : zag T f t r r := fun _ _ _ => rfl
/-- the first of its group -/
def zF (T : zTb) (f t r : Int) : Prop := ∀ q : Int, 0 ≤ q → q < r → ¬ zag T f t r q
noncomputable def zgi (T : zTb) (f t r : Int) : Int := zct (zF T f t) (zls (fun q => zag T f t r q)).toNat
theorem lst_F {T : zTb} {f t r s : Int} (h : lst (fun q => zag T f t r q) s) : zF T f t s := fun q q0 q1 k => h.2.2 q q0 q1 (zag.tr h.2.1 k)
/-- every row has a first of its group, at or before it -/
theorem zF_of {T : zTb} {f t r : Int} (h0 : 0 ≤ r) : ∃ s : Int, (0 ≤ s ∧ s ≤ r) ∧ zF T f t s ∧ zag T f t r s ∧ zls (fun q => zag T f t r q) = s := by
  obtain ⟨s, s1, s2⟩ := lst_ex (p := fun q => zag T f t r q) (r.toNat + 1) r (by omega) h0 zag.rf
  exact ⟨s, ⟨s2.1, s1⟩, lst_F s2, s2.2.1, zls_eq s2⟩
theorem zgi_of {T : zTb} {f t r s : Int} (h0 : 0 ≤ r) (hs : 0 ≤ s) (hF : zF T f t s) (k : zag T f t r s) : zgi T f t r = zct (zF T f t) s.toNat := by
  obtain ⟨s', ⟨a, b⟩, c, e, e2⟩ := zF_of (T := T) (f := f) (t := t) h0
  have : s' = s := by
    rcases Int.lt_trichotomy s' s with q | q | q
    · exact absurd (zag.tr k.sy e) (hF s' a q)
    · exact q
    · exact absurd (zag.tr e.sy k) (c s hs q)
  unfold zgi
  rw [e2, this]
theorem zgi_rg {T : zTb} {f t r R : Int} (h0 : 0 ≤ r) (h1 : r < R) : 0 ≤ zgi T f t r ∧ zgi T f t r < zct (zF T f t) R.toNat := by
  obtain ⟨s, ⟨a, b⟩, c, e, e2⟩ := zF_of (T := T) (f := f) (t := t) h0
  rw [zgi_of h0 a c e]
  exact ⟨(zct_r a).1, zct_lt a (by omega) c⟩
section Grp
variable {D : zD} {d : Nat} {G : zG} {h h0 : zH} {Q : zO → zG → zH → Prop}
/-- a table's cells, as the heap's -/
theorem isC_zag {i f t r q : Int} {T : zTb} (k : isC h i T) (hf : 0 ≤ f) (ht : t ≤ T.2.1) (r0 : 0 ≤ r) (r1 : r < T.1) (q0 : 0 ≤ q) (q1 : q < T.1) : (∀ c : Int, f ≤ c → c < t → h (i + 1) (r * h i 2 + c) = h (i + 1) (q * h i 2 + c)) ↔ zag T f t r q := by
  rw [k.2.1]
  refine ⟨fun w c a b => ?_, fun w c a b => ?_⟩
  · rw [← k.2.2 r c r0 r1 (by omega) (by omega), ← k.2.2 q c q0 q1 (by omega) (by omega)]
    exact w c a b
  · rw [k.2.2 r c r0 r1 (by omega) (by omega), k.2.2 q c q0 q1 (by omega) (by omega)]
    exact w c a b
theorem l_group18 (hd : 2 ≤ d) {i f t gr fi r n : Int} {T : zTb} (ti : z_is G i 3) (tf : z_is G fi 50) (nf : G.2.2.2 fi = 12) (ki : isC h i T) (oT : okT T) (hf : 0 ≤ f) (hft : f ≤ t) (ht : t ≤ T.2.1) (r0 : 0 ≤ r) (r1 : r < T.1) (en : n = zct (zF T f t) r.toNat) (kf : ∀ q : Int, 0 ≤ q → q < r → zF T f t q → h fi (zct (zF T f t) q.toNat) = q)
    (k1 : (∀ q : Int, 0 ≤ q → q < r → zF T f t q → ¬ zag T f t r q) → z_Y D M_X3_group d 50 [(0, 2, i), (1, 0, f), (2, 0, t), (3, 2, gr), (4, 2, fi), (5, 0, n), (6, 0, r), (7, 0, n)] [] G h Q)
    (k2 : ∀ q : Int, 0 ≤ q → q < r → zF T f t q → zag T f t r q → z_Y D M_X3_group d 50 [(0, 2, i), (1, 0, f), (2, 0, t), (3, 2, gr), (4, 2, fi), (5, 0, n), (6, 0, r), (7, 0, zct (zF T f t) q.toNat)] [] G h Q) :
    ∀ (m : Nat) (g : Int), g = n - m → 0 ≤ g → (∀ q : Int, 0 ≤ q → q < r → zF T f t q → zct (zF T f t) q.toNat < g → ¬ zag T f t r q) →
    z_Y D M_X3_group d 18 [(0, 2, i), (1, 0, f), (2, 0, t), (3, 2, gr), (4, 2, fi), (5, 0, n), (6, 0, r), (7, 0, g)] [] G h Q := by
  have sh := oT.1
  have rg := zct_r (p := zF T f t) r0
  have e1 := ki.1; have e2 := ki.2.1
  intro m
  induction m with
  | zero =>
    intro g e g0 hg
    refine b_X3_group_18 hd ⟨by omega, by omega⟩ ⟨by omega, by omega⟩ (fun _ => tf) (fun c => by omega) (fun c => by omega) (fun _ => ti) (fun c => by omega) (fun c => by omega) (fun c => by omega) (fun c => by omega) (fun c => by omega) (fun c => by omega) (fun c => by omega) (fun c => ?_) (fun c => by omega) (fun c => by omega)
    rw [show g = n by omega]
    exact k1 fun q q0 q1 qF => hg q q0 q1 qF (by rw [show g = n by omega, en]; exact zct_lt q0 q1 qF)
  | succ m ih =>
    intro g e g0 hg
    obtain ⟨q, q0, q1, qF, qe⟩ := zct_sr (p := zF T f t) r0 g0 (by omega)
    have eq := kf q q0 q1 qF
    rw [qe] at eq
    have zz := isC_zag (r := r) (q := q) ki hf ht r0 r1 q0 (by omega)
    refine b_X3_group_18 hd ⟨by omega, by omega⟩ ⟨by omega, by omega⟩ (fun _ => tf) (fun c => by omega) (fun c => by omega) (fun _ => ti) (fun _ => isC_okS ki oT) (fun _ => isC_okC ki oT) (fun c => by omega) (fun c => by omega) (fun c => by omega) (fun c => by omega) (fun c => by omega) (fun c => by omega) (fun c c2 => ?_) (fun c c2 => ?_)
    · rw [eq] at c2
      have := k2 q q0 q1 qF (zz.1 c2)
      rwa [qe] at this
    · rw [eq] at c2
      refine ih (g + 1) (by omega) (by omega) fun q' a1 a2 a3 a4 w => ?_
      by_cases e5 : zct (zF T f t) q'.toNat < g
      · exact hg q' a1 a2 a3 e5 w
      · have : q' = q := zct_ij a1 q0 a3 qF (by omega)
        subst this
        exact c2 (zz.2 w)
/-- what a group call leaves: the groups of the rows and their firsts -/
def pG (T : zTb) (f t gr fi R : Int) (h0 h : zH) : Prop := (∀ a j : Int, ¬ a = gr → ¬ a = fi → h a j = h0 a j) ∧ (∀ q : Int, 0 ≤ q → q < R → h gr q = zgi T f t q) ∧ ∀ q : Int, 0 ≤ q → q < R → zF T f t q → h fi (zct (zF T f t) q.toNat) = q
theorem l_group6 (hd : 2 ≤ d) {i f t gr fi : Int} {T : zTb} (ti : z_is G i 3) (tg : z_is G gr 50) (ng : G.2.2.2 gr = 12) (tf : z_is G fi 50) (nf : G.2.2.2 fi = 12) (hne : ¬ gr = fi) (n1 : ¬ i = gr ∧ ¬ i = fi ∧ ¬ i + 1 = gr ∧ ¬ i + 1 = fi) (ki : isC h0 i T) (oT : okT T) (hf : 0 ≤ f) (hft : f ≤ t) (ht : t ≤ T.2.1) : ∀ (m : Nat) (r : Int) (h : zH), r = T.1 - m → 0 ≤ r → pG T f t gr fi r h0 h →
    z_Y D M_X3_group d 6 [(0, 2, i), (1, 0, f), (2, 0, t), (3, 2, gr), (4, 2, fi), (5, 0, zct (zF T f t) r.toNat), (6, 0, r)] [] G h (fun out G' h' => out = .inl (some (0, zct (zF T f t) T.1.toNat)) ∧ G' = G ∧ pG T f t gr fi T.1 h0 h') := by
  have sh := oT.1
  intro m
  induction m with
  | zero =>
    intro r h e r0 p
    have k' := isC_keep ki (fun j => p.1 i j n1.1 n1.2.1) (fun j => p.1 (i + 1) j n1.2.2.1 n1.2.2.2)
    have e1 := k'.1
    rw [show r = T.1 by omega] at p ⊢
    exact b_X3_group_6 ti ⟨by omega, by omega⟩ ⟨by omega, by omega⟩ (fun _ => ⟨rfl, rfl, p⟩) (fun c => by omega)
  | succ m ih =>
    intro r h e r0 p
    have k' := isC_keep ki (fun j => p.1 i j n1.1 n1.2.1) (fun j => p.1 (i + 1) j n1.2.2.1 n1.2.2.2)
    have e1 := k'.1
    have rg := zct_r (p := zF T f t) r0
    have ss := zct_s (p := zF T f t) r0
    refine b_X3_group_6 ti ⟨by omega, by omega⟩ ⟨by omega, by omega⟩ (fun c => by omega) (fun c => l_group18 hd ti tf nf k' oT hf hft ht r0 (by omega) rfl p.2.2 (fun none => ?_) (fun q q0 q1 qF qa => ?_) (zct (zF T f t) r.toNat).toNat 0 (by omega) (by omega) (fun q q0 q1 qF qc => by have := zct_r (p := zF T f t) q0; omega))
    · have rF : zF T f t r := by
        intro q q0 q1 w
        obtain ⟨s, ⟨a, b⟩, c, e5, -⟩ := zF_of (T := T) (f := f) (t := t) q0
        exact none s a (by omega) c (w.tr e5)
      rw [z_b1 rF] at ss
      refine b_X3_group_50 ⟨by omega, by omega⟩ ⟨by omega, by omega⟩ (fun _ => tf) (fun _ => by omega) (fun _ => by omega) (fun c => absurd rfl c) (fun _ => b_X3_group_67 tg r0 (by omega) ?_)
      rw [← ss]
      refine ih (r + 1) _ (by omega) (by omega) ⟨fun a j a1 a2 => by rw [w_na a1, w_na a2]; exact p.1 a j a1 a2, fun q q0 q1 => ?_, fun q q0 q1 qF => ?_⟩
      · by_cases e5 : q = r
        · subst e5
          rw [w_s, zgi_of q0 q0 rF zag.rf]
        · rw [w_nj e5, w_na hne]
          exact p.2.1 q q0 (by omega)
      · rw [w_na (nesy hne)]
        by_cases e5 : q = r
        · subst e5
          rw [w_s]
        · have := zct_lt q0 (show q < r by omega) qF
          rw [w_nj (by omega)]
          exact p.2.2 q q0 (by omega) qF
    · have rF : ¬ zF T f t r := fun w => w q q0 q1 qa
      rw [z_b0 rF] at ss
      have lt := zct_lt q0 q1 qF
      have q2 := zct_r (p := zF T f t) q0
      refine b_X3_group_50 ⟨by omega, by omega⟩ ⟨by omega, by omega⟩ (fun _ => tf) (fun _ => by omega) (fun _ => by omega) (fun _ => b_X3_group_67 tg r0 (by omega) ?_) (fun c => absurd (Classical.not_not.mp c) (by omega))
      have ss' : zct (zF T f t) r.toNat = zct (zF T f t) (r + 1).toNat := by omega
      rw [ss']
      refine ih (r + 1) _ (by omega) (by omega) ⟨fun a j a1 a2 => by rw [w_na a1]; exact p.1 a j a1 a2, fun q' q0' q1' => ?_, fun q' q0' q1' qF' => ?_⟩
      · by_cases e5 : q' = r
        · subst e5
          rw [w_s, zgi_of q0' q0 qF qa]
        · rw [w_nj e5]
          exact p.2.1 q' q0' (by omega)
      · rw [w_na (nesy hne)]
        have : ¬ q' = r := fun e5 => rF (by rw [← e5]; exact qF')
        exact p.2.2 q' q0' (by omega) qF'
theorem c_group (hd : 2 ≤ d) {i f t gr fi : Int} {T : zTb} (ti : z_is G i 3) (tg : z_is G gr 50) (ng : G.2.2.2 gr = 12) (tf : z_is G fi 50) (nf : G.2.2.2 fi = 12) (hne : ¬ gr = fi) (n1 : ¬ i = gr ∧ ¬ i = fi ∧ ¬ i + 1 = gr ∧ ¬ i + 1 = fi) (ki : isC h i T) (oT : okT T) (hf : 0 ≤ f) (hft : f ≤ t) (ht : t ≤ T.2.1) : z_CY D M_X3_group d [(2, i), (0, f), (0, t), (2, gr), (2, fi)] G h (fun out G' h' => out = .inl (some (0, zct (zF T f t) T.1.toNat)) ∧ G' = G ∧ pG T f t gr fi T.1 h h') := by
  have sh := oT.1
  exact z_begin mo_X3_group rfl (nle rfl) (b_X3_group_0 (l_group6 hd ti tg ng tf nf hne n1 ki oT hf hft ht T.1.toNat 0 h (by omega) (by omega) ⟨fun _ _ _ _ => rfl, fun q a b => by omega, fun q a b => by omega⟩))
end Grp
