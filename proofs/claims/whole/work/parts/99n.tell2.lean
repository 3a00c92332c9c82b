/-! tellWays -/
theorem lv_ex {lvl : Int → Int} (z0 : lvl 0 = 0) : ∀ (m : Nat) (t : Int), 0 ≤ t → t < lvl m → ∃ l' : Int, 0 ≤ l' ∧ l' < m ∧ lvl l' ≤ t ∧ t < lvl (l' + 1) := by
  intro m
  induction m with
  | zero => intro t t0 t1; rw [show ((0 : Nat) : Int) = 0 from rfl, z0] at t1; omega
  | succ m ih =>
    intro t t0 t1
    by_cases z : t < lvl m
    · obtain ⟨l', a, b, c, e⟩ := ih t t0 z
      exact ⟨l', a, by omega, c, e⟩
    · exact ⟨m, by omega, by omega, by omega, by rw [show (m : Int) + 1 = ((m + 1 : Nat) : Int) by omega]; exact t1⟩
theorem pth_ne {Ed : Nat → Int → List (Int × Int)} {E : Int → Bool} {r : Nat} {t : Int} : ¬ pth Ed E (r + 1) t = [] ↔ ∃ ct ∈ Ed r t, ¬ pth Ed E r ct.2 = [] := by
  show ¬ ((Ed r t).flatMap fun ct => (pth Ed E r ct.2).map fun p => ct.1 :: p) = [] ↔ _
  rw [List.flatMap_eq_nil_iff]
  constructor
  · intro k
    refine Classical.byContradiction fun w => k fun ct hc => ?_
    have : pth Ed E r ct.2 = [] := Classical.byContradiction fun z => w ⟨ct, hc, z⟩
    rw [this]; rfl
  · rintro ⟨ct, hc, z⟩ w
    exact z (List.map_eq_nil_iff.mp (w ct hc))
noncomputable def fF (Ed : Nat → Int → List (Int × Int)) (E : Int → Bool) (r : Nat) (t : Int) : Bool := zB (¬ pth Ed E r t = [])
section Tell2
variable {D : zD} {d : Nat} {G : zG} {h h1 h2 h0 g : zH} {two : Prop} {W V B : zTb} {Q : zO → zG → zH → Prop}
/-- the first sum: the ways to the ends -/
theorem l_tell2 (hd : 1 ≤ d) {lvl : Int → Int} {l : Int} {s : bS} {w : Int → Nat} {Ed : Nat → Int → List (Int × Int)} (sk : skI two W V B lvl l s w G h0)
    (K : ∀ g : zH, (∀ b j : Int, ¬ (b = 33 ∧ j = 16) → g b j = h0 b j) → g 33 16 = cap (sm (fun x => w x * (pth Ed (eE (eW W V) s) 0 x).length) (s.1 - lvl l).toNat (lvl l)) → z_Y D M_X1_tellWays d 55 [(0, 2, 33), (1, 0, l), (3, 0, lvl l - 1)] [] G g Q) :
    ∀ (m : Nat) (x : Int) (g : zH), s.1 = x + m → lvl l ≤ x → (∀ b j : Int, ¬ (b = 33 ∧ j = 16) → g b j = h0 b j) → g 33 16 = cap (sm (fun x => w x * (pth Ed (eE (eW W V) s) 0 x).length) (x - lvl l).toNat (lvl l)) → z_Y D M_X1_tellWays d 2 [(0, 2, 33), (1, 0, l), (2, 0, lvl l), (3, 0, x)] [] G g Q := by
  obtain ⟨⟨⟨n, ss⟩, -, -, -, -, -, est, -, -, -⟩, ⟨o, -⟩, -⟩ := sk
  have po := ss.1
  have sr := ss.2.1
  have p1 := po.1
  have e14 := ss.2.2.1
  have l00 := o.mo (Int.le_refl 0) o.1 (by omega)
  rw [o.2.1] at l00
  intro m
  induction m with
  | zero =>
    intro x g e x0 f v
    have e14' : g 33 14 = s.1 := (f 33 14 (by omega)).trans e14
    refine b_X1_tellWays_2 hd ⟨by omega, by omega⟩ (by rw [e14']; exact ⟨by omega, by omega⟩) (fun c => absurd (by rw [e14']; omega) c) (fun c => absurd (by rw [e14']; omega) c) (fun c => absurd (by rw [e14']; omega) c) (fun c => absurd (by rw [e14']; omega) c) (fun c => absurd (by rw [e14']; omega) c) (fun _ => K g f ?_) (fun c => absurd (by rw [e14']; omega) c) (fun c => absurd (by rw [e14']; omega) c)
    rw [show s.1 = x by omega]; exact v
  | succ m ih =>
    intro x g e x0 f v
    have e14' : g 33 14 = s.1 := (f 33 14 (by omega)).trans e14
    have g48 : ∀ k : Int, g 48 k = h0 48 k := fun k => f 48 k (by omega)
    have a114 := (po.2.1 x (by omega) (by omega)).2.1
    have gs : ∀ k : Int, g (h0 48 x) k = h0 (h0 48 x) k := fun k => f _ k (by omega)
    obtain ⟨w6, w9⟩ := est x (by omega) (by omega)
    have e1 : g (g 48 x) 9 = z_b (eW W V (s.2 x)) := by rw [g48, gs]; exact w9
    have e2 : g (g 48 x) 6 = cap (w x) := by rw [g48, gs]; exact w6
    have r9 := z_b01 (eW W V (s.2 x))
    have nxt : (x + 1 - lvl l).toNat = (x - lvl l).toNat + 1 := by omega
    have s1 : sm (fun x => w x * (pth Ed (eE (eW W V) s) 0 x).length) (x + 1 - lvl l).toNat (lvl l) = sm (fun x => w x * (pth Ed (eE (eW W V) s) 0 x).length) (x - lvl l).toNat (lvl l) + w x * (pth Ed (eE (eW W V) s) 0 x).length := by
      rw [nxt, sm_ap, show lvl l + ((x - lvl l).toNat : Int) = x by omega, sm, sm, Nat.add_zero]
    refine b_X1_tellWays_2 hd ⟨by omega, by omega⟩ (by rw [e14']; exact ⟨by omega, by omega⟩) (fun _ => by omega) (fun _ => by omega) (fun _ => by rw [g48]; exact (po.2.1 x (by omega) (by omega)).1.1) (fun _ => by rw [e1]; exact ⟨by omega, by omega⟩) (fun _ _ => by rw [v, e2]; exact cap2_in _ _) (fun c => absurd c (by rw [e14']; omega)) (fun _ c => ?_) (fun _ c => ?_)
    · rw [e1] at c
      have nE : ¬ eW W V (s.2 x) := fun z => by rw [z_b1 z] at c; cases c
      have p0 : pth Ed (eE (eW W V) s) 0 x = [] := by
        show (if eE (eW W V) s x = true then [[]] else []) = _
        rw [if_neg]
        unfold eE
        rw [zB1]; exact nE
      refine ih (x + 1) g (by omega) (by omega) f ?_
      rw [s1, p0, v]; rfl
    · rw [e1] at c
      have yE : eW W V (s.2 x) := Classical.byContradiction fun z => by rw [z_b0 z] at c; exact c rfl
      have p0 : pth Ed (eE (eW W V) s) 0 x = [[]] := by
        show (if eE (eW W V) s x = true then [[]] else []) = _
        rw [if_pos]
        unfold eE
        rw [zB1]; exact yE
      refine ih (x + 1) _ (by omega) (by omega) (fun b j q => by
        have : z_wr g 33 16 (if g 33 16 + g (g 48 x) 6 < 1000000 then g 33 16 + g (g 48 x) 6 else 1000000) b j = g b j := by unfold z_wr; rw [if_neg q]
        rw [this]; exact f b j q) ?_
      rw [w_s, s1, p0, v, e2, cap_add]
      show _ = cap (_ + w x * 1)
      rw [Nat.mul_one]
/-- the States that lead to an end -/
def ldI (W V : zTb) (Ed : Nat → Int → List (Int × Int)) (lvl : Int → Int) (l : Int) (s : bS) (i : Int) (h0 g : zH) : Prop := (∀ b j : Int, ¬ (114 ≤ b ∧ j = 9) → g b j = h0 b j) ∧ (∀ t : Int, 0 ≤ t → t < s.1 → g (h0 48 t) 9 = 0 ∨ g (h0 48 t) 9 = 1) ∧ (∀ b j : Int, z_is G b 50 ∨ z_is G b 51 → g b j = h0 b j) ∧ ∀ l' : Int, 0 ≤ l' → l' ≤ l → ∀ t : Int, lvl l' ≤ t → t < lvl (l' + 1) → i < t → g (h0 48 t) 9 = z_b (¬ pth Ed (eE (eW W V) s) (l - l').toNat t = [])
theorem eD_at {lvl : Int → Int} {l l' : Int} {s : bS} {t : Int} (a : 0 ≤ l') (b : l' < l) : eD two s lvl l (l - l' - 1).toNat t = edP two (s.2 t) (lvl (l' + 1)) s 504 := by
  unfold eD
  rw [show l - ((l - l' - 1).toNat : Int) = l' + 1 by omega]
theorem l_tell55 (hd : 1 ≤ d) {lvl : Int → Int} {l : Int} {s : bS} {w : Int → Nat} (sk : skI two W V B lvl l s w G h0) (hs : h0 33 12 ≤ G.2.2.2 (h0 33 11))
    (K : ∀ g : zH, ldI (G := G) W V (eD two s lvl l) lvl l s (-1) h0 g → z_Y D M_X1_tellWays d 55 [(0, 2, 33), (1, 0, l), (3, 0, -1)] [] G g Q) :
    ∀ (m : Nat) (i : Int) (g : zH), i + 1 = m → i < lvl l → ldI (G := G) W V (eD two s lvl l) lvl l s i h0 g → z_Y D M_X1_tellWays d 55 [(0, 2, 33), (1, 0, l), (3, 0, i)] [] G g Q := by
  obtain ⟨⟨⟨n, ss⟩, rm, eg, -, -, -, est, -, -, -⟩, ⟨o, lN⟩, -, eb, tg, -⟩ := sk
  have po := ss.1
  have sr := ss.2.1
  have p1 := po.1
  have lm := o.2.2 l o.1 (Int.le_refl _)
  intro m
  induction m with
  | zero =>
    intro i g e i1 x
    rw [show i = -1 by omega] at x ⊢
    exact K g x
  | succ m ih =>
    intro i g e i1 x
    obtain ⟨f, f9, fr, ld⟩ := x
    have i0 : 0 ≤ i := by omega
    have is : i < s.1 := by omega
    obtain ⟨st, a114, -⟩ := po.2.1 i i0 (by omega)
    obtain ⟨l', a, b, c, e2⟩ := lv_ex o.2.1 l.toNat i i0 (by rw [show ((l.toNat : Nat) : Int) = l by have := o.1; omega]; exact i1)
    have b : l' < l := by omega
    obtain ⟨ee, ek⟩ := eb l' a (by omega) i c e2 i1
    have g48 : ∀ k : Int, g 48 k = h0 48 k := fun k => f 48 k (by omega)
    have g11 : g 33 11 = h0 33 11 := f 33 11 (by omega)
    have g12 : g 33 12 = h0 33 12 := f 33 12 (by omega)
    have l1 := o.mo (Int.le_refl 0) (show 0 ≤ l' + 1 by omega) (by omega)
    rw [o.2.1] at l1
    have tgs : ∀ ct ∈ edP two (s.2 i) (lvl (l' + 1)) s 504, (0 ≤ ct.2 ∧ ct.2 < s.1) ∧ 0 ≤ ct.1 ∧ ct.1 < 1024 := fun ct hc => by
      have q1 := edP_tg l1 504 ct hc
      have q2 := edP_cd 504 ct (Nat.le_refl _) hc
      omega
    have po' : pool G g n := by
      refine ⟨po.1, fun j j0 j1 => ?_, fun j k j0 jk k1 => ?_, fun j j0 j1 => by rw [g48]; exact po.2.2.2 j j0 j1⟩
      · unfold stS; rw [g48, f _ 0 (by omega)]; exact po.2.1 j j0 j1
      · rw [g48, g48, f _ 0 (by omega), f _ 0 (by omega)]; exact po.2.2.1 j k j0 jk k1
    have eg' : edg G g := by unfold edg; rw [g11]; exact eg
    have ee' : edE g (h0 48 i) (edP two (s.2 i) (lvl (l' + 1)) s 504) := by
      unfold edE
      rw [f _ 7 (by omega), f _ 8 (by omega), g11, g12]
      exact ⟨ee.1, ee.2.1, ee.2.2.1, fun j ct hj => by rw [fr _ _ (Or.inl eg.1)]; exact ee.2.2.2 j ct hj⟩
    refine b_X1_tellWays_55 ⟨by omega, by omega⟩ (fun _ => by omega) (fun _ => by omega) (fun c => by omega) (fun _ => ?_)
    rw [g48]
    refine z_Ki.of (d2 := d - 1) (by omega) (a_hasE sr.2 po' eg' st.1 ee' (by rw [g11, g12]; exact hs) tgs (fun t t0 t1 => by rw [g48]; exact f9 t t0 t1)) ?_
    rintro out G' h' hl' ⟨r1, rfl, rfl⟩
    have eq : (∃ ct ∈ edP two (s.2 i) (lvl (l' + 1)) s 504, h' (h' 48 ct.2) 9 = 1) = ¬ pth (eD two s lvl l) (eE (eW W V) s) (l - l').toNat i = [] := by
      rw [show (l - l').toNat = (l - l' - 1).toNat + 1 by omega]
      refine propext (Iff.trans ?_ pth_ne.symm)
      rw [eD_at a b]
      refine exists_congr fun ct => and_congr_right fun hc => ?_
      have q1 := edP_tg l1 504 ct hc
      have q2 := tg l' a b i c e2 ct hc
      have q3 := ld (l' + 1) (by omega) (by omega) ct.2 q1.1 (by rw [show l' + 1 + 1 = l' + 2 by omega]; exact q2) (by omega)
      rw [g48, q3, show (l - (l' + 1)).toNat = (l - l' - 1).toNat by omega]
      constructor
      · intro z y
        rw [z_b0 (fun w => w y)] at z
        cases z
      · intro z; exact z_b1 z
    rw [eq] at r1
    have r01 := z_b01 (¬ pth (eD two s lvl l) (eE (eW W V) s) (l - l').toNat i = [])
    refine ⟨_, r1, b_X1_tellWays_75 st.1 r01 ?_⟩
    rw [show i + -1 = i - 1 by omega]
    have o1 : ∀ b j : Int, ¬ (b = h0 48 i ∧ j = 9) → z_wr h' (h0 48 i) 9 (z_b (¬ pth (eD two s lvl l) (eE (eW W V) s) (l - l').toNat i = [])) b j = h' b j := fun b j q => by unfold z_wr; rw [if_neg q]
    refine ih (i - 1) _ (by omega) (by omega) ⟨fun b j q => by rw [o1 b j (by omega)]; exact f b j q, fun t t0 t1 => ?_, fun b j q => ?_, fun k k0 k1 t t0 t1 ti => ?_⟩
    · by_cases z : t = i
      · subst z; rw [w_s]; exact r01
      · rw [o1 _ 9 (fun q => (po.ne t0 (show t < n by omega) i0 (by omega) z).1 q.1)]; exact f9 t t0 t1
    · rw [o1 b j (fun z => by rcases q with q | q <;> exact z_isne q st.1 (by decide) z.1)]; exact fr b j q
    · by_cases z : t = i
      · subst z
        have ek : k = l' := by
          rcases Int.lt_trichotomy k l' with y | y | y
          · have := o.mo (a := k + 1) (b := l') (by omega) (by omega) (by omega); omega
          · exact y
          · have := o.mo (a := l' + 1) (b := k) (by omega) (by omega) (by omega); omega
        rw [w_s, ek]
      · have tl := o.mo (a := k + 1) (b := l + 1) (by omega) (by omega) (by omega)
        have t00 : 0 ≤ t := by omega
        rw [o1 _ 9 (fun q => (po.ne t00 (show t < n by omega) i0 (by omega) z).1 q.1)]
        exact ld k k0 k1 t t0 t1 (by omega)
end Tell2
