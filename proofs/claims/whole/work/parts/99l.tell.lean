/-! the next level; what leads to an end -/
def lvN (lvl : Int → Int) (l v : Int) : Int → Int := fun k => if k = l + 2 then v else lvl k
theorem lvN_o {lvl : Int → Int} {l v k : Int} (h : ¬ k = l + 2) : lvN lvl l v k = lvl k := if_neg h
theorem lvN_n {lvl : Int → Int} {l v : Int} : lvN lvl l v (l + 2) = v := if_pos rfl
section Tell
variable {D : zD} {d : Nat} {G G1 G2 G0 : zG} {h h1 h2 h0 : zH} {two : Prop} {W V B : zTb} {Q : zO → zG → zH → Prop}
theorem skI_next {lvl : Int → Int} {l : Int} {s0 s : bS} {w0 w : Int → Nat} {RL : Int × bS} (k : skI two W V B lvl l s0 w0 G0 h0) (x : inI two W V B lvl l s0 w0 RL (lvl (l + 1)) s w G h) : RL = (1, s) ∧ skI two W V B (lvN lvl l s.1) (l + 1) s w G h := by
  obtain ⟨k1, ⟨o, k2⟩, k3, k4, k5, k6⟩ := k
  obtain ⟨x1, x2, x3, x4, x5, x6, x7⟩ := x
  have o1 := o.1
  have l00 := o.mo (Int.le_refl 0) o.1 (by omega)
  rw [o.2.1] at l00
  have lm := o.2.2 l o.1 (Int.le_refl _)
  have x21 := x2.1
  have lo : ∀ k : Int, k ≤ l + 1 → lvN lvl l s.1 k = lvl k := fun k hk => lvN_o (by omega)
  -- the edges of the levels before are as they were
  have old : ∀ l' : Int, 0 ≤ l' → l' < l → ∀ j : Int, lvl l' ≤ j → j < lvl (l' + 1) → edP two (s.2 j) (lvl (l' + 1)) s 504 = edP two (s0.2 j) (lvl (l' + 1)) s0 504 := by
    intro l' a b j c e
    have m1 := o.mo (a := l' + 1) (b := l) (by omega) (by omega) (by omega)
    have m0 := o.mo (Int.le_refl 0) a (by omega)
    rw [o.2.1] at m0
    have q := (k4 l' a (by omega) j c e (by omega)).2
    rw [x2.2 j (by omega) (by omega), edP_ex x2 504 q]
  refine ⟨?_, x1, ⟨⟨by omega, by rw [lo 0 (by omega)]; exact o.2.1, fun k a b => ?_⟩, by rw [show l + 1 + 1 = l + 2 by omega]; exact lvN_n⟩, ?_, ?_, ?_, ?_⟩
  · rw [← x3, Int.sub_self]; rfl
  · rw [lo k (by omega)]
    by_cases z : k = l + 1
    · subst z; rw [show l + 1 + 1 = l + 2 by omega, lvN_n]; omega
    · rw [lo (k + 1) (by omega)]; exact o.2.2 k a (by omega)
  · intro r Edf E cp
    rw [lo (l + 1) (Int.le_refl _)]
    have cp' : ∀ l' : Int, 0 ≤ l' → l' < l + 1 → ∀ i : Int, lvl l' ≤ i → i < lvl (l' + 1) → Edf (r + (l + 1 - l' - 1).toNat) i = edP two (s.2 i) (lvl (l' + 1)) s 504 := by
      intro l' a b i c e
      have q := cp l' a b i (by rw [lo l' (by omega)]; exact c) (by rw [lo (l' + 1) (by omega)]; exact e)
      rw [lo (l' + 1) (by omega)] at q
      exact q
    rw [x5 fun x => (pth Edf E r x).length]
    have e1 : sm (fun x => w0 x * sml (fun x => (pth Edf E r x).length) (edP two (s.2 x) (lvl (l + 1)) s 504)) (lvl (l + 1) - lvl l).toNat (lvl l) = sm (fun x => w0 x * (pth Edf E (r + 1) x).length) (s0.1 - lvl l).toNat (lvl l) := by
      rw [k2]
      refine sm_c _ _ fun j a b => ?_
      rw [pth_len]
      have q := cp' l o.1 (by omega) j a (by omega)
      rw [show r + (l + 1 - l - 1).toNat = r by omega] at q
      rw [q, k2]
    rw [e1, k3 (r + 1) Edf E fun l' a b i c e => ?_, show r + 1 + l.toNat = r + (l + 1).toNat by omega]
    rw [← old l' a b i c e, show r + 1 + (l - l' - 1).toNat = r + (l + 1 - l' - 1).toNat by omega]
    exact cp' l' a (by omega) i c e
  · intro l' a b j c e f
    rw [lo (l + 1) (Int.le_refl _)] at f
    have z : ¬ l' = l + 1 := fun z => by subst z; rw [lo (l + 1) (Int.le_refl _)] at c; omega
    rw [lo l' (by omega)] at c
    rw [lo (l' + 1) (by omega)] at e ⊢
    exact x6 l' a (by omega) j c e f
  · intro l' a b j c e ct hc
    rw [lo l' (by omega)] at c
    rw [lo (l' + 1) (by omega)] at e hc
    by_cases z : l' = l
    · subst z
      rw [lvN_n]
      exact (edP_tg (by omega) 504 ct hc).2
    · rw [lo (l' + 2) (by omega)]
      rw [old l' a (by omega) j c e] at hc
      exact k5 l' a (by omega) j c e ct hc
  · rw [lo (l + 1) (Int.le_refl _)]; exact x7
theorem cod_rg {e : Int} (e0 : 0 ≤ e) (e1 : e < 504) : 64 ≤ cod e ∧ cod e < 960 := by
  unfold cod zco cN cA cB; omega
theorem edP_cd {two : Prop} {P : zSt} {lv : Int} {s : bS} : ∀ (e : Nat) (ct : Int × Int), e ≤ 504 → ct ∈ edP two P lv s e → 64 ≤ ct.1 ∧ ct.1 < 960 := by
  intro e
  induction e with
  | zero => intro ct _ h; cases h
  | succ e ih =>
    intro ct e5 h
    rw [edP] at h
    rcases List.mem_append.mp h with q | q
    · exact ih ct (by omega) q
    · unfold edI at q
      split at q
      · cases q
      · split at q
        · have e := List.mem_singleton.mp q
          subst e
          exact cod_rg (by omega) (by omega)
        · cases q
theorem dec_t {t c : Int} (t0 : 0 ≤ t) (t1 : t < 1500) (c0 : 0 ≤ c) (c1 : c < 1024) : z_ishr (t * 1024 + c) 10 = t := by
  rw [z_ishr_n ⟨by omega, by omega⟩ (by omega) (by omega)]
  show (t * 1024 + c) / 1024 = t
  omega
/-- hasEdgeToEnd -/
theorem l_hasE {n s1 a : Int} {L : List (Int × Int)} (sn : s1 ≤ n) (po : pool G h n) (eg : edg G h) (ta : z_is G a 1) (ee : edE h a L) (c12 : h 33 12 ≤ G.2.2.2 (h 33 11)) (tg : ∀ ct ∈ L, (0 ≤ ct.2 ∧ ct.2 < s1) ∧ 0 ≤ ct.1 ∧ ct.1 < 1024) (f9 : ∀ i : Int, 0 ≤ i → i < s1 → h (h 48 i) 9 = 0 ∨ h (h 48 i) 9 = 1) : ∀ (m j : Nat), L.length = j + m → (∀ k : Nat, k < j → ∀ ct, L[k]? = some ct → h (h 48 ct.2) 9 = 0) →
    z_Y D M_X1_hasEdgeToEnd d 5 [(0, 2, 33), (1, 2, a), (2, 0, h a 7 + j)] [] G h (fun out G' h' => out = .inl (some (0, z_b (∃ ct ∈ L, h (h 48 ct.2) 9 = 1))) ∧ G' = G ∧ h' = h) := by
  obtain ⟨y1, y2, y3, y4⟩ := ee
  have g4 := eg.2.2.2
  have p1 := po.1
  intro m
  induction m with
  | zero =>
    intro j e k
    refine b_X1_hasEdgeToEnd_5 ta ⟨by omega, by omega⟩ ⟨by omega, by omega⟩ (fun c => by omega) (fun c => by omega) (fun c => by omega) (fun c => by omega) (fun c => by omega) (fun c => by omega) (fun c => by omega) (fun _ => ⟨?_, rfl, rfl⟩) (fun c => by omega) (fun c => by omega)
    rw [z_b0]
    rintro ⟨ct, hc, q⟩
    obtain ⟨i, hi⟩ := List.getElem?_of_mem hc
    have := (List.getElem?_eq_some_iff.mp hi).1
    rw [k i (by omega) ct hi] at q
    cases q
  | succ m ih =>
    intro j e k
    have jl : j < L.length := by omega
    have hj : L[j]? = some L[j] := List.getElem?_eq_getElem jl
    have v := y4 j _ hj
    obtain ⟨t1, t2⟩ := tg _ (List.getElem_mem jl)
    have ev : z_ishr (h (h 33 11) (h a 7 + j)) 10 = L[j].2 := by rw [v]; exact dec_t t1.1 (by omega) t2.1 t2.2
    have r9 := f9 L[j].2 t1.1 t1.2
    refine b_X1_hasEdgeToEnd_5 ta ⟨by omega, by omega⟩ ⟨by omega, by omega⟩ (fun _ => eg.1) (fun _ => by omega) (fun _ => by omega) (fun _ => by rw [ev]; exact t1.1) (fun _ => by rw [ev]; omega) (fun _ => by rw [ev]; exact (po.2.1 _ t1.1 (by omega)).1.1) (fun _ => by rw [ev]; exact ⟨by omega, by omega⟩) (fun c => by omega) (fun _ c => ?_) (fun _ c => ⟨?_, rfl, rfl⟩)
    · rw [ev] at c
      rw [show h a 7 + (j : Int) + 1 = h a 7 + ((j + 1 : Nat) : Int) by omega]
      refine ih (j + 1) (by omega) fun i i1 ct hi => ?_
      by_cases z : i = j
      · subst z
        rw [hj] at hi; cases hi
        omega
      · exact k i (by omega) ct hi
    · rw [ev] at c
      rw [z_b1 ⟨L[j], List.getElem_mem jl, by omega⟩]
theorem a_hasE {n s1 a : Int} {L : List (Int × Int)} (sn : s1 ≤ n) (po : pool G h n) (eg : edg G h) (ta : z_is G a 1) (ee : edE h a L) (c12 : h 33 12 ≤ G.2.2.2 (h 33 11)) (tg : ∀ ct ∈ L, (0 ≤ ct.2 ∧ ct.2 < s1) ∧ 0 ≤ ct.1 ∧ ct.1 < 1024) (f9 : ∀ i : Int, 0 ≤ i → i < s1 → h (h 48 i) 9 = 0 ∨ h (h 48 i) 9 = 1) : z_Ei D M_X1_hasEdgeToEnd d [(2, 33), (2, a)] G h (z_b (∃ ct ∈ L, h (h 48 ct.2) 9 = 1)) h := by
  have q := l_hasE (D := D) (d := d) sn po eg ta ee c12 tg f9 L.length 0 (by omega) (fun k a => by omega)
  rw [show h a 7 + ((0 : Nat) : Int) = h a 7 by omega] at q
  exact z_begin mo_X1_hasEdgeToEnd rfl (nle rfl) (b_X1_hasEdgeToEnd_0 ta q)
end Tell
