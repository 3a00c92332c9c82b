/-! the ways told -/
def tdI (h : zH) : Prop := ((h 51 2 = 52 ∧ h 51 4 = 54) ∨ (h 51 2 = 54 ∧ h 51 4 = 52)) ∧ ((h 51 3 = 53 ∧ h 51 5 = 55) ∨ (h 51 3 = 55 ∧ h 51 5 = 53))
def tdR (h : zH) (p e : Int) (X : List (Int × Int)) : Prop := ∀ (k : Nat) (ps : Int × Int), X[k]? = some ps → h p k = ps.1 ∧ h e k = ps.2
def gpt (F : Int → Bool) (p : Int) (L : List (Int × Int)) : List (Int × Int) := (L.filter fun ct => F ct.2).map fun ct => (p * 1024 + ct.1, ct.2)
theorem grw_s {ed : Int → List (Int × Int)} {F : Int → Bool} {X : List (Int × Int)} {i : Nat} (hi : i < X.length) : grw ed F (X.take (i + 1)) = grw ed F (X.take i) ++ gpt F X[i].1 (ed X[i].2) := by
  rw [List.take_succ_eq_append_getElem hi]
  unfold grw
  rw [List.flatMap_append]
  congr 1
  rw [List.flatMap_cons, List.flatMap_nil, List.append_nil]
  rfl
theorem gpt_s {F : Int → Bool} {p : Int} {L : List (Int × Int)} {j : Nat} (hj : j < L.length) : gpt F p (L.take (j + 1)) = gpt F p (L.take j) ++ (if F L[j].2 then [(p * 1024 + L[j].1, L[j].2)] else []) := by
  rw [List.take_succ_eq_append_getElem hj]
  unfold gpt
  rw [List.filter_append, List.map_append]
  congr 1
  by_cases z : F L[j].2 = true
  · rw [if_pos z, List.filter_cons_of_pos (by exact z)]; rfl
  · rw [if_neg z, List.filter_cons_of_neg (by exact z)]; rfl
theorem tk_lt {α : Type} {A : List α} {x : α} (h : (A.take 60).length < 60) : (A ++ [x]).take 60 = A.take 60 ++ [x] := by
  rw [List.length_take] at h
  rw [List.take_of_length_le (by rw [List.length_append, List.length_singleton]; omega), List.take_of_length_le (by omega)]
theorem tk_ge {α : Type} {A B : List α} (h : ¬ (A.take 60).length < 60) : (A ++ B).take 60 = A.take 60 := by
  rw [List.length_take] at h
  rw [List.take_append_of_le_length (by omega)]
section Told
variable {D : zD} {d : Nat} {G : zG} {h h0 h1 : zH} {Q : zO → zG → zH → Prop}
/-- what the edges are, for a told's States -/
def edO (G : zG) (h : zH) (s1 : Int) (ed : Int → List (Int × Int)) (t : Int) : Prop := (0 ≤ t ∧ t < s1) ∧ edE h (h 48 t) (ed t) ∧ ∀ ct ∈ ed t, (0 ≤ ct.2 ∧ ct.2 < s1) ∧ 0 ≤ ct.1 ∧ ct.1 < 1024
def f9F (h : zH) (t : Int) : Bool := decide (h (h 48 t) 9 = 1)
/-- the rows written so far -/
def gwI (h0 : zH) (A : List (Int × Int)) (n : Int) (g : zH) : Prop := (∀ b j : Int, ¬ b = h0 51 4 → ¬ b = h0 51 5 → g b j = h0 b j) ∧ n = ((A.take 60).length : Int) ∧ tdR g (h0 51 4) (h0 51 5) (A.take 60)
theorem l_grow32 {n s1 p t : Int} {ed : Int → List (Int × Int)} {i : Nat} (hl : lay G h0) (sn : s1 ≤ n) (po : pool G h0 n) (eg : edg G h0) (c12 : h0 33 12 ≤ G.2.2.2 (h0 33 11)) (td : tdI h0) (f9 : ∀ i : Int, 0 ≤ i → i < s1 → h0 (h0 48 i) 9 = 0 ∨ h0 (h0 48 i) 9 = 1) (eo : edO G h0 s1 ed t) (i60 : i < 60) (p0 : 0 ≤ p) (p1 : p < 1048576) (ep : h0 (h0 51 2) i = p) (A : List (Int × Int))
    (K : ∀ (x : Int) (g : zH), gwI h0 (A ++ gpt (f9F h0) p (ed t)) x g → z_Y D M_X7_grow d 5 [(0, 2, 51), (1, 2, 48), (2, 2, h0 33 11), (3, 0, x), (4, 0, (i : Int) + 1)] [] G g Q) :
    ∀ (m j : Nat) (x : Int) (g : zH), (ed t).length = j + m → gwI h0 (A ++ gpt (f9F h0) p ((ed t).take j)) x g → z_Y D M_X7_grow d 32 [(0, 2, 51), (1, 2, 48), (2, 2, h0 33 11), (3, 0, x), (4, 0, (i : Int)), (5, 2, h0 48 t), (6, 0, h0 (h0 48 t) 7 + j)] [] G g Q := by
  obtain ⟨⟨t0, t1⟩, ⟨y1, y2, y3, y4⟩, tg⟩ := eo
  have p15 := po.1
  have g4 := eg.2.2.2
  have a114 := (po.2.1 t t0 (by omega)).2.1
  have ta := (po.2.1 t t0 (by omega)).1.1
  have r4 : h0 51 4 = 52 ∨ h0 51 4 = 54 := by unfold tdI at td; omega
  have r5 : h0 51 5 = 53 ∨ h0 51 5 = 55 := by unfold tdI at td; omega
  have r2 : (h0 51 2 = 52 ∨ h0 51 2 = 54) ∧ ¬ h0 51 2 = h0 51 4 := by unfold tdI at td; omega
  have rw_is : ∀ a : Int, a = 52 ∨ a = 53 ∨ a = 54 ∨ a = 55 → z_is G a 50 ∧ G.2.2.2 a = 60 := by
    intro a q
    rcases q with rfl | rfl | rfl | rfl
    · exact ⟨hl.i 52 (by decide) rfl, hl.n 52 (by decide) rfl⟩
    · exact ⟨hl.i 53 (by decide) rfl, hl.n 53 (by decide) rfl⟩
    · exact ⟨hl.i 54 (by decide) rfl, hl.n 54 (by decide) rfl⟩
    · exact ⟨hl.i 55 (by decide) rfl, hl.n 55 (by decide) rfl⟩
  have i4 := rw_is (h0 51 4) (by omega)
  have i5 := rw_is (h0 51 5) (by omega)
  have i2 := rw_is (h0 51 2) (by omega)
  have t48 : z_is G 48 56 := hl.i 48 (by decide) rfl
  have n48 : G.2.2.2 48 = 1500 := hl.n 48 (by decide) rfl
  intro m
  induction m with
  | zero =>
    intro j x g e w
    obtain ⟨f, ex, tr⟩ := id w
    have ga : ∀ k : Int, g (h0 48 t) k = h0 (h0 48 t) k := fun k => f _ k (by omega) (by omega)
    have ej : (ed t).take j = ed t := List.take_of_length_le (by omega)
    rw [ej] at w
    refine b_X7_grow_32 ta ⟨by omega, by omega⟩ (by rw [ga]; exact ⟨by omega, by omega⟩) (fun c => absurd (by rw [ga]; omega) c) (fun c => absurd (by rw [ga]; omega) c) (fun c => absurd (by rw [ga]; omega) c) (fun c => absurd (by rw [ga]; omega) c) (fun c => absurd (by rw [ga]; omega) c) (fun c => absurd (by rw [ga]; omega) c) (fun c => absurd (by rw [ga]; omega) c) (fun c => absurd (by rw [ga]; omega) c) (fun c => absurd (by rw [ga]; omega) c) (fun c => absurd (by rw [ga]; omega) c) (fun c => absurd (by rw [ga]; omega) c) (fun c => absurd (by rw [ga]; omega) c) (fun c => absurd (by rw [ga]; omega) c) (fun c => absurd (by rw [ga]; omega) c) (fun c => absurd (by rw [ga]; omega) c) (fun c => absurd (by rw [ga]; omega) c) (fun c => absurd (by rw [ga]; omega) c) (fun _ => K x g w) (fun c => absurd (by rw [ga]; omega) c) (fun c => absurd (by rw [ga]; omega) c) (fun c => absurd (by rw [ga]; omega) c)
  | succ m ih =>
    intro j x g e w
    obtain ⟨f, ex, tr⟩ := id w
    have ga : ∀ k : Int, g (h0 48 t) k = h0 (h0 48 t) k := fun k => f _ k (by omega) (by omega)
    have jl : j < (ed t).length := by omega
    have hj : (ed t)[j]? = some (ed t)[j] := List.getElem?_eq_getElem jl
    have v := y4 j _ hj
    obtain ⟨u1, u2⟩ := tg _ (List.getElem_mem jl)
    have g51 : ∀ k : Int, g 51 k = h0 51 k := fun k => f 51 k (by omega) (by omega)
    have ge : ∀ k : Int, g (h0 33 11) k = h0 (h0 33 11) k := fun k => f _ k (by have := eg.2.1; omega) (by have := eg.2.1; omega)
    have g48 : ∀ k : Int, g 48 k = h0 48 k := fun k => f 48 k (by omega) (by omega)
    have ev : z_ishr (g (h0 33 11) (h0 (h0 48 t) 7 + j)) 10 = (ed t)[j].2 := by rw [ge, v]; exact dec_t u1.1 (by omega) u2.1 u2.2
    have ev2 : z_iand (g (h0 33 11) (h0 (h0 48 t) 7 + j)) 1023 = (ed t)[j].1 := by rw [ge, v, z_iand1023]; omega
    have b114 := (po.2.1 _ u1.1 (show (ed t)[j].2 < n by omega)).2.1
    have e9 : g (h0 48 (ed t)[j].2) 9 = h0 (h0 48 (ed t)[j].2) 9 := f _ 9 (by omega) (by omega)
    have r9 := f9 (ed t)[j].2 u1.1 u1.2
    have x60 : 0 ≤ x ∧ x ≤ 60 := by rw [ex, List.length_take]; omega
    have ev3 : g (h0 51 2) i = p := by rw [f _ _ (by omega) (by omega)]; exact ep
    refine b_X7_grow_32 ta ⟨by omega, by omega⟩ (by rw [ga]; exact ⟨by omega, by omega⟩) (fun _ => ⟨by omega, by omega⟩) (fun _ _ => eg.1) (fun _ _ => by omega) (fun _ _ => by omega) (fun _ _ => t48) (fun _ _ => by rw [ev]; exact u1.1) (fun _ _ => by rw [ev, n48]; omega) (fun _ _ => by rw [ev, g48]; exact (po.2.1 _ u1.1 (by omega)).1.1) (fun _ _ => by rw [ev, g48, e9]; exact ⟨by omega, by omega⟩) (fun _ _ _ => by rw [g51]; exact i2.1) (fun _ _ _ => by omega) (fun _ _ _ => by rw [g51, i2.2]; omega) (fun _ _ _ => by rw [g51]; exact i4.1) (fun _ _ _ => by omega) (fun _ c _ => by rw [g51, i4.2]; omega) (fun _ _ _ => by rw [g51]; exact i5.1) (fun _ c _ => by rw [g51, i5.2]; omega) (fun c => absurd c (by rw [ga]; omega)) (fun _ c => K x g ?_) (fun _ c c2 => ?_) (fun _ c c2 => ?_)
    · -- sixty are there
      have z : ¬ ((A ++ gpt (f9F h0) p ((ed t).take j)).take 60).length < 60 := by omega
      have e1 : gpt (f9F h0) p (ed t) = gpt (f9F h0) p ((ed t).take j) ++ gpt (f9F h0) p ((ed t).drop j) := by
        unfold gpt; rw [← List.map_append, ← List.filter_append, List.take_append_drop]
      have e2 : (A ++ gpt (f9F h0) p (ed t)).take 60 = (A ++ gpt (f9F h0) p ((ed t).take j)).take 60 := by rw [e1, ← List.append_assoc, tk_ge z]
      unfold gwI
      rw [e2]; exact w
    · rw [ev, g48, e9] at c2
      rw [show h0 (h0 48 t) 7 + (j : Int) + 1 = h0 (h0 48 t) 7 + ((j + 1 : Nat) : Int) by omega]
      refine ih (j + 1) x g (by omega) ?_
      rw [gpt_s jl, if_neg (by unfold f9F; rw [decide_eq_true_iff]; omega), List.append_nil]
      exact w
    · rw [ev, g48, e9] at c2
      rw [ev, ev2, g51, g51, g51, ev3]
      rw [show h0 (h0 48 t) 7 + (j : Int) + 1 = h0 (h0 48 t) 7 + ((j + 1 : Nat) : Int) by omega]
      have eo : z_ior (z_ishl p 10) (ed t)[j].1 = p * 1024 + (ed t)[j].1 := by
        rw [z_ishl_n p0 (by omega) (by omega) (by show p * 1024 < _; omega)]
        exact z_ior_add 10 p0 u2.1 (by show _ < (1024 : Int); omega) (by show p * 1024 + _ < _; omega)
      rw [eo]
      have lt : ((A ++ gpt (f9F h0) p ((ed t).take j)).take 60).length < 60 := by omega
      refine ih (j + 1) (x + 1) _ (by omega) ?_
      rw [gpt_s jl, if_pos (by unfold f9F; rw [decide_eq_true_iff]; omega), ← List.append_assoc]
      have n45 : ¬ h0 51 4 = h0 51 5 := by omega
      refine ⟨fun b k b1 b2 => by rw [w_na b2, w_na b1]; exact f b k b1 b2, ?_, fun k ps hk => ?_⟩
      · rw [tk_lt lt, List.length_append, ex]; show _ = ((_ + 1 : Nat) : Int); omega
      · rw [tk_lt lt] at hk
        by_cases l : k < ((A ++ gpt (f9F h0) p ((ed t).take j)).take 60).length
        · rw [List.getElem?_append_left l] at hk
          have y := tr k ps hk
          rw [w_na n45, w_nj (by omega), w_nj (by omega), w_na (fun q => n45 q.symm)]
          exact y
        · rw [List.getElem?_append_right (by omega)] at hk
          have l2 := (List.getElem?_eq_some_iff.mp hk).1
          have l2 : k - ((A ++ gpt (f9F h0) p ((ed t).take j)).take 60).length < 1 := l2
          have l3 : k - ((A ++ gpt (f9F h0) p ((ed t).take j)).take 60).length = 0 := by omega
          rw [l3] at hk
          cases hk
          have kx : (k : Int) = x := by omega
          rw [kx, w_na n45, w_s, w_s]
          exact ⟨rfl, rfl⟩
/-- one more step of each way told -/
def grQ (G : zG) (h : zH) (Y : List (Int × Int)) : zO → zG → zH → Prop := fun out G' h' => out = .inl none ∧ G' = G ∧ (∀ b j : Int, ¬ (51 ≤ b ∧ b ≤ 55) → h' b j = h b j) ∧ tdI h' ∧ h' 51 0 = (Y.length : Int) ∧ h' 51 1 = h 51 1 + 1 ∧ tdR h' (h' 51 2) (h' 51 3) Y
theorem c_grow (hd : 1 ≤ d) {n s1 : Int} {ed : Int → List (Int × Int)} {X : List (Int × Int)} (sn : s1 ≤ n) (po : pool G h n) (eg : edg G h) (c12 : h 33 12 ≤ G.2.2.2 (h 33 11)) (td : tdI h) (f9 : ∀ i : Int, 0 ≤ i → i < s1 → h (h 48 i) 9 = 0 ∨ h (h 48 i) 9 = 1) (x60 : X.length ≤ 60) (e0 : h 51 0 = (X.length : Int)) (tr : tdR h (h 51 2) (h 51 3) X) (eo : ∀ ps ∈ X, edO G h s1 ed ps.2 ∧ 0 ≤ ps.1 ∧ ps.1 < 1048576) :
    z_CY D M_X7_grow d [(2, 51), (2, 48), (2, h 33 11)] G h (grQ G h ((grw ed (f9F h) X).take 60)) := by
  intro hl
  have r4 : h 51 4 = 52 ∨ h 51 4 = 54 := by unfold tdI at td; omega
  have r5 : h 51 5 = 53 ∨ h 51 5 = 55 := by unfold tdI at td; omega
  have r3 : (h 51 3 = 53 ∨ h 51 3 = 55) ∧ ¬ h 51 3 = h 51 5 := by unfold tdI at td; omega
  have i3 : z_is G (h 51 3) 50 ∧ G.2.2.2 (h 51 3) = 60 := by
    rcases r3.1 with q | q <;> rw [q]
    · exact ⟨hl.i 53 (by decide) rfl, hl.n 53 (by decide) rfl⟩
    · exact ⟨hl.i 55 (by decide) rfl, hl.n 55 (by decide) rfl⟩
  have t48 : z_is G 48 56 := hl.i 48 (by decide) rfl
  have n48 : G.2.2.2 48 = 1500 := hl.n 48 (by decide) rfl
  have p15 := po.1
  have main : ∀ (m i : Nat) (x : Int) (g : zH), X.length = i + m → gwI h (grw ed (f9F h) (X.take i)) x g → z_Y D M_X7_grow d 5 [(0, 2, 51), (1, 2, 48), (2, 2, h 33 11), (3, 0, x), (4, 0, (i : Int))] [] G g (grQ G h ((grw ed (f9F h) X).take 60)) := by
    intro m
    induction m with
    | zero =>
      intro i x g e w
      obtain ⟨f, ex, tr'⟩ := w
      have g51 : ∀ k : Int, g 51 k = h 51 k := fun k => f 51 k (by omega) (by omega)
      rw [List.take_of_length_le (show X.length ≤ i by omega)] at ex tr'
      refine b_X7_grow_5 ⟨by omega, by omega⟩ (by rw [g51]; exact ⟨by omega, by omega⟩) (fun c => absurd (by rw [g51]; omega) c) (fun c => absurd (by rw [g51]; omega) c) (fun c => absurd (by rw [g51]; omega) c) (fun c => absurd (by rw [g51]; omega) c) (fun c => absurd (by rw [g51]; omega) c) (fun c => absurd (by rw [g51]; omega) c) (fun c => absurd (by rw [g51]; omega) c) (fun _ => ?_) (fun c => absurd (by rw [g51]; omega) c)
      refine z_Kv.of (d2 := d - 1) (by omega) (z_begin mo_X7_takeNext rfl (nle rfl) (b_X7_takeNext_0 (Q := fun o G' h' => o = .inl none ∧ G' = G ∧ h' = _) ⟨rfl, rfl, rfl⟩)) ?_
      rintro out G' h' hl' ⟨rfl, rfl, eh⟩
      refine ⟨rfl, b_X7_grow_134 ?_⟩
      rw [eh]
      obtain ⟨K, eK⟩ : ∃ K, K = z_wr (z_wr g 51 0 x) 51 1 (g 51 1 + 1) := ⟨_, rfl⟩
      have k51 : ∀ k : Int, ¬ k = 0 → ¬ k = 1 → K 51 k = h 51 k := fun k a b => by rw [eK, w_nj b, w_nj a]; exact g51 k
      have kn : ∀ a k : Int, ¬ a = 51 → K a k = g a k := fun a k q => by rw [eK, w_na q, w_na q]
      have kx : K 51 0 = x := by rw [eK, w_nj (by omega), w_s]
      have k1 : K 51 1 = h 51 1 + 1 := by rw [eK, w_s, g51]
      rw [← eK]
      obtain ⟨H, eH⟩ : ∃ H, H = z_wr (z_wr (z_wr (z_wr K 51 2 (K 51 4)) 51 4 (K 51 2)) 51 3 (K 51 5)) 51 5 (K 51 3) := ⟨_, rfl⟩
      rw [← eH]
      have H2 : H 51 2 = h 51 4 := by rw [eH, w_nj (by omega), w_nj (by omega), w_nj (by omega), w_s]; exact k51 4 (by omega) (by omega)
      have H4 : H 51 4 = h 51 2 := by rw [eH, w_nj (by omega), w_nj (by omega), w_s]; exact k51 2 (by omega) (by omega)
      have H3 : H 51 3 = h 51 5 := by rw [eH, w_nj (by omega), w_s]; exact k51 5 (by omega) (by omega)
      have H5 : H 51 5 = h 51 3 := by rw [eH, w_s]; exact k51 3 (by omega) (by omega)
      have Hn : ∀ a k : Int, ¬ a = 51 → H a k = g a k := fun a k q => by rw [eH, w_na q, w_na q, w_na q, w_na q]; exact kn a k q
      refine ⟨rfl, rfl, fun b k q => by rw [Hn b k (by omega)]; exact f b k (by omega) (by omega), ?_, ?_, ?_, fun k ps hk => ?_⟩
      · unfold tdI at td ⊢
        rw [H2, H3, H4, H5]; omega
      · rw [eH, w_nj (by omega), w_nj (by omega), w_nj (by omega), w_nj (by omega), kx]; exact ex
      · rw [eH, w_nj (by omega), w_nj (by omega), w_nj (by omega), w_nj (by omega)]; exact k1
      · rw [H2, H3, Hn _ _ (by omega), Hn _ _ (by omega)]; exact tr' k ps hk
    | succ m ih =>
      intro i x g e w
      obtain ⟨f, ex, tr'⟩ := id w
      have g51 : ∀ k : Int, g 51 k = h 51 k := fun k => f 51 k (by omega) (by omega)
      have il : i < X.length := by omega
      have hi : X[i]? = some X[i] := List.getElem?_eq_getElem il
      obtain ⟨v1, v2⟩ := tr i _ hi
      obtain ⟨o1, o2, o3⟩ := eo _ (List.getElem_mem il)
      have g3 : g (g 51 3) i = X[i].2 := by rw [g51, f _ _ (by omega) (by omega)]; exact v2
      have g48 : ∀ k : Int, g 48 k = h 48 k := fun k => f 48 k (by omega) (by omega)
      have a114 := (po.2.1 _ o1.1.1 (show X[i].2 < n by have := o1.1.2; omega)).2.1
      have ot := o1.1
      refine b_X7_grow_5 ⟨by omega, by omega⟩ (by rw [g51]; exact ⟨by omega, by omega⟩) (fun _ => by rw [g51]; exact i3.1) (fun _ => by omega) (fun _ => by rw [g51, i3.2]; omega) (fun _ => t48) (fun _ => by rw [g3]; exact o1.1.1) (fun _ => by rw [g3, n48]; omega) (fun _ => by rw [g3, g48]; exact (po.2.1 _ o1.1.1 (by omega)).1.1) (fun c => absurd c (by rw [g51]; omega)) (fun _ => ?_)
      rw [g3, g48, f _ 7 (by omega) (by omega)]
      have q := l_grow32 (D := D) (d := d) (Q := grQ G h ((grw ed (f9F h) X).take 60)) hl sn po eg c12 td f9 o1 (i := i) (by omega) o2 o3 v1 (grw ed (f9F h) (X.take i)) (fun x g w => by
        rw [← grw_s il] at w
        rw [show (i : Int) + 1 = ((i + 1 : Nat) : Int) by omega]
        exact ih (i + 1) x g (by omega) w) (ed X[i].2).length 0 x g (by omega) (by rw [List.take_zero]; show gwI h (_ ++ []) x g; rw [List.append_nil]; exact w)
      rw [show h (h 48 X[i].2) 7 + ((0 : Nat) : Int) = h (h 48 X[i].2) 7 by omega] at q
      exact q
  refine z_begin mo_X7_grow rfl (nle rfl) (b_X7_grow_0 ?_) hl
  exact main X.length 0 0 h (by omega) ⟨fun _ _ _ _ => rfl, rfl, fun k ps hk => by cases hk⟩
end Told
