/-! a State more -/
def pt (c : Int) : Int := if c < 144 then 2 * (144 - c) + 144 else 0
def ptS (G : zG) (h : zH) (i : Int) : Int := if h 48 i = -1 then 430 else pt (G.2.2.2 (h (h 48 i) 0))
/-- the room that may still be used -/
def rmS (G : zG) (h : zH) : Prop := (G.2.1 : Int) + sI (ptS G h) 1500 + 2 * (1512000 - G.2.2.2 (h 33 11)) ≤ 4000000 ∧ 10 * (G.1 : Int) ≤ G.2.1
def edg (G : zG) (h : zH) : Prop := z_is G (h 33 11) 50 ∧ (h 33 11 = 50 ∨ 114 ≤ h 33 11) ∧ 1024 ≤ G.2.2.2 (h 33 11) ∧ G.2.2.2 (h 33 11) ≤ 1512000
def ext (G G' : zG) : Prop := ∀ (b : Int) (t : Nat), z_is G b t → z_is G' b t ∧ G'.2.2.2 b = G.2.2.2 b
theorem ext.rf {G : zG} : ext G G := fun _ _ k => ⟨k, rfl⟩
theorem ext.tr {G G1 G2 : zG} (a : ext G G1) (b : ext G1 G2) : ext G G2 := fun x t k => ⟨(b x t (a x t k).1).1, ((b x t (a x t k).1).2).trans (a x t k).2⟩
theorem ext.al {G : zG} {t n : Nat} : ext G (z_al G t n) := fun _ _ k => ⟨al_is k, al_ln k⟩
theorem adS_o {s : bS} {S : zSt} {i : Int} (k : ¬ i = s.1) : (adS s S).2 i = s.2 i := if_neg k
theorem adS_n {s : bS} {S : zSt} : (adS s S).2 s.1 = S := if_pos rfl
/-- what a State more leaves alone -/
def frA (s : bS) (G : zG) (h : zH) (G' : zG) (h' : zH) : Prop := ext G G' ∧ (∀ b j : Int, b < 114 → ¬ (b = 33 ∧ (j = 14 ∨ j = 15)) → ¬ b = 48 → ¬ b = 49 → h' b j = h b j) ∧ (∀ i : Int, 0 ≤ i → i < s.1 → h' 48 i = h 48 i ∧ ∀ j : Int, h' (h 48 i) j = h (h 48 i) j) ∧ ∀ b j : Int, z_is G b 50 → 114 ≤ b → h' b j = h b j
theorem frA.tr {s : bS} {G G1 G2 : zG} {h h1 h2 : zH} (a : frA s G h G1 h1) (b : frA s G1 h1 G2 h2) : frA s G h G2 h2 := by
  refine ⟨a.1.tr b.1, fun x j p q r t => (b.2.1 x j p q r t).trans (a.2.1 x j p q r t), fun i i0 i1 => ?_, fun x j k q => (b.2.2.2 x j (a.1 x 50 k).1 q).trans (a.2.2.2 x j k q)⟩
  have q1 := a.2.2.1 i i0 i1
  have q2 := b.2.2.1 i i0 i1
  refine ⟨q2.1.trans q1.1, fun j => ?_⟩
  rw [← q1.2 j, ← q1.1]; exact q2.2 j
section Add
variable {D : zD} {d : Nat} {G G2 : zG} {h h0 h1 h2 h4 : zH} {Q : zO → zG → zH → Prop}
theorem l_addSS (hl : lay G h) {n k : Int} {s : bS} {S : zSt} (ss : SS G h n s) (sn : s.1 < n) (oS : okP S) (rm : rmS G h) (eg : edg G h) (sl : slQ h s S k) (s0 : h 49 k = 0) (hq : holdQ G h (h 48 s.1) S (.inl none) G2 h2)
    (f1 : ∀ b j : Int, ¬ b = 33 → ¬ (b = 49 ∧ j = k) → ¬ (b = h 48 s.1 ∧ j = 9) → h4 b j = h2 b j) (f2 : ∀ j : Int, ¬ j = 14 → ¬ j = 15 → h4 33 j = h2 33 j) (f3 : h4 33 14 = s.1 + 1) (f4 : h4 49 k = s.1 + 1) :
    SS G2 h4 n (adS s S) ∧ rmS G2 h4 ∧ frA s G h G2 h4 := by
  obtain ⟨po, sr, e14, ⟨hz, hr, hc⟩, ds, he⟩ := ss
  have p1 := po.1
  have l114 : (114 : Int) ≤ G.1 := by have := hl.1; have e : lay_t.length = 114 := rfl; omega
  obtain ⟨st, a1, a2⟩ := po.2.1 s.1 sr.1 sn
  obtain ⟨ta, tc, l1, l2⟩ := st
  obtain ⟨-, kS, -, fr, alt⟩ := hq
  have ga : h 48 s.1 < (G.1 : Int) := ta.2.1
  have gc : h (h 48 s.1) 0 < (G.1 : Int) := tc.2.1
  have mac : ¬ h 48 s.1 = h (h 48 s.1) 0 := z_isne ta tc (by decide)
  -- what is old
  have lo : ∀ b j : Int, b < 114 → h2 b j = h b j := fun b j q => fr b j (by omega) (by omega) (by omega)
  have hi : ∀ b j : Int, 114 ≤ b → ¬ (b = h 48 s.1 ∧ j = 9) → h4 b j = h2 b j := fun b j q w => f1 b j (by omega) (by omega) w
  have e48 : ∀ j : Int, h4 48 j = h 48 j := fun j => by rw [f1 48 j (by omega) (by omega) (by omega)]; exact lo 48 j (by omega)
  have e49 : ∀ j : Int, ¬ j = k → h4 49 j = h 49 j := fun j q => by rw [f1 49 j (by omega) (fun w => q w.2) (by omega)]; exact lo 49 j (by omega)
  have ex : ext G G2 := by
    rcases alt with q | ⟨c, q, -⟩
    · rw [q.1]; exact ext.rf
    · rw [q]; exact ext.al
  have ro : ∀ i : Int, 0 ≤ i → i < n → ¬ i = s.1 → (∀ j : Int, h4 (h 48 i) j = h (h 48 i) j) ∧ ∀ j : Int, h4 (h (h 48 i) 0) j = h (h (h 48 i) 0) j := by
    intro i i0 i1 ni
    obtain ⟨⟨x1, x2, -, -⟩, x3, x4⟩ := po.2.1 i i0 i1
    have ne := po.ne i0 i1 sr.1 sn ni
    have g1 : h 48 i < (G.1 : Int) := x1.2.1
    have g2 : h (h 48 i) 0 < (G.1 : Int) := x2.2.1
    refine ⟨fun j => ?_, fun j => ?_⟩
    · rw [hi _ j x3 (fun w => ne.1 w.1)]
      exact fr _ j ne.1 (z_isne x1 tc (by decide)) (by omega)
    · rw [hi _ j x4 (fun w => z_isne x2 ta (by decide) w.1)]
      exact fr _ j (z_isne x2 ta (by decide)) ne.2 (by omega)
  have an : ∀ j : Int, ¬ j = 9 → h4 (h 48 s.1) j = h2 (h 48 s.1) j := fun j q => hi _ j a1 (fun w => q w.2)
  have new0 : z_is G2 (h2 (h 48 s.1) 0) 51 ∧ 114 ≤ h2 (h 48 s.1) 0 ∧ (h2 (h 48 s.1) 0 = h (h 48 s.1) 0 ∨ h2 (h 48 s.1) 0 = (G.1 : Int)) ∧ 16 ≤ G2.2.2.2 (h2 (h 48 s.1) 0) ∧ G2.2.2.2 (h2 (h 48 s.1) 0) ≤ 144 ∧ sz S.1 + sz S.2 ≤ G2.2.2.2 (h2 (h 48 s.1) 0) := by
    rcases alt with ⟨q1, q2, q3⟩ | ⟨c, q1, q2, q3, q4, q5, q6, -⟩
    · rw [q1, q2]; exact ⟨tc, a2, Or.inl rfl, l1, l2, q3⟩
    · rw [q1, q2, al_lnn]; exact ⟨al_new, l114, Or.inr rfl, by omega, q3, q6⟩
  have rn : ∀ j : Int, h4 (h2 (h 48 s.1) 0) j = h2 (h2 (h 48 s.1) 0) j := fun j => hi _ j new0.2.1 fun w => by
    rcases new0.2.2.1 with q | q
    · rw [q] at w; exact mac w.1.symm
    · rw [q] at w; omega
  have st4 : ∀ i : Int, 0 ≤ i → i < n → stS G2 h4 (h4 48 i) ∧ 114 ≤ h4 48 i ∧ 114 ≤ h4 (h4 48 i) 0 := by
    intro i i0 i1
    rw [e48]
    obtain ⟨⟨x1, x2, x5, x6⟩, x3, x4⟩ := po.2.1 i i0 i1
    by_cases ni : i = s.1
    · subst ni
      unfold stS
      rw [an 0 (by omega)]
      exact ⟨⟨(ex _ _ x1).1, new0.1, new0.2.2.2.1, new0.2.2.2.2.1⟩, x3, new0.2.1⟩
    · unfold stS
      rw [(ro i i0 i1 ni).1 0, (ex _ _ x2).2]
      exact ⟨⟨(ex _ _ x1).1, (ex _ _ x2).1, x5, x6⟩, x3, x4⟩
  have r0 : ∀ i : Int, 0 ≤ i → i < n → ¬ i = s.1 → h4 (h 48 i) 0 = h (h 48 i) 0 ∧ h (h 48 i) 0 < (G.1 : Int) := fun i i0 i1 ni => ⟨(ro i i0 i1 ni).1 0, (po.2.1 i i0 i1).1.2.1.2.1⟩
  refine ⟨⟨⟨p1, st4, fun i j i0 ij j1 => ?_, fun i i0 i1 => by rw [e48]; exact po.2.2.2 i i0 i1⟩, ⟨by show 0 ≤ s.1 + 1; omega, by show s.1 + 1 ≤ n; omega⟩, f3, ⟨?_, fun j j0 j1 => ?_, fun i i0 i1 => ?_⟩, fun i j i0 ij j1 => ?_, fun i i0 i1 => ?_⟩, ?_, ex, fun b j p q r t => ?_, fun i i0 i1 => ⟨e48 i, (ro i i0 (by omega) (by omega)).1⟩, fun b j tb q => ?_⟩
  · rw [e48, e48]
    have o := po.2.2.1 i j i0 ij j1
    refine ⟨o.1, ?_⟩
    by_cases ni : i = s.1
    · have q := r0 j (by omega) j1 (by omega)
      rw [q.1]
      subst ni
      rw [an 0 (by omega)]
      rcases new0.2.2.1 with w | w
      · rw [w]; exact o.2
      · rw [w]; omega
    · have q := r0 i i0 (by omega) ni
      rw [q.1]
      by_cases nj : j = s.1
      · subst nj
        rw [an 0 (by omega)]
        rcases new0.2.2.1 with w | w
        · rw [w]; exact o.2
        · rw [w]; omega
      · rw [(r0 j (by omega) j1 nj).1]; exact o.2
  · show zct (fun k => ¬ h4 49 k = 0) 4096 = s.1 + 1
    have kr := sl.1
    rw [zct_up (p := fun k => ¬ h 49 k = 0) (k := k) kr.1 (by intro w; exact w s0) (by rw [f4]; omega) (fun i ni => by rw [e49 i ni]) 4096 kr.2, hz]
  · show 0 ≤ h4 49 j ∧ h4 49 j ≤ s.1 + 1
    by_cases z : j = k
    · rw [z, f4]; omega
    · rw [e49 j z]; have := hr j j0 j1; omega
  · have nz : ∀ u : Int, ¬ h 49 u = 0 → ¬ h4 49 u = 0 := fun u w => by
      by_cases z : u = k
      · rw [z, f4]; omega
      · rw [e49 u z]; exact w
    by_cases ni : i = s.1
    · subst ni
      rw [adS_n]
      rcases sl.2 with ⟨-, -, t, t0, t1, t2, t3⟩ | q
      · exact ⟨t, t0, t1, by rw [← t2]; exact f4, fun u u0 u1 => nz _ (t3 u u0 u1)⟩
      · omega
    · rw [adS_o ni]
      have i1 : i < s.1 + 1 := i1
      obtain ⟨t, t0, t1, t2, t3⟩ := hc i i0 (by omega)
      refine ⟨t, t0, t1, ?_, fun u u0 u1 => nz _ (t3 u u0 u1)⟩
      rw [e49 _ (fun w => by rw [w, s0] at t2; omega)]; exact t2
  · have j1 : j < s.1 + 1 := j1
    rw [adS_o (show ¬ i = s.1 by omega)]
    by_cases nj : j = s.1
    · subst nj
      rw [adS_n]
      intro w
      rcases sl.2 with ⟨-, q, -⟩ | q
      · rcases idx_rg s S with z | z
        · exact z.2 i i0 ⟨ij, w⟩
        · omega
      · omega
    · rw [adS_o nj]; exact ds i j i0 ij (by omega)
  · have i1 : i < s.1 + 1 := i1
    rw [e48]
    by_cases ni : i = s.1
    · subst ni
      rw [adS_n]
      unfold isS
      rw [an 0 (by omega), an 1 (by omega), an 2 (by omega), an 3 (by omega), an 4 (by omega), an 5 (by omega)]
      refine ⟨⟨kS.1, fun j j0 j1 => by rw [rn]; exact kS.2.1 j j0 j1, fun j j0 j1 => by rw [rn]; exact kS.2.2.1 j j0 j1, kS.2.2.2⟩, oS, new0.2.2.2.2.2⟩
    · rw [adS_o ni]
      obtain ⟨q1, q2, q3⟩ := he i i0 (by omega)
      obtain ⟨w1, w2⟩ := ro i i0 (by omega) ni
      unfold isS
      rw [w1 0, w1 1, w1 2, w1 3, w1 4, w1 5, (ex _ _ (po.2.1 i i0 (by omega)).1.2.1).2]
      exact ⟨⟨q1.1, fun j j0 j1 => by rw [w2]; exact q1.2.1 j j0 j1, fun j j0 j1 => by rw [w2]; exact q1.2.2.1 j j0 j1, q1.2.2.2⟩, q2, q3⟩
  · -- room
    have e11 : h4 33 11 = h 33 11 := by rw [f2 11 (by omega) (by omega)]; exact lo 33 11 (by omega)
    have o : ∀ i : Int, 0 ≤ i → i < ((1500 : Nat) : Int) → ¬ i = s.1 → ptS G h i = ptS G2 h4 i := by
      intro i i0 i1 ni
      unfold ptS
      rw [e48]
      by_cases z : i < n
      · rw [(ro i i0 z ni).1 0, (ex _ _ (po.2.1 i i0 z).1.2.1).2]
      · rw [po.2.2.2 i (by omega) (by omega)]; rfl
    have u := sI_u (f := ptS G h) (g := ptS G2 h4) sr.1 1500 (by omega) o
    have x1 : ptS G h s.1 = pt (G.2.2.2 (h (h 48 s.1) 0)) := by unfold ptS; rw [if_neg (by omega)]
    have x2 : ptS G2 h4 s.1 = pt (G2.2.2.2 (h2 (h 48 s.1) 0)) := by unfold ptS; rw [e48, if_neg (by omega), an 0 (by omega)]
    obtain ⟨m1, m2⟩ := rm
    unfold rmS
    rw [e11, (ex _ _ eg.1).2]
    rcases alt with ⟨q1, q2, q3⟩ | ⟨c, q1, q2, q3, q4, q5, q6, -⟩
    · rw [q1, q2] at x2
      rw [q1] at u ⊢
      constructor <;> omega
    · have y : G2.2.2.2 (h2 (h 48 s.1) 0) = c := by rw [q1, q2, al_lnn]
      rw [y] at x2
      rw [x1, x2] at u
      have g1 : (G2.1 : Int) = G.1 + 1 := by rw [q1]; show ((G.1 + 1 : Nat) : Int) = _; omega
      have g2 : (G2.2.1 : Int) = G.2.1 + c := by rw [q1]; show ((G.2.1 + c : Nat) : Int) = _; omega
      rw [g1, g2]
      have pp : pt (c : Int) + c ≤ pt (G.2.2.2 (h (h 48 s.1) 0)) := by unfold pt; split <;> split <;> omega
      constructor <;> omega
  · by_cases z : b = 33
    · subst z
      rw [f2 j (by omega) (by omega)]; exact lo 33 j (by omega)
    · rw [f1 b j z (by omega) (by omega)]; exact lo b j p
  · have q5 : b < (G.1 : Int) := tb.2.1
    rw [hi b j q (fun w => z_isne tb ta (by decide) w.1)]
    exact fr b j (z_isne tb ta (by decide)) (z_isne tb tc (by decide)) (by omega)
/-- a new State is made ready -/
theorem l_addNew (hl : lay G h) {s : bS} (ss : SS G h s.1 s) (s15 : s.1 < 1500) (rm : rmS G h) (eg : edg G h) {f : Int → Int} (e4 : h4 = z_wr (z_wr (z_nw (z_nw h G.1 f) ((z_al G 1 10).1 : Nat) fun _ => 0) G.1 0 ((z_al G 1 10).1 : Nat)) 48 s.1 (G.1 : Int)) :
    SS (z_al (z_al G 1 10) 51 16) h4 (s.1 + 1) s ∧ rmS (z_al (z_al G 1 10) 51 16) h4 ∧ frA s G h (z_al (z_al G 1 10) 51 16) h4 := by
  obtain ⟨po, sr, e14, hs, ds, he⟩ := ss
  have p1 := po.1
  have l114 : (114 : Int) ≤ G.1 := by have := hl.1; have e : lay_t.length = 114 := rfl; omega
  have g1 : (((z_al G 1 10).1 : Nat) : Int) = G.1 + 1 := by show ((G.1 + 1 : Nat) : Int) = _; omega
  rw [g1] at e4
  have old : ∀ b j : Int, b < (G.1 : Int) → ¬ (b = 48 ∧ j = s.1) → h4 b j = h b j := by
    intro b j q w
    rw [e4]
    have : z_wr (z_wr (z_nw (z_nw h G.1 f) ((G.1 : Int) + 1) fun _ => 0) G.1 0 ((G.1 : Int) + 1)) 48 s.1 (G.1 : Int) b j = z_wr (z_nw (z_nw h G.1 f) ((G.1 : Int) + 1) fun _ => 0) G.1 0 ((G.1 : Int) + 1) b j := by unfold z_wr; rw [if_neg w]
    rw [this, w_na (by omega), nw_n (by omega), nw_n (by omega)]
  have n48 : h4 48 s.1 = (G.1 : Int) := by rw [e4, w_s]
  have n0 : h4 G.1 0 = (G.1 : Int) + 1 := by rw [e4, w_na (by omega), w_s]
  have ex : ext G (z_al (z_al G 1 10) 51 16) := ext.al.tr ext.al
  have tn : z_is (z_al (z_al G 1 10) 51 16) G.1 1 := al_is al_new
  have tr : z_is (z_al (z_al G 1 10) 51 16) ((G.1 : Int) + 1) 51 := by rw [← g1]; exact al_new
  have lr : (z_al (z_al G 1 10) 51 16).2.2.2 ((G.1 : Int) + 1) = 16 := by rw [← g1]; exact al_lnn
  have ro : ∀ i : Int, 0 ≤ i → i < s.1 → h4 48 i = h 48 i ∧ (∀ j : Int, h4 (h 48 i) j = h (h 48 i) j) ∧ ∀ j : Int, h4 (h (h 48 i) 0) j = h (h (h 48 i) 0) j := by
    intro i i0 i1
    obtain ⟨⟨x1, x2, -, -⟩, x3, x4⟩ := po.2.1 i i0 i1
    exact ⟨old 48 i (by omega) (by omega), fun j => old _ j x1.2.1 (by omega), fun j => old _ j x2.2.1 (by omega)⟩
  have r0 : ∀ i : Int, 0 ≤ i → i < s.1 → h4 (h4 48 i) 0 = h (h 48 i) 0 ∧ h 48 i < (G.1 : Int) ∧ h (h 48 i) 0 < (G.1 : Int) := fun i i0 i1 => by
    obtain ⟨q1, q2, -⟩ := ro i i0 i1
    rw [q1, q2 0]
    exact ⟨rfl, (po.2.1 i i0 i1).1.1.2.1, (po.2.1 i i0 i1).1.2.1.2.1⟩
  refine ⟨⟨⟨⟨by omega, by omega⟩, fun i i0 i1 => ?_, fun i j i0 ij j1 => ?_, fun i i0 i1 => ?_⟩, ⟨sr.1, by omega⟩, by rw [old 33 14 (by omega) (by omega)]; exact e14, ?_, ds, fun i i0 i1 => ?_⟩, ?_, ex, fun b j p q r t => old b j (by omega) (fun w => r w.1), fun i i0 i1 => ⟨(ro i i0 i1).1, (ro i i0 i1).2.1⟩, fun b j tb q => old b j tb.2.1 (by omega)⟩
  · by_cases z : i = s.1
    · subst z
      unfold stS
      rw [n48, n0, lr]
      exact ⟨⟨tn, tr, by omega, by omega⟩, l114, by omega⟩
    · obtain ⟨⟨x1, x2, x5, x6⟩, x3, x4⟩ := po.2.1 i i0 (by omega)
      obtain ⟨q1, q2, q3⟩ := ro i i0 (by omega)
      unfold stS
      rw [q1, q2 0, (ex _ _ x2).2]
      exact ⟨⟨(ex _ _ x1).1, (ex _ _ x2).1, x5, x6⟩, x3, x4⟩
  · have qi := r0 i i0 (by omega)
    have wi := ro i i0 (by omega)
    by_cases z : j = s.1
    · subst z
      rw [n48, n0, qi.1, wi.1]
      constructor <;> omega
    · have qj := r0 j (by omega) (by omega)
      rw [qi.1, qj.1, wi.1, (ro j (by omega) (by omega)).1]
      exact po.2.2.1 i j i0 ij (by omega)
  · rw [old 48 i (by omega) (by omega)]; exact po.2.2.2 i (by omega) i1
  · have e49 : ∀ j : Int, h4 49 j = h 49 j := fun j => old 49 j (by omega) (by omega)
    refine ⟨?_, fun j j0 j1 => by rw [e49]; exact hs.2.1 j j0 j1, fun i i0 i1 => ?_⟩
    · rw [← hs.1]; exact zct_congr _ fun i _ _ => by rw [e49]
    · obtain ⟨t, t0, t1, t2, t3⟩ := hs.2.2 i i0 i1
      exact ⟨t, t0, t1, by rw [e49]; exact t2, fun u u0 u1 => by rw [e49]; exact t3 u u0 u1⟩
  · obtain ⟨q1, q2, q3⟩ := he i i0 i1
    obtain ⟨w0, w1, w2⟩ := ro i i0 i1
    unfold isS
    rw [w0, w1 0, w1 1, w1 2, w1 3, w1 4, w1 5, (ex _ _ (po.2.1 i i0 i1).1.2.1).2]
    exact ⟨⟨q1.1, fun j j0 j1 => by rw [w2]; exact q1.2.1 j j0 j1, fun j j0 j1 => by rw [w2]; exact q1.2.2.1 j j0 j1, q1.2.2.2⟩, q2, q3⟩
  · have e11 : h4 33 11 = h 33 11 := old 33 11 (by omega) (by omega)
    have o : ∀ i : Int, 0 ≤ i → i < ((1500 : Nat) : Int) → ¬ i = s.1 → ptS G h i = ptS (z_al (z_al G 1 10) 51 16) h4 i := by
      intro i i0 i1 ni
      unfold ptS
      by_cases z : i < s.1
      · obtain ⟨w0, w1, w2⟩ := ro i i0 z
        rw [w0, w1 0, (ex _ _ (po.2.1 i i0 z).1.2.1).2]
      · rw [old 48 i (by omega) (by omega), po.2.2.2 i (by omega) (by omega)]; rfl
    have u := sI_u (f := ptS G h) (g := ptS (z_al (z_al G 1 10) 51 16) h4) sr.1 1500 (by omega) o
    have x1 : ptS G h s.1 = 430 := by unfold ptS; rw [if_pos (po.2.2.2 s.1 (by omega) s15)]
    have x2 : ptS (z_al (z_al G 1 10) 51 16) h4 s.1 = 400 := by unfold ptS; rw [n48, if_neg (by omega), n0, lr]; rfl
    rw [x1, x2] at u
    obtain ⟨m1, m2⟩ := rm
    unfold rmS
    rw [e11, (ex _ _ eg.1).2]
    have y1 : ((z_al (z_al G 1 10) 51 16).1 : Int) = G.1 + 2 := by show ((G.1 + 1 + 1 : Nat) : Int) = _; omega
    have y2 : ((z_al (z_al G 1 10) 51 16).2.1 : Int) = G.2.1 + 26 := by show ((G.2.1 + 10 + 16 : Nat) : Int) = _; omega
    rw [y1, y2]
    constructor <;> omega
end Add
