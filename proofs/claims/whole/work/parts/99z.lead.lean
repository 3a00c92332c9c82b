/-! the model's search: ways counted -/
def lvR (h : zH) (lvl : Int → Int) (l : Int) : Prop := ∀ k : Int, 0 ≤ k → k ≤ l + 1 → h 106 k = lvl k
noncomputable def ldv (two : Prop) (f : Int → Int) (s : bS) (P : zSt) (lo hi n a b : Int) : Int := match nx two n a b P with
  | none => 0
  | some S => if lo ≤ idx s S ∧ idx s S < hi then f (idx s S) else 0
section Lead
variable {D : zD} {d : Nat} {G : zG} {h h0 h1 : zH} {two : Prop} {W V B : zTb} {wi vi : Int}
theorem m_leadsBy (hd : 8 ≤ d) {q n a b l k : Int} {s : bS} {lvl : Int → Int} (ms : msI two W V B wi vi h s) (q0 : 0 ≤ q) (q1 : q < s.1) (n1 : 1 ≤ n) (n2 : n ≤ 14) (a0 : 0 ≤ a) (a1 : a ≤ 5) (b0 : 0 ≤ b) (b1 : b ≤ 5) (lr : lvR h lvl l) (k0 : 0 ≤ k) (k1 : k ≤ l) (l3 : l ≤ 3) (lb : ∀ k : Int, 0 ≤ k → k ≤ l + 1 → 0 ≤ lvl k ∧ lvl k ≤ 1500) :
    z_CY D M_X13_leadsBy d [(2, 88), (0, q), (0, n), (0, a), (0, b), (0, k)] G h (fun out G' h' => G' = G ∧ frB mW h h' ∧ out = .inl (some (0, ldv two (h 105) s (s.2 q) (lvl k) (lvl (k + 1)) n a b)) ∧ ∀ S, nx two n a b (s.2 q) = some S → mPr two h' S) := by
  obtain ⟨⟨e29, s0, s15⟩, he, ds, -, -⟩ := id ms.1
  obtain ⟨hq, oP⟩ := he q q0 q1
  refine z_begin mo_X13_leadsBy rfl (nle rfl) (b_X13_leadsBy_0 (z_Ki.of (d2 := d - 1) (by omega) (m_goes (by omega) q0 (by omega) hq oP ms.2.1 n1 n2 a0 a1 b0 b1) ?_))
  rintro out G' h1 hl1 ⟨rfl, f1, hr⟩
  have ms1 := msI_W ms f1
  unfold ldv
  cases es : nx two n a b (s.2 q) with
  | none =>
    rw [es] at hr
    exact ⟨0, hr, b_X13_leadsBy_9 ⟨by omega, by omega⟩ (fun c => absurd rfl c) (fun _ => ⟨rfl, f1, rfl, fun S q => by cases q⟩)⟩
  | some S =>
    rw [es] at hr
    have oS := nx_ok oP es
    have sb : ¬ two → S.2 = B := fun z => by rw [nx_B z es]; exact (ms.2.2.2.2.2.2 z).2 q q0 q1
    refine ⟨1, hr.1, b_X13_leadsBy_9 ⟨by omega, by omega⟩ (fun _ => ?_) (fun c => absurd (by decide) c)⟩
    refine z_Ki.of (d2 := d - 1) (by omega) (a_search (B := B) (by omega) ms1.1 hr.2 oS (fun z => ⟨sb z, (ms1.2.2.2.2.2.2 z).2⟩)) ?_
    rintro out G' h2 hl2 ⟨r2, rfl, rfl⟩
    have ib : -1 ≤ idx s S ∧ idx s S < 1500 := by
      rcases idx_rg s S with w | w
      · omega
      · have := w.2.1.1; omega
    have v1 : h2 106 k = lvl k := by rw [f1 106 k (by unfold mW; omega)]; exact lr k k0 (by omega)
    have v2 : h2 106 (k + 1) = lvl (k + 1) := by rw [f1 106 _ (by unfold mW; omega)]; exact lr (k + 1) (by omega) (by omega)
    have b1 := lb k k0 (by omega)
    have b2 := lb (k + 1) (by omega) (by omega)
    refine ⟨_, r2, b_X13_leadsBy_18 k0 (by omega) ⟨by omega, by omega⟩ (by rw [v1]; exact ⟨by omega, by omega⟩) (fun _ => by omega) (fun _ => by omega) (fun _ => by rw [v2]; exact ⟨by omega, by omega⟩) (fun _ _ => by omega) (fun _ _ => by omega) (fun c => ⟨rfl, f1, ?_, fun S' q => by cases q; exact hr.2⟩) (fun c c2 => ⟨rfl, f1, ?_, fun S' q => by cases q; exact hr.2⟩) (fun c c2 => ⟨rfl, f1, ?_, fun S' q => by cases q; exact hr.2⟩)⟩
    · dsimp only; rw [if_neg (by omega)]
    · dsimp only; rw [if_pos ⟨by omega, by omega⟩, f1 105 _ (by unfold mW; omega)]
    · dsimp only; rw [if_neg (by omega)]
end Lead
