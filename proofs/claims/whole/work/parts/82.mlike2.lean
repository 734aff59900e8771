/-! the reference: likeness -/
def fL (M M' : jM) : Prop := f28 M M' ∧ (∀ y, ¬ (y = 0 ∨ y = 11 ∨ y = 12 ∨ y = 14) → M' 28 y = M 28 y) ∧ ∀ z, ¬ (z = 12 ∨ z = 14 ∨ z = 15 ∨ z = 16) → M' 28 0 z = M 28 0 z
theorem fL_r (M : jM) : fL M M := ⟨f28_r M, fun _ _ => rfl, fun _ _ => rfl⟩
theorem fL.tr {M M' M'' : jM} (h : fL M M') (h' : fL M' M'') : fL M M'' := ⟨h.1.tr h'.1, fun y q => by rw [h'.2.1 y q, h.2.1 y q], fun z q => by rw [h'.2.2 z q, h.2.2 z q]⟩
theorem fW.l {M M' : jM} (h : fW M M') : fL M M' := ⟨h.1, fun y q => h.2.1 y (by omega), fun z q => h.2.2 z (by omega)⟩
theorem fL_11 {M M' : jM} (h : ∀ x y, ¬ (x = 28 ∧ y = 11) → M' x y = M x y) : fL M M' := ⟨fun x y q => h x y (by omega), fun y q => h 28 y (by omega), fun z q => by rw [h 28 0 (by simp)]⟩
theorem fL_0 {M : jM} {z v : Int} (hz : z = 12 ∨ z = 14 ∨ z = 15 ∨ z = 16) : fL M (jup M 28 0 z v) := ⟨f28_up, fun y q => by rw [jup_set, jset_ne (by omega)], fun u q => by rw [jup_ne (by omega)]⟩
theorem fL_14 {M : jM} {j v : Int} : fL M (jup M 28 14 j v) := ⟨f28_up, fun y q => by rw [jup_set, jset_ne (by omega)], fun z q => by rw [jup_ne (by simp)]⟩
theorem fL_j11 {M : jM} {j v : Int} : fL M (jup M 28 11 j v) := ⟨f28_up, fun y q => by rw [jup_set, jset_ne (by omega)], fun z q => by rw [jup_ne (by simp)]⟩
theorem fL.mR {C M M' : jM} {a b : Int} (h : fL M M') (hM : mR C M a b) : mR C M' a b := by
  obtain ⟨h1, h2, h3⟩ := hM
  refine ⟨fun k k0 k1 => ?_, h2.fx rfl (fun y hy => h.2.1 y (by omega)), h3.fx rfl (fun y hy => h.2.1 y (by omega))⟩
  rw [h.2.1 1 (by omega), h.2.1 2 (by omega), h.2.1 3 (by omega), h.2.1 4 (by omega)]
  exact h1 k k0 k1
/-- the best of the rows gone through -/
def stB (C N : jM) (a b lv tm : Int) (P : (Int → Int) → Prop) : Prop :=
  (N 28 0 14 = -1 ∧ N 28 0 15 = 0 ∧ N 28 0 16 = 0 ∧ ∀ q, wgd C a b tm q → ¬ P q) ∨
  (∃ B, wgd C a b tm B ∧ P B ∧ N 28 0 14 = wth C a b lv 0 tm B ∧ N 28 0 15 = prs C a B ∧ (∀ x, 0 ≤ x → x < C a 0 0 → N 28 14 x = nd (B x)) ∧
    (∀ q, wgd C a b tm q → P q → ¬ btr C a b lv 0 tm q (wth C a b lv 0 tm B) (prs C a B) ∧ (wth C a b lv 0 tm q = wth C a b lv 0 tm B → prs C a q = prs C a B → num B (C a 0 0).toNat ≤ num q (C a 0 0).toNat)) ∧
    (∃ q, wgd C a b tm q ∧ P q ∧ wth C a b lv 1 tm q = N 28 0 16) ∧ ∀ q, wgd C a b tm q → P q → wth C a b lv 1 tm q ≤ N 28 0 16)
theorem stB.fx {C N N' : jM} {a b lv tm : Int} {P P' : (Int → Int) → Prop} (h : stB C N a b lv tm P) (hP : ∀ q, wgd C a b tm q → (P q ↔ P' q)) (h0 : N' 28 0 14 = N 28 0 14 ∧ N' 28 0 15 = N 28 0 15 ∧ N' 28 0 16 = N 28 0 16) (h14 : N' 28 14 = N 28 14) : stB C N' a b lv tm P' := by
  unfold stB
  rw [h0.1, h0.2.1, h0.2.2, h14]
  rcases h with ⟨h1, h2, h3, h4⟩ | ⟨B, b1, b2, b3, b4, b5, b6, ⟨q, q1, q2, q3⟩, b8⟩
  · exact Or.inl ⟨h1, h2, h3, fun q hq hp => h4 q hq ((hP q hq).mpr hp)⟩
  · exact Or.inr ⟨B, b1, (hP B b1).mp b2, b3, b4, b5, fun q hq hp => b6 q hq ((hP q hq).mpr hp), ⟨q, q1, (hP q q1).mp q2, q3⟩, fun q hq hp => b8 q hq ((hP q hq).mpr hp)⟩
theorem m_likeness {C M : jM} {a b lv tm : Int} (hG : gd C a b) (hM : mR C M a b) (hlv : 0 ≤ lv ∧ lv < 3) :
    jCallP 4 80 [.inr (28, 0), .inl a, .inl b, .inl lv, .inl tm] M (fun r M' => ∃ R, best C a b lv tm 0 R ∧ r = wth C a b lv 0 tm R ∧ mRow C M' a R ∧ mAns C M' b (ans C a b lv 0 tm R) (C a 0 1) ∧ M' 28 0 15 = prs C a R ∧ (∀ q, vld C a b q → wth C a b lv 1 tm q ≤ M' 28 0 16) ∧ (∃ q, vld C a b q ∧ wth C a b lv 1 tm q = M' 28 0 16) ∧ fL M M') := by
  have hG' := hG
  obtain ⟨hL, hGa, hGb, ha, hb⟩ := hG
  have na1 := hGa.1.2.1.1
  have nb1 := hGb.1.2.1.1
  have wpos : ∀ wg q, 0 ≤ wth C a b lv wg tm q := fun wg q => (wth_bd (C := C) (a := a) (b := b) (lv := lv) (wg := wg) (tm := tm) hGa.1.2.1 hGa.2.2.1 q).1
  generalize hQ : (fun (r : Int) (M' : jM) => ∃ R, best C a b lv tm 0 R ∧ r = wth C a b lv 0 tm R ∧ mRow C M' a R ∧ mAns C M' b (ans C a b lv 0 tm R) (C a 0 1) ∧ M' 28 0 15 = prs C a R ∧ (∀ q, vld C a b q → wth C a b lv 1 tm q ≤ M' 28 0 16) ∧ (∃ q, vld C a b q ∧ wth C a b lv 1 tm q = M' 28 0 16) ∧ fL M M') = Q
  generalize hT : (C a 0 0).toNat = T
  have b14 : ∀ v, 0 ≤ v → v < 6 → 0 ≤ v ∧ v < jal 28 14 := fun v _ _ => by rw [jal_28_14]; omega
  have b11 : ∀ v, 0 ≤ v → v < 6 → 0 ≤ v ∧ v < jal 28 11 := fun v _ _ => by rw [jal_28_11]; omega
  -- the end
  have out : ∀ N, fL M N → stB C N a b lv tm (fun _ => True) → jWP 4 80 24 [some (.inr (28, 0)), some (.inl a), some (.inl b), some (.inl lv), some (.inl tm), some (.inl 0), none, none, none] [] N Q := by
    intro N hf hs
    have hs' : ∃ B, wgd C a b tm B ∧ True ∧ N 28 0 14 = wth C a b lv 0 tm B ∧ N 28 0 15 = prs C a B ∧ (∀ x, 0 ≤ x → x < C a 0 0 → N 28 14 x = nd (B x)) ∧
    (∀ q, wgd C a b tm q → True → ¬ btr C a b lv 0 tm q (wth C a b lv 0 tm B) (prs C a B) ∧ (wth C a b lv 0 tm q = wth C a b lv 0 tm B → prs C a q = prs C a B → num B (C a 0 0).toNat ≤ num q (C a 0 0).toNat)) ∧
    (∃ q, wgd C a b tm q ∧ True ∧ wth C a b lv 1 tm q = N 28 0 16) ∧ ∀ q, wgd C a b tm q → True → wth C a b lv 1 tm q ≤ N 28 0 16 := by
      rcases hs with ⟨-, -, -, h4⟩ | h
      · have hv0 : vld C a b (fun _ => -1) := ⟨fun _ => Or.inl rfl, fun x y h => absurd (show (0 : Int) ≤ -1 from h) (by decide)⟩
        obtain ⟨q, hq, -⟩ := wgd_ext (lv := lv) (tm := tm) hG' hv0
        exact absurd trivial (h4 q hq)
      · exact h
    obtain ⟨B, b1, -, b3, b4, b5, b6, ⟨q0, q1, -, q3⟩, b8⟩ := hs'
    have hbest : best C a b lv tm 0 B := by
      refine ⟨b1.1, fun q hq => ?_⟩
      obtain ⟨q', hq', p', w'⟩ := wgd_ext (lv := lv) (tm := tm) hG' hq
      have h6 := b6 q' hq' trivial
      have w0 := w' 0
      unfold btr at h6 ⊢
      refine ⟨by omega, fun e1 e2 => ?_⟩
      have hqw : wgd C a b tm q := ⟨hq, fun h => by rw [e2]; exact b1.2 h⟩
      exact (b6 q hqw trivial).2 e1 e2
    have hmost : ∀ q, vld C a b q → wth C a b lv 1 tm q ≤ N 28 0 16 := fun q hq => by
      obtain ⟨q', hq', p', w'⟩ := wgd_ext (lv := lv) (tm := tm) hG' hq
      exact Int.le_trans (w' 1) (b8 q' hq' trivial)
    have k167 : ∀ v, 0 ≤ v → v ≤ 6 → ∀ N' : jM, (∀ x, 0 ≤ x → x < v → N' 28 11 x = N 28 14 x) → (∀ x y, ¬ (x = 28 ∧ y = 11) → N' x y = N x y) → jWP 4 80 167 [some (.inr (28, 0)), some (.inl a), some (.inl b), some (.inl lv), some (.inl tm), none, some (.inl v), none, none] [] N' Q := by
      refine jloop (e := 6) (fun N' h f => ?_) (fun v v0 v1 ih N' h f => ?_)
      · have f' : fL M N' := hf.tr (fL_11 f)
        refine fX10_likeness_167 ⟨fun _ => jcq (m_weigh (R := B) (tm := tm) hG' (f'.mR hM) b1.1.1 (fun x x0 x1 => by rw [h x x0 (by omega)]; exact b5 x x0 x1) hlv) (by decide) ?_, fun z => by exfalso; omega⟩
        rintro r M2 ⟨e1, e2, e3, f2⟩
        rw [← hQ]
        refine ⟨B, hbest, e1, fun x x0 x1 => ?_, e2, ?_, ?_, ?_, f'.tr f2.l⟩
        · rw [f2.2.1 11 (by decide), h x x0 (by omega)]; exact b5 x x0 x1
        · rw [f2.2.2 15 (by decide), f 28 0 (by simp), b4]
        · rw [f2.2.2 16 (by decide), f 28 0 (by simp)]; exact hmost
        · rw [f2.2.2 16 (by decide), f 28 0 (by simp)]; exact ⟨q0, q1.1, q3⟩
      · refine fX10_likeness_167 ⟨fun z => by exfalso; omega, fun _ => ⟨b14 v v0 v1, b11 v v0 v1, ?_⟩⟩
        rw [jwr_id (by omega) (by omega), f 28 14 (by simp)]
        refine ih _ (fun x x0 x1 => ?_) (fun x y q => by rw [jup_set, jset_ne q, f x y q])
        by_cases u : x = v
        · rw [u, jup_eq]
        · rw [jup_ne (by omega)]; exact h x x0 (by omega)
    exact fX10_likeness_24 ⟨fun _ => k167 0 (by omega) (by omega) N (fun x x0 x1 => by omega) (fun _ _ _ => rfl), fun z => absurd rfl z⟩
  -- the rows
  have rows : ∀ (fuel : Nat) (R : Int → Int) (N : jM), (10 : Int) ^ T - num R T ≤ fuel → rw1 C a b R → mRow C N a R → fL M N → stB C N a b lv tm (fun q => num q T < num R T) → jWP 4 80 24 [some (.inr (28, 0)), some (.inl a), some (.inl b), some (.inl lv), some (.inl tm), some (.inl 1), none, none, none] [] N Q := by
    intro fuel
    induction fuel with
    | zero =>
      intro R N h0 hw hR hf hs
      have := num_bd (rw1_9 nb1.2 hw) 0 T
      rw [Nat.zero_add, show num R 0 = 0 from rfl] at this
      omega
    | succ fuel ih =>
      intro R N h0 hw hR hf hs
      have same : ∀ q, wgd C a b tm q → num q T = num R T → q = R := fun q hq e => rw1_num nb1.2 hq.1.1 hw (by rw [hT]; exact e)
      -- on to the next row
      have cont : ∀ N', mRow C N' a R → fL M N' → stB C N' a b lv tm (fun q => num q T ≤ num R T) → jCall 4 78 [.inr (28, 0), .inl a, .inl b] N' (fun r N2 => jWP 4 80 24 [some (.inr (28, 0)), some (.inl a), some (.inl b), some (.inl lv), some (.inl tm), some (.inl r), none, none, none] [] N2 Q) := by
        intro N' hR' hf' hs'
        refine jcq (m_nextRow hG' (hf'.mR hM) hw hR') (by decide) ?_
        rintro r N2 ⟨h, f2⟩
        have f2' : fL M N2 := hf'.tr (fL_11 f2)
        have k0 : N2 28 0 14 = N' 28 0 14 ∧ N2 28 0 15 = N' 28 0 15 ∧ N2 28 0 16 = N' 28 0 16 := by rw [f2 28 0 (by simp)]; exact ⟨rfl, rfl, rfl⟩
        rcases h with ⟨rfl, R', ⟨n1, n2, n3⟩, hR2⟩ | ⟨rfl, h⟩
        · rw [hT] at n2 n3
          refine ih R' N2 (by omega) n1 hR2 f2' (hs'.fx (fun q hq => ⟨fun e => by omega, fun e => n3 q hq.1.1 e⟩) k0 (f2 28 14 (by simp)))
        · rw [hT] at h
          exact out N2 f2' (hs'.fx (fun q hq => ⟨fun _ => trivial, fun _ => h q hq.1.1⟩) k0 (f2 28 14 (by simp)))
      refine fX10_likeness_24 ⟨fun z => absurd z (by decide), fun _ => jcq (m_isWeighed (tm := tm) hG' (hf.mR hM) hw hR) (by decide) ?_⟩
      rintro r1 N1 ⟨bl, rfl⟩
      refine ⟨fun z => ?_, fun z => ?_⟩
      · refine cont N1 hR hf (hs.fx (fun q hq => ⟨fun e => by omega, fun e => ?_⟩) ⟨rfl, rfl, rfl⟩ rfl)
        have : ¬ num q T = num R T := fun e2 => (jBl_eq bl).mp z (by rw [← same q hq e2]; exact hq)
        omega
      · have hwg := (jBl_ne bl).mp z
        refine jcq (m_weigh (R := R) (tm := tm) hG' (hf.mR hM) hw hR hlv) (by decide) ?_
        rintro r3 N3 ⟨e3, -, c3, f3⟩
        have f3' : fL M N3 := hf.tr f3.l
        have hR3 : mRow C N3 a R := fun x x0 x1 => by rw [f3.2.1 11 (by decide)]; exact hR x x0 x1
        refine jc (m_pairsOfRow hG' (f3'.mR hM).2.1 hw hR3) (by decide) ?_
        have s14 : N3 28 0 14 = N1 28 0 14 := f3.2.2 14 (by decide)
        have s15 : N3 28 0 15 = N1 28 0 15 := f3.2.2 15 (by decide)
        have s16 : N3 28 0 16 = N1 28 0 16 := f3.2.2 16 (by decide)
        have sr : N3 28 14 = N1 28 14 := f3.2.1 14 (by decide)
        have w0 := wpos 0 R
        have w1 := wpos 1 R
        -- compare
        have k81 : ∀ s, (N1 28 0 16 ≤ s ∧ wth C a b lv 1 tm R ≤ s ∧ (s = N1 28 0 16 ∨ s = wth C a b lv 1 tm R)) → jWP 4 80 81 [some (.inr (28, 0)), some (.inl a), some (.inl b), some (.inl lv), some (.inl tm), none, some (.inl r3), some (.inl (prs C a R)), none] [.inl s, .inr (28, 0)] N3 Q := by
          intro s hs3
          have u14 : jup N3 28 0 16 s 28 0 14 = N1 28 0 14 := by rw [jup_ne (by omega), s14]
          have u15 : jup N3 28 0 16 s 28 0 15 = N1 28 0 15 := by rw [jup_ne (by omega), s15]
          -- not better
          have keep : (∃ B, wgd C a b tm B ∧ num B T < num R T ∧ N1 28 0 14 = wth C a b lv 0 tm B ∧ N1 28 0 15 = prs C a B ∧ (∀ x, 0 ≤ x → x < C a 0 0 → N1 28 14 x = nd (B x)) ∧
    (∀ q, wgd C a b tm q → num q T < num R T → ¬ btr C a b lv 0 tm q (wth C a b lv 0 tm B) (prs C a B) ∧ (wth C a b lv 0 tm q = wth C a b lv 0 tm B → prs C a q = prs C a B → num B (C a 0 0).toNat ≤ num q (C a 0 0).toNat)) ∧
    (∃ q, wgd C a b tm q ∧ num q T < num R T ∧ wth C a b lv 1 tm q = N1 28 0 16) ∧ ∀ q, wgd C a b tm q → num q T < num R T → wth C a b lv 1 tm q ≤ N1 28 0 16) → r3 ≤ N1 28 0 14 → (¬ r3 = N1 28 0 14 ∨ prs C a R ≤ N1 28 0 15) → jCall 4 78 [.inr (28, 0), .inl a, .inl b] (jup N3 28 0 16 s) (fun r N2 => jWP 4 80 24 [some (.inr (28, 0)), some (.inl a), some (.inl b), some (.inl lv), some (.inl tm), some (.inl r), none, none, none] [] N2 Q) := by
            rintro ⟨B, b1, b2, b3, b4, b5, b6, ⟨q0, q1, q2, q3⟩, b8⟩ h1 h2
            refine cont _ (fun x x0 x1 => by rw [jup_ne (by simp)]; exact hR3 x x0 x1) (f3'.tr (fL_0 (by omega))) (Or.inr ⟨B, b1, by show num B T ≤ num R T; omega, by rw [u14, b3], by rw [u15, b4], fun x x0 x1 => by rw [jup_ne (by simp), sr]; exact b5 x x0 x1, fun q hq hl => ?_, ?_, fun q hq hl => ?_⟩)
            · by_cases e : num q T = num R T
              · rw [same q hq e]
                unfold btr
                refine ⟨by omega, fun _ _ => ?_⟩
                rw [hT]; omega
              · exact b6 q hq (by show num q T < num R T; have : num q T ≤ num R T := hl; omega)
            · rw [jup_eq]
              rcases hs3.2.2 with e | e
              · exact ⟨q0, q1, by show num q0 T ≤ num R T; omega, by omega⟩
              · exact ⟨R, hwg, Int.le_refl _, e.symm⟩
            · rw [jup_eq]
              by_cases e : num q T = num R T
              · rw [same q hq e]; omega
              · have := b8 q hq (by have : num q T ≤ num R T := hl; omega)
                omega
          -- better
          have take : (∀ q, wgd C a b tm q → num q T < num R T → (wth C a b lv 0 tm q < r3 ∨ (wth C a b lv 0 tm q = r3 ∧ prs C a q < prs C a R))) → ((∀ q, wgd C a b tm q → num q T < num R T → wth C a b lv 1 tm q ≤ N1 28 0 16) ∧ ((N1 28 0 16 = 0 ∧ ∀ q, wgd C a b tm q → ¬ num q T < num R T) ∨ ∃ q, wgd C a b tm q ∧ num q T < num R T ∧ wth C a b lv 1 tm q = N1 28 0 16)) → jWP 4 80 126 [some (.inr (28, 0)), some (.inl a), some (.inl b), some (.inl lv), some (.inl tm), none, none, none, some (.inl 0)] [] (jup (jup (jup N3 28 0 16 s) 28 0 14 r3) 28 0 15 (prs C a R)) Q := by
            intro hbetter hm
            generalize hN4 : jup (jup (jup N3 28 0 16 s) 28 0 14 r3) 28 0 15 (prs C a R) = N4
            have v14 : N4 28 0 14 = r3 := by rw [← hN4, jup_ne (by omega), jup_eq]
            have v15 : N4 28 0 15 = prs C a R := by rw [← hN4, jup_eq]
            have v16 : N4 28 0 16 = s := by rw [← hN4, jup_ne (by omega), jup_ne (by omega), jup_eq]
            have f4 : fL M N4 := by rw [← hN4]; exact f3'.tr (((fL_0 (by omega)).tr (fL_0 (by omega))).tr (fL_0 (by omega)))
            have hR4 : mRow C N4 a R := fun x x0 x1 => by rw [← hN4, jup_ne (by simp), jup_ne (by simp), jup_ne (by simp)]; exact hR3 x x0 x1
            have cp : ∀ v, 0 ≤ v → v ≤ 6 → ∀ N' : jM, (∀ x, 0 ≤ x → x < v → N' 28 14 x = N4 28 11 x) → (∀ x y, ¬ (x = 28 ∧ y = 14) → N' x y = N4 x y) → fL M N' → jWP 4 80 126 [some (.inr (28, 0)), some (.inl a), some (.inl b), some (.inl lv), some (.inl tm), none, none, none, some (.inl v)] [] N' Q := by
              refine jloop (e := 6) (fun N' h f ff => ?_) (fun v v0 v1 ih2 N' h f ff => ?_)
              · refine fX10_likeness_126 ⟨fun _ => cont N' (fun x x0 x1 => by rw [f 28 11 (by simp)]; exact hR4 x x0 x1) ff (Or.inr ⟨R, hwg, Int.le_refl _, by rw [f 28 0 (by simp), v14, e3], by rw [f 28 0 (by simp), v15], fun x x0 x1 => by rw [h x x0 (by omega)]; exact hR4 x x0 x1, fun q hq hl => ?_, ?_, fun q hq hl => ?_⟩), fun z => by exfalso; omega⟩
                · rw [← e3]
                  by_cases e : num q T = num R T
                  · rw [same q hq e]
                    unfold btr
                    exact ⟨by omega, fun _ _ => Int.le_refl _⟩
                  · have := hbetter q hq (by have : num q T ≤ num R T := hl; omega)
                    unfold btr
                    exact ⟨by omega, fun _ _ => by omega⟩
                · rw [f 28 0 (by simp), v16]
                  rcases hs3.2.2 with e | e
                  · rcases hm.2 with ⟨m1, m2⟩ | ⟨q0, q1, q2, q3⟩
                    · exact ⟨R, hwg, Int.le_refl _, by omega⟩
                    · exact ⟨q0, q1, by show num q0 T ≤ num R T; omega, by omega⟩
                  · exact ⟨R, hwg, Int.le_refl _, e.symm⟩
                · rw [f 28 0 (by simp), v16]
                  by_cases e : num q T = num R T
                  · rw [same q hq e]; omega
                  · have := hm.1 q hq (by have : num q T ≤ num R T := hl; omega)
                    omega
              · refine fX10_likeness_126 ⟨fun z => by exfalso; omega, fun _ => ⟨b11 v v0 v1, b14 v v0 v1, ?_⟩⟩
                rw [jwr_id (by omega) (by omega), f 28 11 (by simp)]
                refine ih2 _ (fun x x0 x1 => ?_) (fun x y q => by rw [jup_set, jset_ne q, f x y q]) (ff.tr fL_14)
                by_cases u : x = v
                · rw [u, jup_eq]
                · rw [jup_ne (by omega)]; exact h x x0 (by omega)
            exact cp 0 (by omega) (by omega) N4 (fun x x0 x1 => by omega) (fun _ _ _ => rfl) f4
          rw [← e3] at w0
          refine fX10_likeness_81 ?_
          rw [u14, u15]
          rcases hs with ⟨o1, o2, o3, o4⟩ | ⟨B, b1, b2, b3, b4, b5, b6, b7, b8⟩
          · exact ⟨fun _ => take (fun q hq hl => absurd hl (o4 q hq)) ⟨fun q hq hl => absurd hl (o4 q hq), Or.inl ⟨o3, o4⟩⟩, fun z => by exfalso; omega⟩
          · have tk : (N1 28 0 14 < r3 ∨ (r3 = N1 28 0 14 ∧ N1 28 0 15 < prs C a R)) → _ := fun hh => take (fun q hq hl => by
              have := (b6 q hq hl).1
              unfold btr at this
              omega) ⟨b8, Or.inr b7⟩
            exact ⟨fun z => tk (Or.inl z), fun z => ⟨fun z2 => keep ⟨B, b1, b2, b3, b4, b5, b6, b7, b8⟩ z (Or.inl z2), fun z2 => ⟨fun z3 => keep ⟨B, b1, b2, b3, b4, b5, b6, b7, b8⟩ z (Or.inr z3), fun z3 => tk (Or.inr ⟨z2, z3⟩)⟩⟩⟩
        rw [c3, s16]
        exact ⟨fun z2 => k81 _ ⟨Int.le_refl _, z2, Or.inl rfl⟩, fun z2 => k81 _ ⟨by omega, Int.le_refl _, Or.inr rfl⟩⟩
  refine jstart (by decide) rfl (fX10_likeness_0 ?_)
  generalize hM0 : jup (jup (jup M 28 0 14 (-1)) 28 0 15 0) 28 0 16 0 = M0
  have f0 : fL M M0 := by rw [← hM0]; exact ((fL_0 (by omega)).tr (fL_0 (by omega))).tr (fL_0 (by omega))
  refine jcq (m_firstRow (C := C) (a := a) (b := b) hb nb1.1 na1.2 (f0.mR hM).2.2) (by decide) ?_
  rintro r1 M1 ⟨h1, f1⟩
  refine rows ((10 : Int) ^ T - num (row0 C a b) T).toNat (row0 C a b) M1 (by omega) (row0_rw C a b) h1 (f0.tr (fL_11 f1)) (Or.inl ⟨by rw [f1 28 0 (by simp), ← hM0, jup_ne (by omega), jup_ne (by omega), jup_eq], by rw [f1 28 0 (by simp), ← hM0, jup_ne (by omega), jup_eq], by rw [f1 28 0 (by simp), ← hM0, jup_eq], fun q hq hl => ?_⟩)
  have := row0_min nb1.2 hq.1.1
  rw [hT] at this
  omega
