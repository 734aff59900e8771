/-! the reference: like, partner, answer -/
/-- only what is worked with has changed -/
def fS (M M' : jM) : Prop := f28 M M' ∧ (∀ y, ((1 ≤ y ∧ y ≤ 10) ∨ y = 21 ∨ y = 22) → M' 28 y = M 28 y) ∧ ∀ z, (z = 4 ∨ z = 17 ∨ z = 18 ∨ z = 19 ∨ z = 27 ∨ z = 28 ∨ z = 29) → M' 28 0 z = M 28 0 z
theorem fS_r (M : jM) : fS M M := ⟨f28_r M, fun _ _ => rfl, fun _ _ => rfl⟩
theorem fS.tr {M M' M'' : jM} (h : fS M M') (h' : fS M' M'') : fS M M'' := ⟨h.1.tr h'.1, fun y q => by rw [h'.2.1 y q, h.2.1 y q], fun z q => by rw [h'.2.2 z q, h.2.2 z q]⟩
theorem fL.s {M M' : jM} (h : fL M M') : fS M M' := ⟨h.1, fun y q => h.2.1 y (by omega), fun z q => h.2.2 z (by omega)⟩
theorem fW.s {M M' : jM} (h : fW M M') : fS M M' := h.l.s
/-- cells of the class that the relation speaks of -/
def cR (C C' : jM) : Prop := ∀ x y, (x < 14 ∨ x = 18 ∨ x = 19 ∨ x = 23) → 0 ≤ x → C' x y = C x y
theorem rel.sc {C C' M M' : jM} (h : rel C M) (hS : fS M M') (hC : cR C C') : rel C' M' := by
  obtain ⟨h1, h2, h3, h4, h5⟩ := h
  have e : ∀ g, (g < 14 ∨ g = 18 ∨ g = 19 ∨ g = 23) → 0 ≤ g → C' g = C g := fun g hg h0 => by funext y; exact hC g y hg h0
  refine ⟨fun k k0 k1 => ?_, fun t t0 t1 => (h2 t t0 t1).fx (e t (by omega) t0) (fun y hy => hS.2.1 y (by omega)), fun t t0 t1 => by rw [hS.2.1 8 (by omega), e t (by omega) t0]; exact h3 t t0 t1, ?_, ?_⟩
  · rw [hS.2.1 1 (by omega), hS.2.1 2 (by omega), hS.2.1 3 (by omega), hS.2.1 4 (by omega), e 19 (by omega) (by omega)]
    exact h1 k k0 k1
  · exact h4.fx (e 23 (by omega) (by omega)) (hC 12 0 (by omega) (by omega)) ⟨hS.2.2 17 (by omega), hS.2.2 18 (by omega), hS.2.2 19 (by omega)⟩ (hS.2.1 21 (by omega)) (hS.2.1 22 (by omega))
  · unfold rSo at h5 ⊢
    rw [hS.2.2 4 (by omega), hS.2.2 27 (by omega), hS.2.2 28 (by omega), hS.2.2 29 (by omega), e 18 (by omega) (by omega)]
    exact h5
theorem cR_r (C : jM) : cR C C := fun _ _ _ _ => rfl
theorem cR_kp {C C' : jM} (h : ∀ x y, ¬ (x = 20 ∨ x = 21 ∨ x = 22) → C' x y = C x y) : cR C C' := fun x y hx h0 => h x y (by omega)
theorem m_isLevel (M : jM) (v : Int) : jCallP 1 81 [.inl v] M (fun r M' => r = (if 0 ≤ v ∧ v < 3 then 1 else 0) ∧ M' = M) := by
  refine jstart (by decide) rfl (fX10_isLevel_0 (jc (m_in M v 0 2) (by decide) ⟨jite_01, ?_, rfl⟩))
  by_cases h : 0 ≤ v ∧ v < 3
  · rw [if_pos h, if_pos (by omega)]
  · rw [if_neg h, if_neg (by omega)]
theorem Inv.gd {C : jM} (h : Inv C) {a b : Int} (ha : 0 ≤ a ∧ a < 14) (hb : 0 ≤ b ∧ b < 14) : gd C a b := ⟨h.L, h.G ha.1 ha.2, h.G hb.1 hb.2, ha, hb⟩
theorem rel.mR {C M : jM} (h : rel C M) {a b : Int} (ha : 0 ≤ a ∧ a < 14) (hb : 0 ≤ b ∧ b < 14) : mR C M a b := ⟨h.1, h.2.1 a ha.1 ha.2, h.2.1 b hb.1 hb.2⟩
theorem Inv.tm {C : jM} (h : Inv C) : C 18 0 8 = 0 ∨ C 18 0 8 = 1 := h.2.2.2.1
theorem m_like {C M C' : jM} {a b l r0 : Int} (hI : Inv C) (hR : rel C M) (hs : s_like C a b l r0 C') : jCallP 5 82 [.inr (28, 0), .inl a, .inl b, .inl l] M (fun r M' => r = r0 ∧ rel C' M' ∧ f28 M M') := by
  refine jstart (by decide) rfl (fX10_like_0 ?_)
  refine jc (m_isTale M a) (by decide) ⟨fun q => ?_, fun q => ?_⟩
  · obtain ⟨e1, rfl⟩ := jif_n hs (fun h => jite_eq.mp q h.1)
    exact ⟨e1.symm, hR, f28_r M⟩
  have ha := jite_ne.mp q
  refine jc (m_isTale M b) (by decide) ⟨fun q => ?_, fun q => ?_⟩
  rotate_left
  · obtain ⟨e1, rfl⟩ := jif_n hs (fun h => jite_eq.mp q h.2)
    exact ⟨e1.symm, hR, f28_r M⟩
  have hb := jite_ne.mp q
  have hs := jif_y hs ⟨ha, hb⟩
  refine jc (m_isLevel M l) (by decide) ⟨fun q => ?_, fun q => ?_⟩
  rotate_left
  · obtain ⟨e1, rfl⟩ := jif_n hs (fun h => jite_eq.mp q h)
    exact ⟨e1.symm, hR, f28_r M⟩
  have hl := jite_ne.mp q
  obtain ⟨R, hB, er, ag1, ag2, k0, k1, k2, gl, fr, -⟩ := jif_y hs hl
  have hm4 : M 28 0 4 = C 18 0 8 := hR.2.2.2.2.1
  have htm := hI.tm
  have hNa := hI.N ha.1 (by omega)
  have hNb := hI.N hb.1 (by omega)
  have na1 := hNa.1
  have na2 := hNa.2
  have nb1 := hNb.1
  -- likeness and what is kept
  have go : jWP 5 82 43 [some (.inr (28, 0)), some (.inl a), some (.inl b), some (.inl l), none, none] [.inl (C 18 0 8), .inl l, .inl b, .inl a, .inr (28, 0)] M (fun r M' => r = r0 ∧ rel C' M' ∧ f28 M M') := by
    refine fX10_like_43 (jcq (m_likeness (lv := l) (tm := C 18 0 8) (hI.gd ⟨ha.1, by omega⟩ ⟨hb.1, by omega⟩) (hR.mR ⟨ha.1, by omega⟩ ⟨hb.1, by omega⟩) hl) (by decide) ?_)
    rintro r1 M1 ⟨R', hB', e1, hrow, hans, -, -, -, f1⟩
    have eR : R' = R := best_one nb1.2 hB' hB
    subst eR
    generalize hM2 : jup (jup M1 28 0 17 1) 28 0 18 l = M2
    have v17 : M2 28 0 17 = 1 := by rw [← hM2, jup_ne (by simp), jup_eq]
    have v18 : M2 28 0 18 = l := by rw [← hM2, jup_eq]
    have vz : ∀ z, ¬ (z = 17 ∨ z = 18) → M2 28 0 z = M1 28 0 z := fun z h => by rw [← hM2, jup_ne (by omega), jup_ne (by omega)]
    have vy : ∀ y, ¬ y = 0 → M2 28 y = M1 28 y := fun y h => by rw [← hM2, jup_set, jset_ne (by omega), jup_set, jset_ne (by omega)]
    have f2 : f28 M M2 := by rw [← hM2]; exact (f1.1.tr f28_up).tr f28_up
    have k72 : jWP 5 82 72 [some (.inr (28, 0)), some (.inl a), some (.inl b), none, some (.inl r1), none] [.inl (C 18 0 8), .inr (28, 0)] M2 (fun r M' => r = r0 ∧ rel C' M' ∧ f28 M M') := by
      refine fX10_like_72 ⟨htm, ?_⟩
      refine jcq (m_become (t := 12) (u := a) (by omega) (by omega) (by omega)) (by decide) ?_
      rintro r3 M3 ⟨p6, p9, p8, p7, p10, o3⟩
      refine jcq (m_become (t := 13) (u := b) (by omega) (by omega) (by omega)) (by decide) ?_
      rintro r4 M4 ⟨q6, q9, q8, q7, q10, o4⟩
      have w4 : f28 M M4 := (f2.tr f28_up).tr (o3.2.1.tr o4.2.1)
      -- all but the two tales
      have y4 : ∀ y, ¬ y = 0 → ¬ (6 ≤ y ∧ y ≤ 10) → M4 28 y = M1 28 y := fun y h h' => by rw [o4.1 y h', o3.1 y h', jup_set, jset_ne (by omega), vy y h]
      have z4 : ∀ z, ¬ (z = 17 ∨ z = 18 ∨ z = 19) → M4 28 0 z = M1 28 0 z := fun z h => by rw [o4.1 0 (by omega), o3.1 0 (by omega), jup_ne (by omega), vz z (by omega)]
      have s19 : M4 28 0 19 = C 18 0 8 := by rw [o4.1 0 (by omega), o3.1 0 (by omega), jup_eq]
      have s17 : M4 28 0 17 = 1 := by rw [o4.1 0 (by omega), o3.1 0 (by omega), jup_ne (by omega), v17]
      have s18 : M4 28 0 18 = l := by rw [o4.1 0 (by omega), o3.1 0 (by omega), jup_ne (by omega), v18]
      have t12 : rT C' M3 12 := by
        refine rT_agr (C := C) (M := M) hNa ag1 (hR.2.1 a ha.1 (by omega)) ?_ ?_ (fun x x0 x1 => ?_) (fun c c0 c1 => ?_)
        · rw [p6, jup_ne (by simp), vy 6 (by decide), f1.2.1 6 (by decide)]
        · rw [p9, jup_ne (by simp), vy 9 (by decide), f1.2.1 9 (by decide)]
        · rw [p7 x x0 x1, jup_ne (by simp), vy 7 (by decide), f1.2.1 7 (by decide)]
        · rw [p10 c c0 c1, jup_ne (by simp), vy 10 (by decide), f1.2.1 10 (by decide)]
      have hb3 : ∀ u, 0 ≤ u → u < 12 → rT C M3 u := fun u u0 u1 => by
        refine o3.tl (by omega) (hI.N u0 (by omega)) ((hR.2.1 u u0 (by omega)).fx rfl (fun y hy => ?_)) rfl
        rw [jup_set, jset_ne (by omega), vy y (by omega), f1.2.1 y (by omega)]
      have t13 : rT C' M4 13 := rT_agr (C := C) (M := M3) hNb ag2 (hb3 b hb.1 hb.2) q6 q9 q7 q10
      have n12 : jNB C' 12 := by unfold jNB; rw [ag1.1, ag1.2.1]; exact hNa
      have t12' : rT C' M4 12 := o4.tl (by omega) n12 t12 rfl
      have eC : ∀ g, 0 ≤ g → g < 12 → C' g = C g := fun g g0 g1 => by funext y; exact fr g y (by omega)
      have told : ∀ u, 0 ≤ u → u < 12 → rT C' M4 u := fun u u0 u1 => o4.tl (by omega) (hI.N u0 (by omega)) (hb3 u u0 u1) (eC u u0 u1)
      have lab4 : ∀ u, 0 ≤ u → u < 12 → M4 28 8 u = M 28 8 u := fun u u0 u1 => by
        rw [(o4.2.2.1 u (by omega)).2.2, (o3.2.2.1 u (by omega)).2.2, jup_ne (by simp), vy 8 (by decide), f1.2.1 8 (by decide)]
      have b11 : ∀ v, 0 ≤ v → v < 6 → 0 ≤ v ∧ v < jal 28 11 := fun v _ _ => by rw [jal_28_11]; omega
      have b21 : ∀ v, 0 ≤ v → v < 6 → 0 ≤ v ∧ v < jal 28 21 := fun v _ _ => by rw [jal_28_21]; omega
      have b12 : ∀ v, 0 ≤ v → v < 14 → 0 ≤ v ∧ v < jal 28 12 := fun v _ _ => by rw [jal_28_12]; omega
      have b22 : ∀ v, 0 ≤ v → v < 14 → 0 ≤ v ∧ v < jal 28 22 := fun v _ _ => by rw [jal_28_22]; omega
      have k122 : ∀ v, 0 ≤ v → v ≤ 14 → ∀ N : jM, (∀ x, 0 ≤ x → x < 6 → N 28 21 x = M4 28 11 x) → (∀ x, 0 ≤ x → x < v → N 28 22 x = M4 28 12 x) → (∀ x y, ¬ (x = 28 ∧ (y = 21 ∨ y = 22)) → N x y = M4 x y) → jWP 5 82 122 [some (.inr (28, 0)), none, none, none, some (.inl r1), some (.inl v)] [] N (fun r M' => r = r0 ∧ rel C' M' ∧ f28 M M') := by
        refine jloop (e := 14) (fun N h1 h2 f => ?_) (fun v v0 v1 ih N h1 h2 f => ?_)
        · refine fX10_like_122 ⟨fun _ => ⟨by rw [e1, er], ⟨fun k k0' k1' => ?_, fun t t0 t1 => ?_, fun t t0 t1 => ?_, ⟨?_, fun _ => ⟨?_, ?_, fun x x0 x1 => ?_, fun i i0 i1 => ?_⟩⟩, ?_⟩, fun x y h => by rw [f x y (by omega), w4 x y h]⟩, fun z => by exfalso; omega⟩
          · rw [f 28 1 (by simp), f 28 2 (by simp), f 28 3 (by simp), f 28 4 (by simp), y4 1 (by decide) (by decide), y4 2 (by decide) (by decide), y4 3 (by decide) (by decide), y4 4 (by decide) (by decide), f1.2.1 1 (by decide), f1.2.1 2 (by decide), f1.2.1 3 (by decide), f1.2.1 4 (by decide), show C' 19 = C 19 from by funext y; exact fr 19 y (by omega)]
            exact hR.1 k k0' k1'
          · have : rT C' M4 t := by
              by_cases u : t = 12
              · rw [u]; exact t12'
              · by_cases u2 : t = 13
                · rw [u2]; exact t13
                · exact told t t0 (by omega)
            exact this.fx rfl (fun y hy => f 28 y (by omega))
          · rw [f 28 8 (by simp), lab4 t t0 t1, eC t t0 t1]; exact hR.2.2.1 t t0 t1
          · rw [f 28 0 (by simp), s17, k0]
          · rw [f 28 0 (by simp), s18, k1]
          · rw [f 28 0 (by simp), s19, k2]
          · rw [ag1.1] at x1
            rw [h1 x x0 (by omega), y4 11 (by decide) (by decide), hrow x x0 x1, (gl.1.2.1 x x0 (by rw [ag1.1]; exact x1)).1]
          · rw [ag1.2.1] at i1
            rw [h2 i i0 (by omega), y4 12 (by decide) (by decide), (hans i i0 i1).1, (gl.1.2.2.1 i i0 (by rw [ag1.2.1]; exact i1)).1]
          · have hS := hR.2.2.2.2
            unfold rSo at hS ⊢
            rw [f 28 0 (by simp), z4 4 (by decide), z4 27 (by decide), z4 28 (by decide), z4 29 (by decide), f1.2.2 4 (by decide), f1.2.2 27 (by decide), f1.2.2 28 (by decide), f1.2.2 29 (by decide), fr 18 0 (by omega)]
            exact hS
        · refine fX10_like_122 ⟨fun z => by exfalso; omega, fun _ => ⟨b12 v v0 v1, b22 v v0 v1, ?_⟩⟩
          rw [jwr_id (by omega) (by omega), f 28 12 (by simp)]
          refine ih _ (fun x x0 x1 => by rw [jup_ne (by simp)]; exact h1 x x0 x1) (fun x x0 x1 => ?_) (fun x y h => by rw [jup_set, jset_ne (by omega), f x y h])
          by_cases u : x = v
          · rw [u, jup_eq]
          · rw [jup_ne (by omega)]; exact h2 x x0 (by omega)
      have k92 : ∀ v, 0 ≤ v → v ≤ 6 → ∀ N : jM, (∀ x, 0 ≤ x → x < v → N 28 21 x = M4 28 11 x) → (∀ x y, ¬ (x = 28 ∧ (y = 21 ∨ y = 22)) → N x y = M4 x y) → jWP 5 82 92 [some (.inr (28, 0)), none, none, none, some (.inl r1), some (.inl v)] [] N (fun r M' => r = r0 ∧ rel C' M' ∧ f28 M M') := by
        refine jloop (e := 6) (fun N h1 f => ?_) (fun v v0 v1 ih N h1 f => ?_)
        · exact fX10_like_92 ⟨fun _ => k122 0 (by omega) (by omega) N h1 (fun x x0 x1 => by omega) f, fun z => by exfalso; omega⟩
        · refine fX10_like_92 ⟨fun z => by exfalso; omega, fun _ => ⟨b11 v v0 v1, b21 v v0 v1, ?_⟩⟩
          rw [jwr_id (by omega) (by omega), f 28 11 (by simp)]
          refine ih _ (fun x x0 x1 => ?_) (fun x y h => by rw [jup_set, jset_ne (by omega), f x y h])
          by_cases u : x = v
          · rw [u, jup_eq]
          · rw [jup_ne (by omega)]; exact h1 x x0 (by omega)
      exact k92 0 (by omega) (by omega) M4 (fun x x0 x1 => by omega) (fun _ _ _ => rfl)
    have v4 : M2 28 0 4 = C 18 0 8 := by rw [vz 4 (by decide), f1.2.2 4 (by decide), hm4]
    rw [v4]
    exact ⟨Or.inr rfl, fun z => by rw [show C 18 0 8 = 0 by omega] at k72; exact k72, fun z => by rw [z] at k72; exact k72⟩
  rw [hm4]
  exact ⟨fun z => by rw [show C 18 0 8 = 0 by omega] at go; exact go, fun z => by rw [z] at go; exact go⟩
theorem m_partner {C M C' : jM} {k r0 : Int} (hI : Inv C) (hR : rel C M) (hs : s_partner C k r0 C') : jCallP 2 83 [.inr (28, 0), .inl k] M (fun r M' => r = r0 ∧ M' = M) := by
  obtain ⟨hs, -⟩ := hs
  obtain ⟨-, hT, -, ⟨h17, hk⟩, -⟩ := hR
  have hN := hI.N (t := 12) (by omega) (by omega)
  have n1 := hN.1
  refine jstart (by decide) rfl (fX10_partner_0 ⟨fun z => ?_, fun z => ⟨(jif_y hs (by rw [← h17]; exact z)).symm, rfl⟩⟩)
  rw [h17] at z
  have hs := jif_n hs z
  obtain ⟨-, -, h21, -⟩ := hk z
  refine jc (m_isThing (by omega) hN (hT 12 (by omega) (by omega))) (by decide) ⟨fun q => ?_, fun q => ⟨(jif_n hs (jite_eq.mp q)).symm, rfl⟩⟩
  have hx := jite_ne.mp q
  have hs := jif_y hs hx
  have b : 0 ≤ k ∧ k < jal 28 21 := by rw [jal_28_21]; omega
  obtain ⟨R, A, hv, gl⟩ := (hI.2.2.2.2.2.2.2 z).2.2
  have g6 := gl.1.2.1 k hx.1 hx.2
  rw [h21 k hx.1 hx.2, hs]
  unfold nd
  refine ⟨b, fun w => ⟨b, ?_, rfl⟩, fun w => ⟨?_, rfl⟩⟩
  · by_cases u : C 23 6 k < 0
    · rw [if_pos u] at w; exact absurd rfl w
    · rw [if_neg u, if_neg u]
  · by_cases u : C 23 6 k < 0
    · rw [if_pos u]
    · rw [if_neg u] at w
      omega
theorem m_answer {C M C' : jM} {k r0 : Int} (hI : Inv C) (hR : rel C M) (hs : s_answer C k r0 C') : jCallP 1 84 [.inr (28, 0), .inl k] M (fun r M' => r = r0 ∧ M' = M) := by
  obtain ⟨hs, -⟩ := hs
  obtain ⟨-, hT, -, ⟨h17, hk⟩, -⟩ := hR
  have hN := hI.N (t := 12) (by omega) (by omega)
  have n2 := hN.2
  refine jstart (by decide) rfl (fX10_answer_0 ⟨fun z => ?_, fun z => ⟨(jif_y hs (by rw [← h17]; exact z)).symm, rfl⟩⟩)
  rw [h17] at z
  have hs := jif_n hs z
  obtain ⟨-, -, -, h22⟩ := hk z
  rw [(hT 12 (by omega) (by omega)).2.1, jwr_id (by omega) (by omega)]
  refine ⟨by rw [jal_28_9]; omega, jc (m_in M k 0 _) (by decide) ⟨fun q => ⟨(jif_n hs (fun h => jite_eq.mp q (by omega))).symm, rfl⟩, fun q => ?_⟩⟩
  have hx := jite_ne.mp q
  have hs := jif_y hs (by omega)
  rw [h22 k (by omega) (by omega), hs]
  exact ⟨by rw [jal_28_22]; omega, rfl, rfl⟩
