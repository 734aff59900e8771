/-! what stands between the calls stays -/
theorem gS_fx {C C' : jM} {p A : Int → Int} (h : C' 12 = C 12) : ∀ n : Nat, gS C' p A n = gS C p A n
  | 0 => rfl
  | n + 1 => by
    have ih := gS_fx (p := p) (A := A) h n
    have e : ∀ D : jM, gS D p A (n + 1) = @ite _ (A n = -1 ∧ isG D p A (gS D p A n).2 n) (Classical.propDecidable _) ((gS D p A n).1 + 1, jfu (gS D p A n).2 n (gS D p A n).1) (gS D p A n) := fun D => rfl
    rw [e, e, ih]
    unfold isG
    rw [h]
theorem jGl_fx {C C' : jM} {R A : Int → Int} (h12 : C' 12 = C 12) (h23 : C' 23 = C 23) (h24 : C' 24 = C 24) (h : jGl C C 24 23 R A) : jGl C' C' 24 23 R A := by
  unfold jGl jGs at h ⊢
  rw [gS_fx h12, h12, h23, h24]
  exact ⟨⟨rfl, h.1.2⟩, h.2⟩
theorem Inv.of {C C' : jM} (h : Inv C) (hL : jLV C') (hA : jAC C') (hG : ∀ t, 0 ≤ t → t < 14 → jGood C' t ∧ jSr C' t ∧ jUq C' t) (hz : jZr C') (h8 : C' 18 0 8 = 0 ∨ C' 18 0 8 = 1) (h9 : C' 18 0 9 = 0 ∨ C' 18 0 9 = 1) (h23 : C' 23 = C 23) (h24 : C' 24 = C 24) (h12 : C' 12 = C 12) (h13 : C' 13 = C 13) : Inv C' := by
  obtain ⟨-, -, -, -, -, k1, k2, k3⟩ := h
  refine ⟨⟨hL, fun g g0 g1 => ⟨(hG g g0 g1).1, (hG g g0 g1).2.1⟩, hz⟩, hA, fun t t0 t1 => (hG t t0 t1).2.2, h8, h9, by rw [h23]; exact k1, fun q => ?_, fun q => ?_⟩
  · rw [h23] at q
    rw [h12, h13]
    exact k2 q
  · rw [h23] at q ⊢
    obtain ⟨a1, a2, R, A, a3, a4⟩ := k3 q
    refine ⟨a1, a2, R, A, ?_, jGl_fx h12 h23 h24 a4⟩
    unfold vld at a3 ⊢
    rw [h12, h13]
    exact a3
theorem lch_fx {C C' : jM} (h : C' 19 3 = C 19 3) : ∀ (n : Nat) (k : Int), lch C' n k = lch C n k
  | 0, _ => rfl
  | n + 1, k => by
    unfold lch
    rw [h, lch_fx h n]
theorem Inv.g3 {C : jM} (h : Inv C) {t : Int} (h0 : 0 ≤ t) (h1 : t < 14) : jGood C t ∧ jSr C t ∧ jUq C t := ⟨(h.1.2.1 t h0 h1).1, (h.1.2.1 t h0 h1).2, h.2.2.1 t h0 h1⟩
theorem g3_agr {C C' : jM} {a a' : Int} (h19 : C' 19 = C 19) (h : agr C C' a a') (hg : 0 ≤ a' ∧ a' < 18) (hG : jGood C a ∧ jSr C a ∧ jUq C a) : jGood C' a' ∧ jSr C' a' ∧ jUq C' a' := ⟨good_agr h19 h hg hG.1, sr_agr h hG.2.1, uq_agr h19 h hG.2.2⟩
/-- nothing that stands has changed but the language's cells and what is worked with -/
theorem Inv.sc {C C' : jM} (h : Inv C) (hC : ∀ x y, (0 ≤ x ∧ (x < 14 ∨ x = 18 ∨ x = 19 ∨ x = 23 ∨ x = 24)) → C' x y = C x y) (hz : jZr C') : Inv C' := by
  have e : ∀ g, (0 ≤ g ∧ (g < 14 ∨ g = 18 ∨ g = 19 ∨ g = 23 ∨ g = 24)) → C' g = C g := fun g hg => by funext y; exact hC g y hg
  have e19 := e 19 (by omega)
  have e18 := e 18 (by omega)
  refine h.of (by have := h.L; unfold jLV at this ⊢; rw [e19]; exact this) (fun k k0 k1 => by rw [lch_fx (by rw [e19])]; exact h.2.1 k k0 k1) (fun t t0 t1 => g3_agr e19 (agr_fx (e t (by omega))) (by omega) (h.g3 t0 t1)) hz (by rw [e18]; exact h.2.2.2.1) (by rw [e18]; exact h.2.2.2.2.1) (e 23 (by omega)) (e 24 (by omega)) (e 12 (by omega)) (e 13 (by omega))
theorem Inv.zr {C : jM} (h : Inv C) : jZr C := h.1.2.2
theorem inv_kp {C C' : jM} (h : Inv C) (k : jKp C C') : Inv C' := h.sc (fun x y hx => k.1 x y (by omega)) k.2
theorem inv_kl {C C' : jM} (h : Inv C) (k : jKl C C') : Inv C' := h.sc (fun x y hx => k.1 x y (by omega)) k.2
theorem inv_kg {C C' : jM} (h : Inv C) (k : jKg C C') : Inv C' := h.sc (fun x y hx => k x y (by omega)) ⟨fun c c0 c1 => by rw [k 21 7 (by simp)]; exact h.zr.1 c c0 c1, by rw [k 22 0 (by simp)]; exact h.zr.2⟩
/-- one tale changes -/
theorem inv_tale {C C' : jM} {t : Int} (h : Inv C) (ht : isT t) (hg : jGood C' t ∧ jSr C' t ∧ jUq C' t) (hC : ∀ x y, ¬ (x = t ∨ x = 14 ∨ (20 ≤ x ∧ x ≤ 22) ∨ x = 26) → C' x y = C x y) (hz : jZr C') : Inv C' := by
  have e : ∀ g, ¬ (g = t ∨ g = 14 ∨ (20 ≤ g ∧ g ≤ 22) ∨ g = 26) → C' g = C g := fun g hg => by funext y; exact hC g y hg
  have e19 := e 19 (by omega)
  have e18 := e 18 (by omega)
  refine h.of (by have := h.L; unfold jLV at this ⊢; rw [e19]; exact this) (fun k k0 k1 => by rw [lch_fx (by rw [e19])]; exact h.2.1 k k0 k1) (fun u u0 u1 => ?_) hz (by rw [e18]; exact h.2.2.2.1) (by rw [e18]; exact h.2.2.2.2.1) (e 23 (by omega)) (e 24 (by omega)) (e 12 (by omega)) (e 13 (by omega))
  by_cases w : u = t
  · rw [w]; exact hg
  · exact g3_agr e19 (agr_fx (e u (by omega))) (by omega) (h.g3 u0 u1)
theorem zr_fx {C C' : jM} (h : jZr C) (h21 : C' 21 = C 21) (h22 : C' 22 = C 22) : jZr C' := by
  unfold jZr at h ⊢
  rw [h21, h22]
  exact h
theorem inv_tale' {C C' : jM} {t n r : Int} (h : Inv C) (hs : s_tale C t n r C') : Inv C' := by
  by_cases ht : isT t
  · have hs := jif_y hs ht
    by_cases hn : 0 ≤ n ∧ n ≤ 6
    · obtain ⟨-, e0, e1, e2, e4, hC⟩ := jif_y hs hn
      have fr : ∀ x y, ¬ x = t → C' x y = C x y := fun x y q => hC x y (fun w => q w.1)
      refine inv_tale h ht ⟨⟨⟨by omega, ⟨by omega, by omega⟩, fun i i0 i1 => by omega, fun i i0 i1 => by omega⟩, fun i q i0 i1 => by omega, fun i i0 i1 => by omega, fun i i0 i1 => by omega, fun i q i0 i1 => by omega⟩, fun x x0 x1 => by rw [e4 x x0 (by omega)]; omega, fun i j i0 ij j1 => by omega⟩ (fun x y q => fr x y (by omega)) (zr_fx h.zr (by funext y; exact fr 21 y (by omega)) (by funext y; exact fr 22 y (by omega)))
    · rw [(jif_n hs hn).2]; exact h
  · rw [(jif_n hs ht).2]; exact h
theorem inv_sort {C C' : jM} {t x v r : Int} (h : Inv C) (hs : s_sort C t x v r C') : Inv C' := by
  by_cases ht : isT t ∧ 0 ≤ x ∧ x < C t 0 0
  · have hs := jif_y hs ht
    by_cases hv : 0 ≤ v ∧ v < 10
    · obtain ⟨-, rfl⟩ := jif_y hs hv
      have nC : ∀ a b, ¬ (a = t ∧ b = 4) → jup C t 4 x v a b = C a b := fun a b q => by rw [jup_set, jset_ne q]
      obtain ⟨g1, g2, g3⟩ := h.g3 ht.1.1 (by omega : t < 14)
      have e19 : jup C t 4 x v 19 = C 19 := by funext y; exact nC 19 y (by omega)
      refine inv_tale h ht.1 ⟨?_, fun z z0 z1 => ?_, ?_⟩ (fun a b q => nC a b (by omega)) (zr_fx h.zr (by funext y; exact nC 21 y (by omega)) (by funext y; exact nC 22 y (by omega)))
      · unfold jGood jTl jNB jKd jMo jEs jHs jHt jEc hE at g1 ⊢
        rw [nC t 0 (by simp), nC t 5 (by simp), nC t 6 (by simp), nC t 7 (by simp), nC t 8 (by simp), e19]
        exact g1
      · rw [nC t 0 (by simp)] at z1
        by_cases u : z = x
        · rw [u, jup_eq]; exact hv
        · rw [jup_ne (by omega)]; exact g2 z z0 z1
      · unfold jUq mtie at g3 ⊢
        rw [nC t 0 (by simp), nC t 5 (by simp), nC t 6 (by simp), e19]
        exact g3
    · rw [(jif_n hs hv).2]; exact h
  · rw [(jif_n hs ht).2]; exact h
theorem inv_label {C C' : jM} {t v r : Int} (h : Inv C) (hs : s_label C t v r C') : Inv C' := by
  by_cases ht : isT t
  · have hs := jif_y hs ht
    by_cases hv : 0 ≤ v ∧ v < 10
    · obtain ⟨-, rfl⟩ := jif_y hs hv
      have nC : ∀ a b, ¬ (a = t ∧ b = 0) → jup C t 0 2 v a b = C a b := fun a b q => by rw [jup_set, jset_ne q]
      have n0 : ∀ z, ¬ z = 2 → jup C t 0 2 v t 0 z = C t 0 z := fun z q => jup_ne (by omega)
      have e19 : jup C t 0 2 v 19 = C 19 := by funext y; exact nC 19 y (by omega)
      have ag : agr C (jup C t 0 2 v) t t := by
        unfold agr
        rw [n0 0 (by decide), n0 1 (by decide), nC t 4 (by simp), nC t 5 (by simp), nC t 6 (by simp), nC t 7 (by simp), nC t 8 (by simp)]
        exact ⟨rfl, rfl, fun _ _ _ => rfl, fun _ _ _ => ⟨rfl, rfl, rfl⟩, fun _ _ _ _ _ _ => rfl⟩
      exact inv_tale h ht (g3_agr e19 ag (by omega) (h.g3 ht.1 (by omega))) (fun a b q => nC a b (by omega)) (zr_fx h.zr (by funext y; exact nC 21 y (by omega)) (by funext y; exact nC 22 y (by omega)))
    · rw [(jif_n hs hv).2]; exact h
  · rw [(jif_n hs ht).2]; exact h
theorem inv_tie {C C' : jM} {t k x y z m r : Int} (h : Inv C) (hs : s_tie C t k x y z m r C') : Inv C' := by
  by_cases ht : isT t ∧ isK k
  · have hs := jif_y hs ht
    by_cases hf : (m = -1 ∨ (0 ≤ m ∧ m < 10)) ∧ hasE C t (C 19 1 k) x y z
    · have hs := jif_y hs hf
      by_cases h14 : 14 ≤ C t 0 1
      · rw [(jif_y hs h14).2]; exact h
      · have hs := jif_n hs h14
        by_cases hfd : fnd C t k x y z = -1
        · obtain ⟨-, rfl⟩ := jif_y hs hfd
          obtain ⟨hm, h1, h2, h3, h4, h5⟩ := hf
          obtain ⟨g1, g2, g3⟩ := h.g3 ht.1.1 (by omega : t < 14)
          have hN := g1.1.2.1
          have n1 := hN.1
          have n2 := hN.2
          obtain ⟨⟨c1, c3⟩, -⟩ := h.L k ht.2.1 ht.2.2
          have x1 := isE_ok hN h1
          have ox : eOk C t k x 0 := ⟨by omega, x1.2.1, x1.2.2, by omega⟩
          have oy : eOk C t k y 1 := by
            by_cases u : 2 ≤ C 19 1 k
            · have := isE_ok hN (h2 u)
              exact ⟨by omega, this.2.1, this.2.2, by omega⟩
            · have := h3 (by omega)
              exact ⟨by omega, by omega, by omega, by omega⟩
          have oz : eOk C t k z 2 := by
            by_cases u : 3 ≤ C 19 1 k
            · have := isE_ok hN (h4 u)
              exact ⟨by omega, this.2.1, this.2.2, by omega⟩
            · have := h5 (by omega)
              exact ⟨by omega, by omega, by omega, by omega⟩
          have fr : ∀ a b, ¬ a = t → jput C t k x y z m a b = C a b := fun a b q => jput_at (fun w => q w.1)
          have jr := jput_r (M := C) (g := t) (k := k) (x := x) (y := y) (z := z) (m := m)
          refine inv_tale h ht.1 ⟨put_good g1 (by omega) ht.2 (by omega) ox oy oz, fun u u0 u1 => ?_, put_uq (by omega) g3 n2.1 hfd⟩ (fun a b q => fr a b (by omega)) (zr_fx h.zr (by funext y; exact fr 21 y (by omega)) (by funext y; exact fr 22 y (by omega)))
          rw [jr.1] at u1
          rw [jr.2.2.2.1]
          exact g2 u u0 u1
        · rw [(jif_n hs hfd).2]; exact h
    · rw [(jif_n hs hf).2]; exact h
  · rw [(jif_n hs ht).2]; exact h
theorem inv_copy {C C' : jM} {t u r : Int} (h : Inv C) (hs : s_copy C t u r C') : Inv C' := by
  by_cases ht : isT t ∧ isT u
  · obtain ⟨-, hB⟩ := jif_y hs ht
    have fr : ∀ x y, ¬ x = u → C' x y = C x y := fun x y q => hB.2.2.2.2.2.2 x y (fun w => q w.1)
    exact inv_tale h ht.2 (g3_agr (by funext y; exact fr 19 y (by omega)) (agr_became (h.N ht.1.1 (by omega)) hB) (by omega) (h.g3 ht.1.1 (by omega))) (fun a b q => fr a b (by omega)) (zr_fx h.zr (by funext y; exact fr 21 y (by omega)) (by funext y; exact fr 22 y (by omega)))
  · rw [(jif_n hs ht).2]; exact h
theorem inv_timed {C C' : jM} {v r : Int} (h : Inv C) (hs : s_timed C v r C') : Inv C' := by
  by_cases hv : v = 0 ∨ v = 1
  · obtain ⟨-, rfl⟩ := jif_y hs hv
    have nC : ∀ a b, ¬ (a = 18 ∧ b = 0) → jup C 18 0 8 v a b = C a b := fun a b q => by rw [jup_set, jset_ne q]
    have e : ∀ g, ¬ g = 18 → jup C 18 0 8 v g = C g := fun g q => by funext y; exact nC g y (fun w => q w.1)
    refine h.of (by have := h.L; unfold jLV at this ⊢; rw [e 19 (by omega)]; exact this) (fun k k0 k1 => by rw [lch_fx (by rw [e 19 (by omega)])]; exact h.2.1 k k0 k1) (fun t t0 t1 => g3_agr (e 19 (by omega)) (agr_fx (e t (by omega))) (by omega) (h.g3 t0 t1)) (zr_fx h.zr (e 21 (by omega)) (e 22 (by omega))) (by rw [jup_eq]; exact hv) (by rw [jup_ne (by omega)]; exact h.2.2.2.2.1) (e 23 (by omega)) (e 24 (by omega)) (e 12 (by omega)) (e 13 (by omega))
  · rw [(jif_n hs hv).2]; exact h
theorem inv_seek {C C' : jM} {a r : Int} (h : Inv C) (hs : s_seek C a r C') : Inv C' := by
  by_cases ha : isT a
  · obtain ⟨-, e9, -, -, fr, fz, hz⟩ := jif_y hs ha
    have e : ∀ g, ¬ (g = 18 ∨ (20 ≤ g ∧ g ≤ 22) ∨ g = 27) → C' g = C g := fun g q => by funext y; exact fr g y (by omega)
    refine h.of (by have := h.L; unfold jLV at this ⊢; rw [e 19 (by omega)]; exact this) (fun k k0 k1 => by rw [lch_fx (by rw [e 19 (by omega)])]; exact h.2.1 k k0 k1) (fun t t0 t1 => g3_agr (e 19 (by omega)) (agr_fx (e t (by omega))) (by omega) (h.g3 t0 t1)) hz (by rw [fz 8 (by omega)]; exact h.2.2.2.1) (Or.inr e9) (e 23 (by omega)) (e 24 (by omega)) (e 12 (by omega)) (e 13 (by omega))
  · rw [(jif_n hs ha).2]; exact h
theorem inv_common {C C' : jM} {a b c l r : Int} (h : Inv C) (hs : s_common C a b c l r C') : Inv C' := by
  by_cases h1 : isT a ∧ isT b ∧ isT c
  · have hs := jif_y hs h1
    by_cases h2 : 0 ≤ l ∧ l < 3
    · have hs := jif_y hs h2
      by_cases h3 : c = a ∨ c = b
      · rw [(jif_y hs h3).2]; exact h
      · obtain ⟨R, T, S, hB, tf, ⟨s1, s2, s3⟩, ag, -, -, fr, hz⟩ := jif_n hs h3
        have eTa : T a = C a := by funext y; exact tf a y (by omega)
        have eSa : S a = C a := by rw [← eTa]; funext y; exact s1.2.2.2.2.2.2.2 a y (by omega) (by omega)
        have n2 := (h.N h1.1.1 (show a < 14 by omega)).2
        have w := wv_wk s3 s2 (T a 0 1).toNat (by rw [eSa, eTa]; omega)
        have fw := (wv_fr a (fun i => 0 ≤ ans C a b l 0 (C 18 0 8) R i) (cK T a b (ans C a b l 0 (C 18 0 8) R)) (fun _ => -1) S (T a 0 1).toNat).1
        have eD : cmD T S a b (ans C a b l 0 (C 18 0 8) R) = wv a (fun i => 0 ≤ ans C a b l 0 (C 18 0 8) R i) (cK T a b (ans C a b l 0 (C 18 0 8) R)) (fun _ => -1) S (T a 0 1).toNat := rfl
        rw [← eD] at w fw
        have e19 : C' 19 = cmD T S a b (ans C a b l 0 (C 18 0 8) R) 19 := by
          funext y
          rw [fr 19 y (by omega), fw 19 y (by simp) (by simp), s1.2.2.2.2.2.2.2 19 y (by simp) (by simp), tf 19 y (by omega)]
        exact inv_tale h h1.2.2 (g3_agr e19 ag (by omega) ⟨w.1.1, w.1.2.2.1, w.1.2.1⟩) fr hz
    · rw [(jif_n hs h2).2]; exact h
  · rw [(jif_n hs h1).2]; exact h
theorem inv_series {C C' : jM} {a b c d r : Int} (h : Inv C) (hs : s_series C a b c d r C') : Inv C' := by
  by_cases h1 : isT a ∧ isT b ∧ isT c ∧ isT d
  · obtain ⟨R1, R2, T, S, W, hB1, hB2, tf, ⟨s1, s2, s3, bX, bT, wD, hW, hO2⟩, hfin, hz⟩ := jif_y hs h1
    by_cases h2 : noRoom (srW W a b (ans C a b 0 0 (C 18 0 8) R1)) b (fun j => ¬ cmeN (ans C a b 0 0 (C 18 0 8) R1) (W a 0 1) j) (W b 0 1)
    · obtain ⟨-, fr⟩ := jif_y hfin h2
      exact h.sc (fun x y hx => fr x y (by omega)) hz
    · obtain ⟨ag, -, -, fr⟩ := jif_n hfin h2
      have f1 := (wv_fr c (fun k => ¬ lsN (ans C a b 0 0 (C 18 0 8) R1) (ans C a c 0 0 (C 18 0 8) R2) (T a 0 1) k) (T c 5) (T c 7) S (T c 0 1).toNat).1
      have f2 := (wv_fr b (fun j => ¬ cmeN (ans C a b 0 0 (C 18 0 8) R1) (W a 0 1) j) (W b 5) (W b 7) W (W b 0 1).toNat).1
      have n2 := hO2.2.1.1.2.1.2
      have w := wv_wk hO2 hW (W b 0 1).toNat (by omega)
      have eD : srW W a b (ans C a b 0 0 (C 18 0 8) R1) = wv b (fun j => ¬ cmeN (ans C a b 0 0 (C 18 0 8) R1) (W a 0 1) j) (W b 5) (W b 7) W := rfl
      have eD1 : srL T S a c (ans C a b 0 0 (C 18 0 8) R1) (ans C a c 0 0 (C 18 0 8) R2) = wv c (fun k => ¬ lsN (ans C a b 0 0 (C 18 0 8) R1) (ans C a c 0 0 (C 18 0 8) R2) (T a 0 1) k) (T c 5) (T c 7) S := rfl
      rw [← eD] at w f2
      rw [← eD1] at f1
      have e19 : C' 19 = srW W a b (ans C a b 0 0 (C 18 0 8) R1) (W b 0 1).toNat 19 := by
        funext y
        rw [fr 19 y (by omega), f2 19 y (by simp) (by simp), wD 19 y (by omega), f1 19 y (by simp) (by simp), s1.2.2.2.2.2.2 19 y (by simp) (by simp), tf 19 y (by omega)]
      exact inv_tale h h1.2.2.2 (g3_agr e19 ag (by omega) ⟨w.1.1, w.1.2.2.1, w.1.2.1⟩) fr hz
  · rw [(jif_n hs h1).2]; exact h
theorem inv_like {C C' : jM} {a b l r : Int} (h : Inv C) (hs : s_like C a b l r C') : Inv C' := by
  by_cases h1 : isT a ∧ isT b
  · have hs := jif_y hs h1
    by_cases h2 : 0 ≤ l ∧ l < 3
    · obtain ⟨R, hB, -, ag1, ag2, k0, k1, k2, gl, fr, hz⟩ := jif_y hs h2
      have e : ∀ g, ¬ (g = 12 ∨ g = 13 ∨ (20 ≤ g ∧ g ≤ 24)) → C' g = C g := fun g q => by funext y; exact fr g y q
      have e19 := e 19 (by omega)
      have e18 := e 18 (by omega)
      refine ⟨⟨by have := h.L; unfold jLV at this ⊢; rw [e19]; exact this, fun g g0 g1 => ?_, hz⟩, fun k kk0 kk1 => by rw [lch_fx (by rw [e19])]; exact h.2.1 k kk0 kk1, fun g g0 g1 => ?_, by rw [e18]; exact h.2.2.2.1, by rw [e18]; exact h.2.2.2.2.1, Or.inr k0, fun q => by omega, fun _ => ⟨by rw [k1]; exact h2, by rw [k2]; exact h.2.2.2.1, R, _, (vld_agr ag1 ag2).mpr hB.1, gl⟩⟩
      all_goals
        have g3 : jGood C' g ∧ jSr C' g ∧ jUq C' g := by
          by_cases u : g = 12
          · rw [u]; exact g3_agr e19 ag1 (by omega) (h.g3 h1.1.1 (by omega))
          · by_cases u2 : g = 13
            · rw [u2]; exact g3_agr e19 ag2 (by omega) (h.g3 h1.2.1 (by omega))
            · exact g3_agr e19 (agr_fx (e g (by omega))) (by omega) (h.g3 g0 g1)
      · exact ⟨g3.1, g3.2.1⟩
      · exact g3.2.2
    · rw [(jif_n hs h2).2]; exact h
  · rw [(jif_n hs h1).2]; exact h
