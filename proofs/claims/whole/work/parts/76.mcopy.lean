/-! the reference: copy, tale, sort, label -/
theorem m_copy {C M C' : jM} {t u r0 : Int} (hI : Inv C) (hR : rel C M) (hs : s_copy C t u r0 C') : jCallP 2 69 [.inr (28, 0), .inl t, .inl u] M (fun r M' => r = r0 ∧ rel C' M' ∧ f28 M M') := by
  refine jstart (by decide) rfl (fX10_copy_0 ?_)
  refine jc (m_isTale M t) (by decide) ⟨fun q => ?_, fun q => ?_⟩
  · obtain ⟨e1, rfl⟩ := jif_n hs (fun h => jite_eq.mp q h.1)
    exact ⟨e1.symm, hR, f28_r M⟩
  have ht := jite_ne.mp q
  refine jc (m_isTale M u) (by decide) ⟨fun q => ?_, fun q => ?_⟩
  rotate_left
  · obtain ⟨e1, rfl⟩ := jif_n hs (fun h => jite_eq.mp q h.2)
    exact ⟨e1.symm, hR, f28_r M⟩
  have hu := jite_ne.mp q
  obtain ⟨e1, hB⟩ := jif_y hs ⟨ht, hu⟩
  have hN := hI.N ht.1 (by omega)
  have RT := hR.2.1 t ht.1 (by omega)
  have ag := agr_became hN hB
  have hC : ∀ x y, ¬ x = u → C' x y = C x y := fun x y h => hB.2.2.2.2.2.2 x y (fun q => h q.1)
  have u9 : 0 ≤ u ∧ u < jal 28 9 := by rw [jal_28_9]; omega
  refine ⟨fun z => ?_, fun z => ?_⟩
  · subst z
    have e : rT C' M t := rT_agr hN ag RT rfl rfl (fun _ _ _ => rfl) (fun _ _ _ => rfl)
    refine ⟨u9, by rw [RT.2.1, e1], (own_r t M).re ht hI hR (fun x y h => hC x y (by omega)) e ?_, f28_r M⟩
    rw [hR.2.2.1 t ht.1 ht.2, hB.1 2 (by omega) (by omega)]
  · refine jcq (m_become (M := M) (t := u) (u := t) (by omega) (by omega) (by omega)) (by decide) ?_
    rintro r M' ⟨b6, b9, b8, b7, b10, o⟩
    refine ⟨u9, by rw [b9, RT.2.1, e1], o.re hu hI hR (fun x y h => hC x y (by omega)) (rT_agr hN ag RT b6 b9 b7 b10) ?_, o.2.1⟩
    rw [b8, hR.2.2.1 t ht.1 ht.2, hB.1 2 (by omega) (by omega)]
theorem m_tale {C M C' : jM} {t n r0 : Int} (hI : Inv C) (hR : rel C M) (hs : s_tale C t n r0 C') : jCallP 2 56 [.inr (28, 0), .inl t, .inl n] M (fun r M' => r = r0 ∧ rel C' M' ∧ f28 M M') := by
  refine jstart (by decide) rfl (fX10_tale_0 ?_)
  refine jc (m_isTale M t) (by decide) ⟨fun q => ?_, fun q => ?_⟩
  rotate_left
  · obtain ⟨e1, rfl⟩ := jif_n hs (jite_eq.mp q)
    exact ⟨e1.symm, hR, f28_r M⟩
  have ht := jite_ne.mp q
  have hs := jif_y hs ht
  refine jc (m_in M n 0 6) (by decide) ⟨fun q => ?_, fun q => ?_⟩
  rotate_left
  · obtain ⟨e1, rfl⟩ := jif_n hs (jite_eq.mp q)
    exact ⟨e1.symm, hR, f28_r M⟩
  have hn := jite_ne.mp q
  obtain ⟨e1, e0, ez, e2, e4, hC⟩ := jif_y hs hn
  refine jcq (m_empty (M := M) (t := t) (n := n) (by omega)) (by decide) ?_
  rintro r M' ⟨b6, b9, b8, b7, o⟩
  refine ⟨e1.symm, o.re ht hI hR (fun x y h => hC x y (fun q => h (Or.inl q.1))) ⟨by rw [b6, e0], by rw [b9, ez], fun x x0 x1 => by rw [b7 x x0 (by omega), e4 x x0 (by omega)], fun i i0 i1 => by omega⟩ (by rw [b8, e2]), o.2.1⟩
theorem m_sort {C M C' : jM} {t x v r0 : Int} (hI : Inv C) (hR : rel C M) (hs : s_sort C t x v r0 C') : jCallP 2 58 [.inr (28, 0), .inl t, .inl x, .inl v] M (fun r M' => r = r0 ∧ rel C' M' ∧ f28 M M') := by
  refine jstart (by decide) rfl (fX10_sort_0 ?_)
  refine jc (m_isTale M t) (by decide) ⟨fun q => ?_, fun q => ?_⟩
  · obtain ⟨e1, rfl⟩ := jif_n hs (fun h => jite_eq.mp q h.1)
    exact ⟨e1.symm, hR, f28_r M⟩
  have ht := jite_ne.mp q
  have hN := hI.N ht.1 (by omega)
  have RT := hR.2.1 t ht.1 (by omega)
  have n1 := hN.1
  refine jc (m_isThing (by omega) hN RT) (by decide) ⟨fun q => ?_, fun q => ?_⟩
  rotate_left
  · obtain ⟨e1, rfl⟩ := jif_n hs (fun h => jite_eq.mp q h.2)
    exact ⟨e1.symm, hR, f28_r M⟩
  have hx := jite_ne.mp q
  have hs := jif_y hs ⟨ht, hx⟩
  refine jc (m_in M v 0 9) (by decide) ⟨fun q => ?_, fun q => ?_⟩
  rotate_left
  · obtain ⟨e1, rfl⟩ := jif_n hs (fun h => jite_eq.mp q (by omega))
    exact ⟨e1.symm, hR, f28_r M⟩
  have hv := jite_ne.mp q
  obtain ⟨e1, rfl⟩ := jif_y hs (by omega)
  have w : jwr (jwr (6 * t) + x) = 6 * t + x := by rw [jwr_id (z := 6 * t) (by omega) (by omega), jwr_id (by omega) (by omega)]
  have b7 : 0 ≤ 6 * t + x ∧ 6 * t + x < jal 28 7 := by rw [jal_28_7]; omega
  rw [w]
  have nC : ∀ a b, ¬ (a = t ∧ b = 4) → jup C t 4 x v a b = C a b := fun a b h => by rw [jup_set, jset_ne h]
  refine ⟨b7, b7, by rw [RT.2.2.1 x hx.1 hx.2, e1], (own_7 (t := t) (by omega)).re ht hI hR (fun a b h => nC a b (by omega)) ?_ ?_, f28_up⟩
  · obtain ⟨r6, r9, r7, r10⟩ := RT
    unfold rT
    rw [nC t 0 (by simp), nC t 5 (by simp), nC t 6 (by simp), nC t 7 (by simp), nC t 8 (by simp)]
    refine ⟨by rw [jup_ne (by simp)]; exact r6, by rw [jup_ne (by simp)]; exact r9, fun z z0 z1 => ?_, fun i i0 i1 => ?_⟩
    · by_cases h : z = x
      · rw [h, jup_eq, jup_eq]
      · rw [jup_ne (M := M) (by omega), jup_ne (M := C) (by omega)]; exact r7 z z0 z1
    · rw [jup_ne (by simp), jup_ne (by simp), jup_ne (by simp), jup_ne (by simp), jup_ne (by simp), jup_ne (by simp)]
      exact r10 i i0 i1
  · rw [jup_ne (by simp), nC t 0 (by simp)]
    exact hR.2.2.1 t ht.1 ht.2
theorem m_label {C M C' : jM} {t v r0 : Int} (hI : Inv C) (hR : rel C M) (hs : s_label C t v r0 C') : jCallP 2 59 [.inr (28, 0), .inl t, .inl v] M (fun r M' => r = r0 ∧ rel C' M' ∧ f28 M M') := by
  refine jstart (by decide) rfl (fX10_label_0 ?_)
  refine jc (m_isTale M t) (by decide) ⟨fun q => ?_, fun q => ?_⟩
  rotate_left
  · obtain ⟨e1, rfl⟩ := jif_n hs (jite_eq.mp q)
    exact ⟨e1.symm, hR, f28_r M⟩
  have ht := jite_ne.mp q
  have hs := jif_y hs ht
  have RT := hR.2.1 t ht.1 (by omega)
  refine jc (m_in M v 0 9) (by decide) ⟨fun q => ?_, fun q => ?_⟩
  rotate_left
  · obtain ⟨e1, rfl⟩ := jif_n hs (fun h => jite_eq.mp q (by omega))
    exact ⟨e1.symm, hR, f28_r M⟩
  have hv := jite_ne.mp q
  obtain ⟨e1, rfl⟩ := jif_y hs (by omega)
  have b8 : 0 ≤ t ∧ t < jal 28 8 := by rw [jal_28_8]; omega
  have nC : ∀ a b, ¬ (a = t ∧ b = 0) → jup C t 0 2 v a b = C a b := fun a b h => by rw [jup_set, jset_ne h]
  have n0 : ∀ c, ¬ c = 2 → jup C t 0 2 v t 0 c = C t 0 c := fun c h => jup_ne (by omega)
  refine ⟨b8, b8, by rw [hR.2.2.1 t ht.1 ht.2, e1], own_8.re ht hI hR (fun a b h => nC a b (by omega)) ?_ (by rw [jup_eq, jup_eq]), f28_up⟩
  obtain ⟨r6, r9, r7, r10⟩ := RT
  have nM : ∀ b, ¬ b = 8 → jup M 28 8 t v 28 b = M 28 b := fun b h => by rw [jup_set, jset_ne (by omega)]
  unfold rT
  rw [nC t 4 (by simp), nC t 5 (by simp), nC t 6 (by simp), nC t 7 (by simp), nC t 8 (by simp), n0 0 (by decide), n0 1 (by decide), nM 6 (by decide), nM 9 (by decide), nM 7 (by decide), nM 10 (by decide)]
  exact ⟨r6, r9, r7, r10⟩
