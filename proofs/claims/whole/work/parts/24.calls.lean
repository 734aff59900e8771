/-! THE PLAIN CALLS of the class: what each answers and does -/
def jif (c a b : Prop) : Prop := (c → a) ∧ (¬ c → b)
theorem jif_t {c a b : Prop} (h : c) (x : a) : jif c a b := ⟨fun _ => x, fun q => absurd h q⟩
theorem jif_f {c a b : Prop} (h : ¬ c) (x : b) : jif c a b := ⟨fun q => absurd q h, fun _ => x⟩
abbrev isK (k : Int) : Prop := 0 ≤ k ∧ k < 16
abbrev isT (t : Int) : Prop := 0 ≤ t ∧ t < 12
def jno (v : Int) : Int := if v < 0 then -6 else v
def s_kind (M : jM) (k n e r : Int) (M' : jM) : Prop :=
  jif (isK k) (jif (1 ≤ n ∧ n ≤ 3) (jif (used M k ∨ linked M k) (r = -3 ∧ M' = M) (r = M 19 1 k ∧ M' = jup (jup M 19 1 k n) 19 2 k (if ¬ e = 0 ∧ n = 2 then 1 else 0))) (r = -2 ∧ M' = M)) (r = -1 ∧ M' = M)
theorem c_kind {M : jM} (hN : jNBs M) (k n e : Int) : jCallP 3 0 [.inr (18, 0), .inl k, .inl n, .inl e] M (fun r M' => s_kind M k n e r M') := by
  refine jstart (by decide) rfl (fX9_kind_0 ?_)
  refine jc (c_isKind M k) (by decide) ⟨fun q => ?_, fun q => jif_f (jite_eq.mp q) ⟨rfl, rfl⟩⟩
  have hk := jite_ne.mp q
  refine ⟨fun q1 => jif_t hk (jif_f (by omega) ⟨rfl, rfl⟩), fun q1 => ⟨fun q2 => ?_, fun q2 => jif_t hk (jif_f (by omega) ⟨rfl, rfl⟩)⟩⟩
  have hn : 1 ≤ n ∧ n ≤ 3 := ⟨q1, q2⟩
  refine jcq (c_isInUse hN k) (by decide) ?_
  rintro r1 M1 ⟨b1, rfl⟩
  refine ⟨fun q3 => jif_t hk (jif_t hn (jif_t (Or.inl ((jBl_ne b1).mp q3)) ⟨rfl, rfl⟩)), fun q3 => ?_⟩
  refine jcq (c_isLinked M1 k hk) (by decide) ?_
  rintro r2 M2 ⟨b2, rfl⟩
  refine ⟨fun q4 => ?_, fun q4 => jif_t hk (jif_t hn (jif_t (Or.inr ((jBl_ne b2).mp q4)) ⟨rfl, rfl⟩))⟩
  have hno : ¬ (used M2 k ∨ linked M2 k) := fun q5 => q5.elim ((jBl_eq b1).mp q3) ((jBl_eq b2).mp q4)
  have b19 : 0 ≤ k ∧ k < jal 19 1 := by rw [jal_19_1]; exact hk
  have b29 : 0 ≤ k ∧ k < jbl 19 2 := by rw [jbl_19_2]; exact hk
  refine ⟨b19, b19, fun q5 => ⟨b29, Or.inl rfl, jif_t hk (jif_t hn (jif_f hno ⟨rfl, by rw [if_neg (fun q6 => q6.1 q5)]⟩))⟩, fun q5 => ⟨fun q6 => ⟨b29, Or.inl rfl, jif_t hk (jif_t hn (jif_f hno ⟨rfl, by rw [if_neg (fun q7 => q6 q7.2)]⟩))⟩, fun q6 => ⟨b29, Or.inr rfl, jif_t hk (jif_t hn (jif_f hno ⟨rfl, by rw [if_pos ⟨q5, q6⟩]⟩))⟩⟩⟩
def s_wider (M : jM) (k o r : Int) (M' : jM) : Prop :=
  jif (isK k ∧ (o = -1 ∨ isK o)) (jif (used M k) (r = -3 ∧ M' = M) (jif (o = -1 ∨ mayOver M o k) (r = jno (M 19 3 k) ∧ M' = jup M 19 3 k o) (r = -5 ∧ M' = M))) (r = -1 ∧ M' = M)
theorem c_wider {M : jM} (hL : jLV M) (hA : jAC M) (hN : jNBs M) (k o : Int) : jCallP 3 1 [.inr (18, 0), .inl k, .inl o] M (fun r M' => s_wider M k o r M') := by
  refine jstart (by decide) rfl (fX9_wider_0 ?_)
  refine jc (c_isKind M k) (by decide) ⟨fun q => jif_f (fun q2 => jite_eq.mp q q2.1) ⟨rfl, rfl⟩, fun q => ?_⟩
  have hk := jite_ne.mp q
  have rest : (o = -1 ∨ isK o) → jWP 3 1 21 [some (.inr (18, 0)), some (.inl k), some (.inl o), none] [] M (fun r M' => s_wider M k o r M') := by
    intro ho
    refine fX9_wider_21 ?_
    refine jcq (c_isInUse hN k) (by decide) ?_
    rintro r1 M1 ⟨b1, rfl⟩
    refine ⟨fun q1 => ?_, fun q1 => jif_t ⟨hk, ho⟩ (jif_t ((jBl_ne b1).mp q1) ⟨rfl, rfl⟩)⟩
    have hu := (jBl_eq b1).mp q1
    have fin : (o = -1 ∨ mayOver M1 o k) → jWP 3 1 52 [some (.inr (18, 0)), some (.inl k), some (.inl o), none] [] M1 (fun r M' => s_wider M1 k o r M') := by
      intro hm
      have b3 : 0 ≤ k ∧ k < jal 19 3 := by rw [jal_19_3]; exact hk
      refine fX9_wider_52 ⟨b3, b3, ?_⟩
      exact jc (c_orNone _ _) (by decide) (jif_t ⟨hk, ho⟩ (jif_f hu (jif_t hm ⟨rfl, rfl⟩)))
    refine ⟨fun q2 => fin (Or.inl q2), fun q2 => ?_⟩
    have ho' : isK o := ho.resolve_left q2
    refine jcq (c_mayStandOver hL hA o k ho' hk) (by decide) ?_
    rintro r2 M2 ⟨b2, rfl⟩
    exact ⟨fun q3 => fin (Or.inr ((jBl_ne b2).mp q3)), fun q3 => jif_t ⟨hk, ho⟩ (jif_f hu (jif_f (fun q4 => q4.elim q2 ((jBl_eq b2).mp q3)) ⟨rfl, rfl⟩))⟩
  refine ⟨fun q1 => rest (Or.inl q1), fun q1 => ?_⟩
  refine jc (c_isKind M o) (by decide) ⟨fun q2 => rest (Or.inr (jite_ne.mp q2)), fun q2 => jif_f (fun q3 => q3.2.elim q1 (jite_eq.mp q2)) ⟨rfl, rfl⟩⟩
/-- k has no opposite any more, nor what was its -/
def loo (M : jM) (k : Int) : jM := if M 19 4 k = -1 then M else jup (jup M 19 4 (M 19 4 k) (-1)) 19 4 k (-1)
theorem loo_ne {M : jM} {k : Int} {a : Int} {b : Nat} (h : ¬ (a = 19 ∧ b = 4)) : loo M k a b = M a b := by
  unfold loo
  split
  · rfl
  · rw [jup_set, jset_ne h, jup_set, jset_ne h]
theorem loo_at {M : jM} (hL : jLV M) (k : Int) (hk : isK k) (j : Int) (hj : isK j) : loo M k 19 4 j = if j = k ∨ M 19 4 j = k then -1 else M 19 4 j := by
  obtain ⟨-, -, -, -, ho, -, hs⟩ := hL k hk.1 hk.2
  obtain ⟨-, -, -, -, ho2, -, hs2⟩ := hL j hj.1 hj.2
  unfold loo
  by_cases h : M 19 4 k = -1
  · rw [if_pos h]
    by_cases hc : j = k ∨ M 19 4 j = k
    · rw [if_pos hc]
      rcases hc with hc | hc
      · rw [hc]; exact h
      · have := (hs2 (by omega)).2.1
        rw [hc, h] at this
        omega
    · rw [if_neg hc]
  · rw [if_neg h]
    have hs' := hs (by omega)
    by_cases hc : j = k ∨ M 19 4 j = k
    · rw [if_pos hc]
      by_cases hjk : j = k
      · rw [hjk, jup_eq]
      · rw [jup_ne (fun q => hjk q.2.2)]
        have e : j = M 19 4 k := by
          have h1 := hc.resolve_left hjk
          have h2 := (hs2 (by omega)).2.1
          rw [h1] at h2
          exact h2.symm
        rw [e, jup_eq]
    · rw [if_neg hc, jup_ne (fun q => hc (Or.inl q.2.2)), jup_ne (fun q => hc (Or.inr (by rw [q.2.2]; exact hs'.2.1)))]
theorem loo_LV {M : jM} (hL : jLV M) (k : Int) (hk : isK k) : jLV (loo M k) := by
  intro j h0 h1
  obtain ⟨a1, a2, a3, a4, a5, a6, a7⟩ := hL j h0 h1
  have e1 : loo M k 19 1 = M 19 1 := loo_ne (by simp)
  have e2 : loo M k 19 2 = M 19 2 := loo_ne (by simp)
  have e3 : loo M k 19 3 = M 19 3 := loo_ne (by simp)
  rw [e1, e2, e3, loo_at hL k hk j ⟨h0, h1⟩]
  refine ⟨a1, a2, a3, a4, ?_, a6, fun h => ?_⟩
  · split <;> omega
  · by_cases hc : j = k ∨ M 19 4 j = k
    · rw [if_pos hc] at h; omega
    · rw [if_neg hc] at h ⊢
      have h7 := a7 h
      have hc2 : ¬ (M 19 4 j = k ∨ M 19 4 (M 19 4 j) = k) := by
        rintro (q | q)
        · exact hc (Or.inr q)
        · rw [h7.2.1] at q; exact hc (Or.inl q)
      rw [loo_at hL k hk (M 19 4 j) ⟨h, by omega⟩, if_neg hc2]
      exact h7
def s_opposite (M : jM) (k o r : Int) (M' : jM) : Prop :=
  jif (isK k ∧ isK o) (jif (M 19 1 k = M 19 1 o) (r = 1 ∧ M' = if k = o then loo (loo M k) o else jup (jup (loo (loo M k) o) 19 4 k o) 19 4 o k) (r = -5 ∧ M' = M)) (r = -1 ∧ M' = M)
theorem c_oppose {M : jM} (hL : jLV M) (k o : Int) (hk : isK k) (ho : isK o) : jCallP 1 136 [.inr (19, 0), .inl k, .inl o] M (fun _ M' => M' = if k = o then loo (loo M k) o else jup (jup (loo (loo M k) o) 19 4 k o) 19 4 o k) := by
  refine jstart (by decide) rfl (fX3_oppose_0 ?_)
  refine jcv (c_loosen hL k hk) (by decide) (fun _ => ?_)
  refine jcv (c_loosen (loo_LV hL k hk) o ho) (by decide) (fun _ => ?_)
  exact ⟨fun q => by rw [if_pos q]; rfl, fun q => ⟨by rw [jal_19_4]; exact hk, by rw [jal_19_4]; exact ho, by rw [if_neg q]; rfl⟩⟩
theorem c_opposite {M : jM} (hL : jLV M) (k o : Int) : jCallP 2 2 [.inr (18, 0), .inl k, .inl o] M (fun r M' => s_opposite M k o r M') := by
  refine jstart (by decide) rfl (fX9_opposite_0 ?_)
  refine jc (c_isKind M k) (by decide) ⟨fun q => jif_f (fun q2 => jite_eq.mp q q2.1) ⟨rfl, rfl⟩, fun q => ?_⟩
  have hk := jite_ne.mp q
  refine jc (c_isKind M o) (by decide) ⟨fun q1 => ?_, fun q1 => jif_f (fun q2 => jite_eq.mp q1 q2.2) ⟨rfl, rfl⟩⟩
  have ho := jite_ne.mp q1
  refine ⟨by rw [jal_19_1]; exact hk, by rw [jal_19_1]; exact ho, fun q2 => ?_, fun q2 => jif_t ⟨hk, ho⟩ (jif_f q2 ⟨rfl, rfl⟩)⟩
  exact jcv (c_oppose hL k o hk ho) (by decide) (fun _ => jif_t ⟨hk, ho⟩ (jif_t q2 ⟨rfl, rfl⟩))
def s_ofKind (M : jM) (k w r : Int) : Prop :=
  jif (isK k) (jif (w = 0) (r = M 19 1 k) (jif (w = 1) (r = if M 19 2 k = 0 then 0 else 1) (jif (w = 2) (r = jno (M 19 3 k)) (jif (w = 3) (r = jno (M 19 4 k)) (jif (w = 4) (r = tol M k) (r = -2)))))) (r = -1)
theorem c_ofKind {M : jM} (hN : jNBs M) (k w : Int) : jCallP 2 3 [.inr (18, 0), .inl k, .inl w] M (fun r M' => s_ofKind M k w r ∧ M' = M) := by
  refine jstart (by decide) rfl (fX9_ofKind_0 ?_)
  refine jc (c_isKind M k) (by decide) ⟨fun q => ?_, fun q => ⟨jif_f (jite_eq.mp q) rfl, rfl⟩⟩
  have hk := jite_ne.mp q
  have b1 : 0 ≤ k ∧ k < jal 19 1 := by rw [jal_19_1]; exact hk
  have b2 : 0 ≤ k ∧ k < jbl 19 2 := by rw [jbl_19_2]; exact hk
  have b3 : 0 ≤ k ∧ k < jal 19 3 := by rw [jal_19_3]; exact hk
  have b4 : 0 ≤ k ∧ k < jal 19 4 := by rw [jal_19_4]; exact hk
  refine ⟨fun q1 => ⟨jif_t hk (jif_f (by omega) (jif_f (by omega) (jif_f (by omega) (jif_f (by omega) (jif_f (by omega) rfl))))), rfl⟩, fun q1 => ⟨b1, jif_t hk (jif_t q1 rfl), rfl⟩, fun q1 => ⟨b2, fun q2 => ⟨jif_t hk (jif_f (by omega) (jif_t (by omega) (by rw [if_pos q2]))), rfl⟩, fun q2 => ⟨jif_t hk (jif_f (by omega) (jif_t (by omega) (by rw [if_neg q2]))), rfl⟩⟩, fun q1 => ⟨b3, ?_⟩, fun q1 => ⟨b4, ?_⟩, fun q1 => ?_, trivial⟩
  · exact jc (c_orNone _ _) (by decide) ⟨jif_t hk (jif_f (by omega) (jif_f (by omega) (jif_t (by omega) rfl))), rfl⟩
  · exact jc (c_orNone _ _) (by decide) ⟨jif_t hk (jif_f (by omega) (jif_f (by omega) (jif_f (by omega) (jif_t (by omega) rfl)))), rfl⟩
  · exact jc (c_tiesToldOf hN k) (by decide) ⟨jif_t hk (jif_f (by omega) (jif_f (by omega) (jif_f (by omega) (jif_f (by omega) (jif_t (by omega) rfl))))), rfl⟩
def s_alike (M : jM) (k l r : Int) : Prop := jif (isK k ∧ isK l) (r = jno (meet M k l)) (r = -1)
theorem c_alike {M : jM} (hL : jLV M) (k l : Int) : jCallP 2 4 [.inr (18, 0), .inl k, .inl l] M (fun r M' => s_alike M k l r ∧ M' = M) := by
  refine jstart (by decide) rfl (fX9_alike_0 ?_)
  refine jc (c_isKind M k) (by decide) ⟨fun q => ⟨jif_f (fun q2 => jite_eq.mp q q2.1) rfl, rfl⟩, fun q => ?_⟩
  have hk := jite_ne.mp q
  refine jc (c_isKind M l) (by decide) ⟨fun q1 => ?_, fun q1 => ⟨jif_f (fun q2 => jite_eq.mp q1 q2.2) rfl, rfl⟩⟩
  have hl := jite_ne.mp q1
  refine jc (c_meetingLevel hL k l hk hl) (by decide) ?_
  exact jc (c_orNone _ _) (by decide) ⟨jif_t ⟨hk, hl⟩ rfl, rfl⟩
def s_timed (M : jM) (v r : Int) (M' : jM) : Prop := jif (v = 0 ∨ v = 1) (r = M 18 0 8 ∧ M' = jup M 18 0 8 v) (r = -2 ∧ M' = M)
theorem c_timed {M : jM} (hT : M 18 0 8 = 0 ∨ M 18 0 8 = 1) (v : Int) : jCallP 0 5 [.inr (18, 0), .inl v] M (fun r M' => s_timed M v r M') := by
  refine jstart (by decide) rfl (fX9_timed_0 ?_)
  have fin : (v = 0 ∨ v = 1) → jWP 0 5 24 [some (.inr (18, 0)), some (.inl v), none] [.inl (M 18 0 8)] M (fun r M' => s_timed M v r M') := by
    intro hv
    refine fX9_timed_24 ⟨fun q => ⟨Or.inl rfl, jif_t hv ⟨rfl, ?_⟩⟩, fun q => ⟨Or.inr rfl, jif_t hv ⟨rfl, by rw [q]⟩⟩⟩
    rw [hv.resolve_right q]
  refine ⟨fun q => ⟨fun q1 => by have := fin (Or.inl q); rw [q1] at this; exact this, fun q1 => by have := fin (Or.inl q); rw [hT.resolve_left q1] at this; exact this⟩, fun q => ⟨fun q2 => ⟨fun q1 => by have := fin (Or.inr q2); rw [q1] at this; exact this, fun q1 => by have := fin (Or.inr q2); rw [hT.resolve_left q1] at this; exact this⟩, fun q2 => jif_f (by omega) ⟨rfl, rfl⟩⟩⟩
def s_tale (M : jM) (t n r : Int) (M' : jM) : Prop := jif (isT t) (jif (0 ≤ n ∧ n ≤ 6) (r = 1 ∧ jEmptied M M' t n) (r = -2 ∧ M' = M)) (r = -1 ∧ M' = M)
theorem c_tale (M : jM) (t n : Int) : jCallP 1 6 [.inr (18, 0), .inl t, .inl n] M (fun r M' => s_tale M t n r M') := by
  refine jstart (by decide) rfl (fX9_tale_0 ?_)
  refine jc (c_isTale M t) (by decide) ⟨fun q => ?_, fun q => jif_f (jite_eq.mp q) ⟨rfl, rfl⟩⟩
  have ht := jite_ne.mp q
  refine ⟨fun q1 => jif_t ht (jif_f (by omega) ⟨rfl, rfl⟩), fun q1 => ⟨fun q2 => ⟨ht, ⟨by omega, by omega⟩, ?_⟩, fun q2 => jif_t ht (jif_f (by omega) ⟨rfl, rfl⟩)⟩⟩
  exact jcq (c_empty ⟨by omega, by omega⟩ n) (by decide) (fun _ M' h => jif_t ht (jif_t ⟨q1, q2⟩ ⟨rfl, h⟩))
def s_sort (M : jM) (t x v r : Int) (M' : jM) : Prop := jif (isT t ∧ 0 ≤ x ∧ x < M t 0 0) (jif (0 ≤ v ∧ v < 10) (r = M t 4 x ∧ M' = jup M t 4 x v) (r = -2 ∧ M' = M)) (r = -1 ∧ M' = M)
theorem c_sort {M : jM} (hN : jNBs M) (t x v : Int) : jCallP 1 7 [.inr (18, 0), .inl t, .inl x, .inl v] M (fun r M' => s_sort M t x v r M') := by
  refine jstart (by decide) rfl (fX9_sort_0 ?_)
  refine jc (c_isTale M t) (by decide) ⟨fun q => jif_f (fun q2 => jite_eq.mp q q2.1) ⟨rfl, rfl⟩, fun q => ?_⟩
  have ht := jite_ne.mp q
  have hg : 0 ≤ t ∧ t < 18 := ⟨by omega, by omega⟩
  have hb := hN t ht.1 (by omega)
  refine ⟨fun q1 => jif_f (by omega) ⟨rfl, rfl⟩, fun q1 => ⟨ht, hg, fun q2 => ?_, fun q2 => jif_f (by omega) ⟨rfl, rfl⟩⟩⟩
  have hx : isT t ∧ 0 ≤ x ∧ x < M t 0 0 := ⟨ht, q1, q2⟩
  have b4 : 0 ≤ x ∧ x < jal t 4 := by rw [jal_n4 hg]; have := hb.1.2; omega
  refine jc (c_isDigit M v) (by decide) ⟨fun q3 => ⟨ht, hg, b4, ht, hg, b4, jif_t hx (jif_t (jite_ne.mp q3) ⟨rfl, rfl⟩)⟩, fun q3 => jif_t hx (jif_f (jite_eq.mp q3) ⟨rfl, rfl⟩)⟩
def s_label (M : jM) (t v r : Int) (M' : jM) : Prop := jif (isT t) (jif (0 ≤ v ∧ v < 10) (r = M t 0 2 ∧ M' = jup M t 0 2 v) (r = -2 ∧ M' = M)) (r = -1 ∧ M' = M)
theorem c_label (M : jM) (t v : Int) : jCallP 1 8 [.inr (18, 0), .inl t, .inl v] M (fun r M' => s_label M t v r M') := by
  refine jstart (by decide) rfl (fX9_label_0 ?_)
  refine jc (c_isTale M t) (by decide) ⟨fun q => ?_, fun q => jif_f (jite_eq.mp q) ⟨rfl, rfl⟩⟩
  have ht := jite_ne.mp q
  have hg : 0 ≤ t ∧ t < 18 := ⟨by omega, by omega⟩
  refine jc (c_isDigit M v) (by decide) ⟨fun q1 => ⟨ht, hg, ht, hg, jif_t ht (jif_t (jite_ne.mp q1) ⟨rfl, rfl⟩)⟩, fun q1 => jif_t ht (jif_f (jite_eq.mp q1) ⟨rfl, rfl⟩)⟩
def s_tie (M : jM) (t k x y z m r : Int) (M' : jM) : Prop :=
  jif (isT t ∧ isK k) (jif ((m = -1 ∨ (0 ≤ m ∧ m < 10)) ∧ hasE M t (M 19 1 k) x y z) (jif (14 ≤ M t 0 1) (r = -4 ∧ M' = M) (jif (fnd M t k x y z = -1) (r = M t 0 1 ∧ M' = jput M t k x y z m) (r = -5 ∧ M' = M))) (r = -2 ∧ M' = M)) (r = -1 ∧ M' = M)
theorem c_tie {M : jM} (hN : jNBs M) (hH : ∀ g, 0 ≤ g → g < 12 → jHB M g) (t k x y z m : Int) : jCallP 2 9 [.inr (18, 0), .inl t, .inl k, .inl x, .inl y, .inl z, .inl m] M (fun r M' => s_tie M t k x y z m r M') := by
  refine jstart (by decide) rfl (fX9_tie_0 ?_)
  refine jc (c_isTale M t) (by decide) ⟨fun q => jif_f (fun q2 => jite_eq.mp q q2.1) ⟨rfl, rfl⟩, fun q => ?_⟩
  have ht := jite_ne.mp q
  have hg : 0 ≤ t ∧ t < 18 := ⟨by omega, by omega⟩
  have hb := hN t ht.1 (by omega)
  refine jc (c_isKind M k) (by decide) ⟨fun q1 => ⟨ht, ?_⟩, fun q1 => jif_f (fun q2 => jite_eq.mp q1 q2.2) ⟨rfl, rfl⟩⟩
  have hk := jite_ne.mp q1
  have good : (m = -1 ∨ (0 ≤ m ∧ m < 10)) → jWP 2 9 43 [some (.inr (18, 0)), none, some (.inl k), some (.inl x), some (.inl y), some (.inl z), some (.inl m), some (.inr (t, 0)), none] [.inl 1] M (fun r M' => s_tie M t k x y z m r M') := by
    intro hm
    refine fX9_tie_43 ⟨fun q2 => absurd q2 (by decide), fun _ => ⟨by rw [jal_19_1]; exact hk, hg, ?_⟩⟩
    refine jcq (c_hasEnds hg hb (M 19 1 k) x y z) (by decide) ?_
    rintro r1 M1 ⟨b1, rfl⟩
    refine ⟨fun q3 => ⟨hg, fun q4 => ⟨hg, ?_⟩, fun q4 => jif_t ⟨ht, hk⟩ (jif_t ⟨hm, (jBl_ne b1).mp q3⟩ (jif_t q4 ⟨rfl, rfl⟩))⟩, fun q3 => jif_t ⟨ht, hk⟩ (jif_f (fun q4 => (jBl_eq b1).mp q3 q4.2) ⟨rfl, rfl⟩)⟩
    have he := (jBl_ne b1).mp q3
    refine jc (c_find hg hb k hk x y z) (by decide) ⟨fun q5 => ⟨hg, ?_⟩, fun q5 => jif_t ⟨ht, hk⟩ (jif_t ⟨hm, he⟩ (jif_f (by omega) (jif_f q5 ⟨rfl, rfl⟩)))⟩
    refine jcq (c_put hg hb (hH t ht.1 ht.2) k x y z m) (by decide) (fun r3 M3 h3 => ?_)
    exact jif_t ⟨ht, hk⟩ (jif_t ⟨hm, he⟩ (jif_f (by omega) (jif_t q5 (h3.1 q4))))
  refine ⟨fun q2 => good (Or.inl q2), fun q2 => ?_⟩
  refine jc (c_isDigit M m) (by decide) ⟨fun q3 => ?_, fun q3 => good (Or.inr (jite_ne.mp q3))⟩
  refine fX9_tie_43 ⟨fun _ => jif_t ⟨ht, hk⟩ (jif_f (fun q4 => q4.1.elim q2 (jite_eq.mp q3)) ⟨rfl, rfl⟩), fun q4 => absurd rfl q4⟩
def s_ofTie (M : jM) (t i w r : Int) : Prop :=
  jif (isT t ∧ 0 ≤ i ∧ i < M t 0 1) (jif (w = 0) (r = M t 5 i) (jif (1 ≤ w ∧ w ≤ 3) (r = jno (M t 6 (3 * i + (w - 1)))) (jif (w = 4) (r = M t 7 i) (jif (w = 5) (r = M t 8 i) (r = -2))))) (r = -1)
theorem c_ofTie {M : jM} (hN : jNBs M) (t i w : Int) : jCallP 1 10 [.inr (18, 0), .inl t, .inl i, .inl w] M (fun r M' => s_ofTie M t i w r ∧ M' = M) := by
  refine jstart (by decide) rfl (fX9_ofTie_0 ?_)
  refine jc (c_isTale M t) (by decide) ⟨fun q => ⟨jif_f (fun q2 => jite_eq.mp q q2.1) rfl, rfl⟩, fun q => ?_⟩
  have ht := jite_ne.mp q
  have hg : 0 ≤ t ∧ t < 18 := ⟨by omega, by omega⟩
  have hb := hN t ht.1 (by omega)
  refine ⟨fun q1 => ⟨jif_f (by omega) rfl, rfl⟩, fun q1 => ⟨ht, hg, fun q2 => ⟨ht, ?_⟩, fun q2 => ⟨jif_f (by omega) rfl, rfl⟩⟩⟩
  have hi : isT t ∧ 0 ≤ i ∧ i < M t 0 1 := ⟨ht, q1, q2⟩
  have h14 := hb.2.2
  have ends : 1 ≤ w → w ≤ 3 → jWP 1 10 80 [none, none, some (.inl i), some (.inl w), some (.inr (t, 0))] [] M (fun r M' => s_ofTie M t i w r ∧ M' = M) := by
    intro w1 w3
    have e : jwr (jwr (jwr (i * 3) + w) - 1) = 3 * i + (w - 1) := by
      rw [jwr_id (z := i * 3) (by omega) (by omega), jwr_id (z := i * 3 + w) (by omega) (by omega), jwr_id (by omega) (by omega)]
      omega
    refine fX9_ofTie_80 ?_
    rw [e]
    refine ⟨hg, ⟨by omega, by rw [jal_n6 hg]; omega⟩, ?_⟩
    exact jc (c_orNone _ _) (by decide) ⟨jif_t hi (jif_f (by omega) (jif_t ⟨w1, w3⟩ rfl)), rfl⟩
  refine ⟨fun q3 => ⟨jif_t hi (jif_f (by omega) (jif_f (by omega) (jif_f (by omega) (jif_f (by omega) rfl)))), rfl⟩, fun q3 => ⟨hg, ⟨q1, by rw [jal_n5 hg]; omega⟩, jif_t hi (jif_t q3 rfl), rfl⟩, fun q3 => ends (by omega) (by omega), fun q3 => ends (by omega) (by omega), fun q3 => ends (by omega) (by omega), fun q3 => ⟨hg, ⟨q1, by rw [jal_n7 hg]; omega⟩, jif_t hi (jif_f (by omega) (jif_f (by omega) (jif_t (by omega) rfl))), rfl⟩, fun q3 => ⟨hg, ⟨q1, by rw [jal_n8 hg]; omega⟩, jif_t hi (jif_f (by omega) (jif_f (by omega) (jif_f (by omega) (jif_t (by omega) rfl)))), rfl⟩, trivial⟩
def s_ofTale (M : jM) (t w r : Int) : Prop :=
  jif (isT t) (jif (10 ≤ w ∧ w < 16) (jif (w - 10 < M t 0 0) (r = M t 4 (w - 10)) (r = -1)) (jif (w = 0) (r = M t 0 0) (jif (w = 1) (r = M t 0 1) (jif (w = 2) (r = M t 0 2) (jif (w = 3) (r = gmx (M t 8) (M t 0 1).toNat) (r = -2)))))) (r = -1)
theorem c_ofTale {M : jM} (hN : jNBs M) (t w : Int) : jCallP 1 11 [.inr (18, 0), .inl t, .inl w] M (fun r M' => s_ofTale M t w r ∧ M' = M) := by
  refine jstart (by decide) rfl (fX9_ofTale_0 ?_)
  refine jc (c_isTale M t) (by decide) ⟨fun q => ⟨jite_ne.mp q, ?_⟩, fun q => ⟨jif_f (jite_eq.mp q) rfl, rfl⟩⟩
  have ht := jite_ne.mp q
  have hg : 0 ≤ t ∧ t < 18 := ⟨by omega, by omega⟩
  have hb := hN t ht.1 (by omega)
  have rest : ¬ (10 ≤ w ∧ w < 16) → jWP 1 11 53 [none, none, some (.inl w), some (.inr (t, 0))] [] M (fun r M' => s_ofTale M t w r ∧ M' = M) := by
    intro hw
    refine fX9_ofTale_53 ⟨fun q3 => ⟨jif_t ht (jif_f hw (jif_f (by omega) (jif_f (by omega) (jif_f (by omega) (jif_f (by omega) rfl))))), rfl⟩, fun q3 => ⟨hg, jif_t ht (jif_f hw (jif_t q3 rfl)), rfl⟩, fun q3 => ⟨hg, jif_t ht (jif_f hw (jif_f (by omega) (jif_t (by omega) rfl))), rfl⟩, fun q3 => ⟨hg, jif_t ht (jif_f hw (jif_f (by omega) (jif_f (by omega) (jif_t (by omega) rfl)))), rfl⟩, fun q3 => ⟨hg, ?_⟩, trivial⟩
    exact jc (c_greatestHeight hg hb) (by decide) ⟨jif_t ht (jif_f hw (jif_f (by omega) (jif_f (by omega) (jif_f (by omega) (jif_t (by omega) rfl))))), rfl⟩
  refine ⟨fun q1 => rest (by omega), fun q1 => ⟨fun q2 => rest (by omega), fun q2 => ⟨hg, ?_⟩⟩⟩
  rw [jwr_id (by omega) (by omega)]
  exact ⟨fun q3 => ⟨jif_t ht (jif_t ⟨q1, q2⟩ (jif_f (by omega) rfl)), rfl⟩, fun q3 => ⟨hg, ⟨by omega, by rw [jal_n4 hg]; omega⟩, jif_t ht (jif_t ⟨q1, q2⟩ (jif_t q3 rfl)), rfl⟩⟩
def s_copy (M : jM) (t u r : Int) (M' : jM) : Prop := jif (isT t ∧ isT u) (r = M t 0 1 ∧ jBecame M M' u t) (r = -1 ∧ M' = M)
theorem c_copy (M : jM) (t u : Int) : jCallP 1 12 [.inr (18, 0), .inl t, .inl u] M (fun r M' => s_copy M t u r M') := by
  refine jstart (by decide) rfl (fX9_copy_0 ?_)
  refine jc (c_isTale M t) (by decide) ⟨fun q => jif_f (fun q2 => jite_eq.mp q q2.1) ⟨rfl, rfl⟩, fun q => ?_⟩
  have ht := jite_ne.mp q
  refine jc (c_isTale M u) (by decide) ⟨fun q1 => ?_, fun q1 => jif_f (fun q2 => jite_eq.mp q1 q2.2) ⟨rfl, rfl⟩⟩
  have hu := jite_ne.mp q1
  have hg : 0 ≤ u ∧ u < 18 := ⟨by omega, by omega⟩
  refine ⟨hu, ht, hg, ?_⟩
  refine jcq (c_become hg ⟨by omega, by omega⟩) (by decide) (fun _ M' h => ⟨hu, hg, jif_t ⟨ht, hu⟩ ⟨h.1 1 (by omega) (by omega), h⟩⟩)
