/-! what stands stays: the language -/
theorem tolN_z {C : jM} {k : Int} (hN : jNBs C) : ∀ n : Nat, n ≤ 12 → tolN C k n ≤ 0 → ∀ t : Int, 0 ≤ t → t < n → cI (C t 5) k (C t 0 1) = 0
  | 0, _, _, t, t0, t1 => by omega
  | n + 1, hn, h, t, t0, t1 => by
    have b := tolN_bd hN k n (by omega)
    have c := cI_bd' (C n 5) k (hN n (by omega) (by omega)).2.1
    have e : tolN C k (n + 1) = tolN C k n + cI (C n 5) k (C n 0 1) := rfl
    rw [e] at h
    by_cases u : t = n
    · rw [u]; omega
    · exact tolN_z hN n (by omega) (by omega) t t0 (by omega)
theorem unused_no {C : jM} {k : Int} (hI : Inv C) (h : ¬ used C k) : ∀ t i, 0 ≤ t → t < 14 → 0 ≤ i → i < C t 0 1 → ¬ C t 5 i = k := by
  intro t i t0 t1 i0 i1 e
  have hN := hI.1.nbs
  have b := tolN_bd hN k 12 (by omega)
  have c12 := cI_bd' (C 12 5) k (hN 12 (by omega) (by omega)).2.1
  have c13 := cI_bd' (C 13 5) k (hN 13 (by omega) (by omega)).2.1
  unfold used tol at h
  have z : cI (C t 5) k (C t 0 1) = 0 := by
    by_cases u : t < 12
    · exact tolN_z hN 12 (by omega) (by omega) t t0 (by omega)
    · by_cases u2 : t = 12
      · rw [u2]; omega
      · rw [show t = 13 by omega]; omega
  have := (cI_pos (f := C t 5) (k := k) (C t 0 1).toNat).mpr ⟨i, i0, by omega, e⟩
  unfold cI at z
  omega
/-- the tales stay good when only the language's cells change, of kinds that no tie has -/
theorem g3_lang {C C' : jM} {t : Int} (hEq : C' t = C t) (h1 : ∀ i, 0 ≤ i → i < C t 0 1 → C' 19 1 (C t 5 i) = C 19 1 (C t 5 i)) (h2 : ∀ i, 0 ≤ i → i < C t 0 1 → C' 19 2 (C t 5 i) = C 19 2 (C t 5 i)) (h : jGood C t ∧ jSr C t ∧ jUq C t) : jGood C' t ∧ jSr C' t ∧ jUq C' t := by
  obtain ⟨⟨g1, g2, g3, g4, g5⟩, hS, hU⟩ := h
  refine ⟨⟨?_, ?_, ?_, ?_, fun i q i0 i1 q0 q1 => ?_⟩, ?_, fun i j i0 ij j1 => ?_⟩
  · unfold jTl jNB jKd jMo at g1 ⊢; rw [hEq]; exact g1
  · unfold jEs at g2 ⊢; rw [hEq]; exact g2
  · unfold jHs at g3 ⊢; rw [hEq]; exact g3
  · unfold jHt hE at g4 ⊢; rw [hEq]; exact g4
  · rw [hEq] at i1 ⊢
    rw [h1 i i0 i1]
    exact g5 i q i0 i1 q0 q1
  · unfold jSr at hS ⊢; rw [hEq]; exact hS
  · rw [hEq] at j1
    have := hU i j i0 ij j1
    unfold mtie at this ⊢
    rw [hEq, h2 j (by omega) j1]
    exact this
theorem inv_kind {C C' : jM} {k n e r : Int} (h : Inv C) (hs : s_kind C k n e r C') : Inv C' := by
  by_cases hk : isK k
  · have hs := jif_y hs hk
    by_cases hn : 1 ≤ n ∧ n ≤ 3
    · have hs := jif_y hs hn
      by_cases hu : used C k ∨ linked C k
      · rw [(jif_y hs hu).2]; exact h
      · obtain ⟨-, rfl⟩ := jif_n hs hu
        have hno := unused_no h (fun q => hu (Or.inl q))
        have l3 : C 19 3 k = -1 := Classical.byContradiction (fun q => hu (Or.inr (Or.inl q)))
        have l4 : C 19 4 k = -1 := Classical.byContradiction (fun q => hu (Or.inr (Or.inr (Or.inl q))))
        have lw : ∀ j, 0 ≤ j → j < 16 → ¬ C 19 3 j = k := fun j j0 j1 q => hu (Or.inr (Or.inr (Or.inr ⟨j, j0, j1, q⟩)))
        generalize hv : (if ¬ e = 0 ∧ n = 2 then (1 : Int) else 0) = v
        have vb : (v = 0 ∨ v = 1) ∧ (v = 1 → n = 2) := by
          rw [← hv]
          by_cases u : ¬ e = 0 ∧ n = 2
          · rw [if_pos u]; exact ⟨Or.inr rfl, fun _ => u.2⟩
          · rw [if_neg u]; exact ⟨Or.inl rfl, fun q => absurd q (by decide)⟩
        generalize hC' : jup (jup C 19 1 k n) 19 2 k v = C'
        have fr : ∀ a b, ¬ (a = 19 ∧ (b = 1 ∨ b = 2)) → C' a b = C a b := fun a b q => by rw [← hC', jup_set, jset_ne (by omega), jup_set, jset_ne (by omega)]
        have e1 : ∀ j, ¬ j = k → C' 19 1 j = C 19 1 j := fun j q => by rw [← hC', jup_ne (by simp), jup_ne (by omega)]
        have e2 : ∀ j, ¬ j = k → C' 19 2 j = C 19 2 j := fun j q => by rw [← hC', jup_ne (by omega), jup_ne (by simp)]
        have e1k : C' 19 1 k = n := by rw [← hC', jup_ne (by simp), jup_eq]
        have e2k : C' 19 2 k = v := by rw [← hC', jup_eq]
        have e3 := fr 19 3 (by simp)
        have e4 := fr 19 4 (by simp)
        have eg : ∀ g, ¬ g = 19 → C' g = C g := fun g q => by funext y; exact fr g y (fun w => q w.1)
        refine h.of (fun j j0 j1 => ?_) (fun j j0 j1 => by rw [lch_fx e3]; exact h.2.1 j j0 j1) (fun t t0 t1 => g3_lang (eg t (by omega)) (fun i i0 i1 => e1 _ (hno t i t0 t1 i0 i1)) (fun i i0 i1 => e2 _ (hno t i t0 t1 i0 i1)) (h.g3 t0 t1)) (zr_fx h.zr (eg 21 (by omega)) (eg 22 (by omega))) (by rw [eg 18 (by omega)]; exact h.2.2.2.1) (by rw [eg 18 (by omega)]; exact h.2.2.2.2.1) (eg 23 (by omega)) (eg 24 (by omega)) (eg 12 (by omega)) (eg 13 (by omega))
        obtain ⟨a1, a2, a3, a4, a5, a6, a7⟩ := h.L j j0 j1
        rw [e3, e4]
        by_cases u : j = k
        · rw [u, e1k, e2k, l3, l4]
          exact ⟨hn, vb.1, vb.2, by omega, by omega, fun q => by omega, fun q => by omega⟩
        · rw [e1 j u, e2 j u]
          refine ⟨a1, a2, a3, a4, a5, fun q => ?_, fun q => ?_⟩
          · rw [e1 _ (lw j j0 j1)]; exact a6 q
          · have a7' := a7 q
            have : ¬ C 19 4 j = k := fun w => by
              have := a7'.2.1
              rw [w, l4] at this
              omega
            rw [e1 _ this]
            exact a7'
    · rw [(jif_n hs hn).2]; exact h
  · rw [(jif_n hs hk).2]; exact h
theorem inv_opposite {C C' : jM} {k o r : Int} (h : Inv C) (hs : s_opposite C k o r C') : Inv C' := by
  by_cases hk : isK k ∧ isK o
  · have hs := jif_y hs hk
    by_cases hn : C 19 1 k = C 19 1 o
    · obtain ⟨-, rfl⟩ := jif_y hs hn
      have hL := h.L
      have hL1 := loo_LV hL k hk.1
      have hL2 := loo_LV hL1 o hk.2
      have e2 : ∀ a b, ¬ (a = 19 ∧ b = 4) → loo (loo C k) o a b = C a b := fun a b q => by rw [loo_ne q, loo_ne q]
      have main : ∀ C', (∀ a b, ¬ (a = 19 ∧ b = 4) → C' a b = C a b) → jLV C' → Inv C' := fun C' fr hL' => by
        have eg : ∀ g, ¬ g = 19 → C' g = C g := fun g q => by funext y; exact fr g y (fun w => q w.1)
        exact h.of hL' (fun j j0 j1 => by rw [lch_fx (fr 19 3 (by simp))]; exact h.2.1 j j0 j1) (fun t t0 t1 => g3_lang (eg t (by omega)) (fun i _ _ => by rw [fr 19 1 (by simp)]) (fun i _ _ => by rw [fr 19 2 (by simp)]) (h.g3 t0 t1)) (zr_fx h.zr (eg 21 (by omega)) (eg 22 (by omega))) (by rw [eg 18 (by omega)]; exact h.2.2.2.1) (by rw [eg 18 (by omega)]; exact h.2.2.2.2.1) (eg 23 (by omega)) (eg 24 (by omega)) (eg 12 (by omega)) (eg 13 (by omega))
      by_cases u : k = o
      · rw [if_pos u]
        exact main _ e2 hL2
      · rw [if_neg u]
        have l4k : loo (loo C k) o 19 4 k = -1 := by
          rw [loo_at hL1 o hk.2 k hk.1]
          split
          · rfl
          · rw [loo_at hL k hk.1 k hk.1, if_pos (Or.inl rfl)]
        have l4o : loo (loo C k) o 19 4 o = -1 := by
          rw [loo_at hL1 o hk.2 o hk.2, if_pos (Or.inl rfl)]
        generalize hD : loo (loo C k) o = D at *
        refine main _ (fun a b q => by rw [jup_set, jset_ne q, jup_set, jset_ne q]; exact e2 a b q) (fun j j0 j1 => ?_)
        obtain ⟨a1, a2, a3, a4, a5, a6, a7⟩ := hL2 j j0 j1
        have f1 : ∀ y, ¬ y = 4 → jup (jup D 19 4 k o) 19 4 o k 19 y = D 19 y := fun y q => by rw [jup_set, jset_ne (by omega), jup_set, jset_ne (by omega)]
        have f4 : ∀ i, jup (jup D 19 4 k o) 19 4 o k 19 4 i = if i = o then k else if i = k then o else D 19 4 i := fun i => by
          by_cases w : i = o
          · rw [if_pos w, w, jup_eq]
          · rw [if_neg w, jup_ne (by omega)]
            by_cases w2 : i = k
            · rw [if_pos w2, w2, jup_eq]
            · rw [if_neg w2, jup_ne (by omega)]
        have ee : D 19 1 k = D 19 1 o := by rw [e2 19 1 (by simp)]; exact hn
        rw [f1 1 (by decide), f1 2 (by decide), f1 3 (by decide), f4 j]
        refine ⟨a1, a2, a3, a4, ?_, a6, fun q => ?_⟩
        · split
          · omega
          · split <;> omega
        · by_cases w : j = o
          · rw [if_pos w, f4 k, if_neg u, if_pos rfl, w]
            exact ⟨ee, rfl, by omega⟩
          · by_cases w2 : j = k
            · rw [if_neg w, if_pos w2, f4 o, if_pos rfl, w2]
              exact ⟨ee.symm, rfl, by omega⟩
            · rw [if_neg w, if_neg w2] at q ⊢
              have a7' := a7 q
              have n1 : ¬ D 19 4 j = o := fun w3 => by
                have := a7'.2.1
                rw [w3, l4o] at this
                omega
              have n2 : ¬ D 19 4 j = k := fun w3 => by
                have := a7'.2.1
                rw [w3, l4k] at this
                omega
              rw [f4 (D 19 4 j), if_neg n1, if_neg n2]
              exact a7'
    · rw [(jif_n hs hn).2]; exact h
  · rw [(jif_n hs hk).2]; exact h
/-! no ring -/
theorem php : ∀ (n : Nat) (f : Nat → Int), (∀ i, i ≤ n → 0 ≤ f i ∧ f i < n) → (∀ i j, i ≤ n → j ≤ n → f i = f j → i = j) → False
  | 0, f, h, _ => by
    have := h 0 (Nat.le_refl 0)
    omega
  | n + 1, f, h, hi => by
    refine php n (fun i => if f i = n then f (n + 1) else f i) (fun i i1 => ?_) (fun i j i1 j1 e => ?_)
    · have a := h i (by omega)
      have b := h (n + 1) (Nat.le_refl _)
      show 0 ≤ (if f i = n then f (n + 1) else f i) ∧ (if f i = n then f (n + 1) else f i) < n
      by_cases u : f i = n
      · rw [if_pos u]
        have : ¬ f (n + 1) = n := fun q => by
          have := hi i (n + 1) (by omega) (Nat.le_refl _) (by omega)
          omega
        omega
      · rw [if_neg u]; omega
    · have e : (if f i = n then f (n + 1) else f i) = (if f j = n then f (n + 1) else f j) := e
      by_cases u : f i = n
      · by_cases v : f j = n
        · exact hi i j (by omega) (by omega) (by omega)
        · rw [if_pos u, if_neg v] at e
          have := hi (n + 1) j (Nat.le_refl _) (by omega) e
          omega
      · by_cases v : f j = n
        · rw [if_neg u, if_pos v] at e
          have := hi i (n + 1) (by omega) (Nat.le_refl _) e
          omega
        · rw [if_neg u, if_neg v] at e
          exact hi i j (by omega) (by omega) e
theorem lch_end {M : jM} (hr : ∀ j, isK j → -1 ≤ M 19 3 j ∧ M 19 3 j < 16) {j : Int} (hj : isK j) {n : Nat} (hn : lch M n j = -1) : lch M 16 j = -1 := by
  apply Classical.byContradiction
  intro h
  have later : ∀ a b : Nat, a ≤ b → lch M a j = -1 → lch M b j = -1 := fun a b ab e => by
    rw [show b = a + (b - a) by omega, lch_add, e, lch_m1]
  have nn : ∀ i, i ≤ 16 → ¬ lch M i j = -1 := fun i hi e => h (later i 16 hi e)
  have rng : ∀ i, -1 ≤ lch M i j ∧ lch M i j < 16 := fun i => by
    induction i with
    | zero => exact ⟨by show -1 ≤ j; omega, hj.2⟩
    | succ i ih =>
      by_cases e : lch M i j = -1
      · rw [later i (i + 1) (by omega) e]; omega
      · have e1 : lch M (i + 1) j = M 19 3 (lch M i j) := by
          rw [lch_add, lch, if_neg e]
          rfl
        rw [e1]
        exact hr _ (by omega)
  refine php 16 (fun i => lch M i j) (fun i hi => ?_) (fun a b ha hb e => ?_)
  · have := rng i
    have := nn i hi
    show 0 ≤ lch M i j ∧ lch M i j < ((16 : Nat) : Int)
    omega
  · have e : lch M a j = lch M b j := e
    have ring : ∀ a b : Nat, a < b → a ≤ 16 → lch M a j = lch M b j → False := fun a b hab ha e => by
      have rep : ∀ m : Nat, lch M (a + m * (b - a)) j = lch M a j := fun m => by
        induction m with
        | zero => rw [Nat.zero_mul, Nat.add_zero]
        | succ m ih =>
          rw [show a + (m + 1) * (b - a) = (a + m * (b - a)) + (b - a) by rw [Nat.succ_mul]; omega, lch_add, ih, ← lch_add, show a + (b - a) = b by omega, e]
      have big : n ≤ a + n * (b - a) := by
        have : n * 1 ≤ n * (b - a) := Nat.mul_le_mul_left n (by omega)
        omega
      have := later n _ big hn
      rw [rep n] at this
      exact nn a ha this
    rcases Nat.lt_trichotomy a b with q | q | q
    · exact (ring a b q ha e).elim
    · exact q
    · exact (ring b a q hb e.symm).elim
theorem inv_wider {C C' : jM} {k o r : Int} (h : Inv C) (hs : s_wider C k o r C') : Inv C' := by
  by_cases hk : isK k ∧ (o = -1 ∨ isK o)
  · have hs := jif_y hs hk
    by_cases hu : used C k
    · rw [(jif_y hs hu).2]; exact h
    · have hs := jif_n hs hu
      by_cases hm : o = -1 ∨ mayOver C o k
      · obtain ⟨-, rfl⟩ := jif_y hs hm
        generalize hC' : jup C 19 3 k o = C'
        have fr : ∀ a b, ¬ (a = 19 ∧ b = 3) → C' a b = C a b := fun a b q => by rw [← hC', jup_set, jset_ne q]
        have e3 : ∀ j, ¬ j = k → C' 19 3 j = C 19 3 j := fun j q => by rw [← hC', jup_ne (by omega)]
        have e3k : C' 19 3 k = o := by rw [← hC', jup_eq]
        have eg : ∀ g, ¬ g = 19 → C' g = C g := fun g q => by funext y; exact fr g y (fun w => q w.1)
        have hL' : jLV C' := fun j j0 j1 => by
          obtain ⟨a1, a2, a3, a4, a5, a6, a7⟩ := h.L j j0 j1
          rw [fr 19 1 (by simp), fr 19 2 (by simp), fr 19 4 (by simp)]
          by_cases u : j = k
          · rw [u] at a1 a2 a3 a5 a7 ⊢
            rw [e3k]
            refine ⟨a1, a2, a3, by omega, a5, fun q => ?_, a7⟩
            rcases hm with e | e
            · omega
            · exact e.1
          · rw [e3 j u]
            exact ⟨a1, a2, a3, a4, a5, a6, a7⟩
        have hr : ∀ j, isK j → -1 ≤ C' 19 3 j ∧ C' 19 3 j < 16 := fun j hj => (hL' j hj.1 hj.2).2.2.2.1
        -- a chain that doesn't meet k is what it was
        have same : ∀ (n : Nat) (u : Int), (∀ m : Nat, m < n → ¬ lch C m u = k) → lch C' n u = lch C n u := by
          intro n
          induction n with
          | zero => intro u _; rfl
          | succ n ih =>
            intro u hno
            have hu0 : ¬ u = k := hno 0 (by omega)
            have e : ∀ D : jM, lch D (n + 1) u = if u = -1 then -1 else lch D n (D 19 3 u) := fun D => rfl
            rw [e, e, e3 u hu0]
            by_cases w : u = -1
            · rw [if_pos w, if_pos w]
            · rw [if_neg w, if_neg w]
              refine ih _ (fun m hm q => ?_)
              have := hno (m + 1) (by omega)
              rw [show lch C (m + 1) u = if u = -1 then -1 else lch C m (C 19 3 u) from rfl, if_neg w] at this
              exact this q
        have oend : ∃ n, lch C' n o = -1 := by
          rcases hm with e | e
          · exact ⟨0, e⟩
          · rcases hk.2 with e2 | e2
            · exact ⟨0, e2⟩
            · exact ⟨16, by rw [same 16 o (fun m _ => e.2 m)]; exact h.2.1 o e2.1 e2.2⟩
        have hA : jAC C' := fun j j0 j1 => by
          have hend : ∃ n, lch C' n j = -1 := by
            by_cases w : ∃ m : Nat, lch C m j = k
            · -- the first time that k is met
              have key : ∀ b : Nat, (∃ m : Nat, m ≤ b ∧ lch C m j = k) → ∃ m : Nat, lch C m j = k ∧ ∀ i : Nat, i < m → ¬ lch C i j = k := by
                intro b
                induction b with
                | zero =>
                  rintro ⟨m, m1, m2⟩
                  exact ⟨m, m2, fun i hi => by omega⟩
                | succ b ihb =>
                  rintro ⟨m, m1, m2⟩
                  by_cases q : ∃ m : Nat, m ≤ b ∧ lch C m j = k
                  · exact ihb q
                  · refine ⟨m, m2, fun i hi e => q ⟨i, by omega, e⟩⟩
              obtain ⟨m0, m0e⟩ := w
              obtain ⟨m, me, mno⟩ := key m0 ⟨m0, Nat.le_refl _, m0e⟩
              obtain ⟨n, hn⟩ := oend
              refine ⟨m + 1 + n, ?_⟩
              rw [lch_add, lch_add, same m j mno, me, show lch C' 1 k = C' 19 3 k by
                rw [lch, if_neg (by omega)]
                rfl, e3k]
              exact hn
            · exact ⟨16, by rw [same 16 j (fun m _ q => w ⟨m, q⟩)]; exact h.2.1 j j0 j1⟩
          obtain ⟨n, hn⟩ := hend
          exact lch_end hr ⟨j0, j1⟩ hn
        exact h.of hL' hA (fun t t0 t1 => g3_lang (eg t (by omega)) (fun i _ _ => by rw [fr 19 1 (by simp)]) (fun i _ _ => by rw [fr 19 2 (by simp)]) (h.g3 t0 t1)) (zr_fx h.zr (eg 21 (by omega)) (eg 22 (by omega))) (by rw [eg 18 (by omega)]; exact h.2.2.2.1) (by rw [eg 18 (by omega)]; exact h.2.2.2.2.1) (eg 23 (by omega)) (eg 24 (by omega)) (eg 12 (by omega)) (eg 13 (by omega))
      · rw [(jif_n hs hm).2]; exact h
  · rw [(jif_n hs hk).2]; exact h
