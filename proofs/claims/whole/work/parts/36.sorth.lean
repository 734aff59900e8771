/-! counting; sortHope -/
theorem uS_mono {U : Int → Prop} {G G' : Int → Int} : ∀ n : Nat, (∀ j : Int, 0 ≤ j → j < n → G j ≤ G' j) → uS U G n ≤ uS U G' n
  | 0, _ => Int.le_refl _
  | n + 1, h => by
    have ih := uS_mono (U := U) n (fun j j0 j1 => h j j0 (by omega))
    have := h n (by omega) (by omega)
    unfold uS
    by_cases q : U n
    · rw [if_pos q, if_pos q]; omega
    · rw [if_neg q, if_neg q]; omega
theorem cP_congr {U U' : Int → Prop} (n : Nat) (h : ∀ j : Int, 0 ≤ j → j < n → (U j ↔ U' j)) : cP U n = cP U' n := uS_congr n h
theorem cP_mono {U U' : Int → Prop} : ∀ n : Nat, (∀ j : Int, 0 ≤ j → j < n → U j → U' j) → cP U n ≤ cP U' n
  | 0, _ => Int.le_refl _
  | n + 1, h => by
    have ih := cP_mono n (fun j j0 j1 => h j j0 (by omega))
    by_cases q : U n
    · rw [cP_yes q, cP_yes (h n (by omega) (by omega) q)]; omega
    · rw [cP_no q, cP_succ]
      split <;> omega
theorem cP_bd (U : Int → Prop) : ∀ n : Nat, 0 ≤ cP U n ∧ cP U n ≤ n
  | 0 => ⟨Int.le_refl _, Int.le_refl _⟩
  | n + 1 => by
    have ih := cP_bd U n
    rw [cP_succ]
    split <;> omega
theorem cP_z {U : Int → Prop} (n : Nat) (h : ∀ j : Int, 0 ≤ j → j < n → ¬ U j) : cP U n = 0 := by
  rw [cP_congr (U' := fun _ => False) n (fun j j0 j1 => ⟨h j j0 j1, False.elim⟩)]
  induction n with
  | zero => rfl
  | succ n ih => rw [cP_no (fun q => q), ih (fun j j0 j1 => h j j0 (by omega))]
theorem cP_add {U : Int → Prop} {t : Int} (ht : 0 ≤ t) (hU : ¬ U t) (n : Nat) (hn : t < n) : cP (fun j => U j ∨ j = t) n = cP U n + 1 := uS_add ht hU n hn
theorem cP_cut {R : Int → Prop} {k : Nat} : ∀ n : Nat, k ≤ n → cP R n = cP R k + cP (fun x => (k : Int) ≤ x ∧ R x) n
  | 0, h => by
    rw [show k = 0 by omega]
    rfl
  | n + 1, h => by
    by_cases q : k = n + 1
    · subst q
      rw [cP_z (U := fun x => ((n + 1 : Nat) : Int) ≤ x ∧ R x) (n + 1) (fun j j0 j1 x => by have := x.1; omega), Int.add_zero]
    · have ih := cP_cut (R := R) (k := k) n (by omega)
      by_cases y : R n
      · rw [cP_yes y, cP_yes (P := fun x => (k : Int) ≤ x ∧ R x) ⟨by omega, y⟩, ih]; omega
      · rw [cP_no y, cP_no (P := fun x => (k : Int) ≤ x ∧ R x) (fun z => y z.2), ih]
theorem cP_inj {P Q : Int → Prop} {f : Int → Int} {m : Nat} : ∀ n : Nat, (∀ x : Int, 0 ≤ x → x < n → P x → 0 ≤ f x ∧ f x < m ∧ Q (f x)) → (∀ x y : Int, 0 ≤ x → x < n → 0 ≤ y → y < n → P x → P y → f x = f y → x = y) → cP P n ≤ cP (fun y => Q y ∧ ∃ x : Int, 0 ≤ x ∧ x < n ∧ P x ∧ f x = y) m
  | 0, _, _ => (cP_bd _ m).1
  | n + 1, h, hi => by
    have ih := cP_inj (P := P) (Q := Q) (f := f) (m := m) n (fun x x0 x1 => h x x0 (by omega)) (fun x y x0 x1 y0 y1 => hi x y x0 (by omega) y0 (by omega))
    by_cases q : P n
    · obtain ⟨f0, f1, f2⟩ := h n (by omega) (by omega) q
      rw [cP_yes q]
      have e := cP_add (U := fun y => Q y ∧ ∃ x : Int, 0 ≤ x ∧ x < n ∧ P x ∧ f x = y) f0 (fun z => by
        obtain ⟨-, x, x0, x1, x2, x3⟩ := z
        have := hi x n x0 (by omega) (by omega) (by omega) x2 q x3
        omega) m f1
      refine Int.le_trans (by rw [e]; omega) (cP_mono m (fun j j0 j1 z => ?_))
      rcases z with ⟨z1, x, x0, x1, x2⟩ | z
      · exact ⟨z1, x, x0, by omega, x2⟩
      · exact ⟨by rw [z]; exact f2, n, by omega, by omega, q, z.symm⟩
    · rw [cP_no q]
      exact Int.le_trans ih (cP_mono m (fun j j0 j1 z => by
        obtain ⟨z1, x, x0, x1, x2⟩ := z
        exact ⟨z1, x, x0, by omega, x2⟩))
theorem uS_one {A A' : Int → Int} {t : Int} (he : ∀ s, A' s = A s + (if s = t then 1 else 0)) (t0 : 0 ≤ t) : ∀ N : Nat, uS (fun _ => True) A' N = uS (fun _ => True) A N + (if t < N then 1 else 0)
  | 0 => by
    rw [if_neg (by omega)]
    rfl
  | N + 1 => by
    have ih := uS_one he t0 N
    unfold uS
    rw [if_pos trivial, if_pos trivial, ih, he]
    by_cases q : (N : Int) = t
    · rw [if_pos q, if_neg (by omega), if_pos (by omega)]; omega
    · rw [if_neg q]
      by_cases q2 : t < N
      · rw [if_pos q2, if_pos (by omega)]; omega
      · rw [if_neg q2, if_neg (by omega)]; omega
theorem cP_split {P : Int → Prop} {f : Int → Int} {m : Nat} : ∀ n : Nat, (∀ x : Int, 0 ≤ x → x < n → P x → 0 ≤ f x ∧ f x < m) → cP P n = uS (fun _ => True) (fun s => cP (fun x => P x ∧ f x = s) n) m
  | 0, _ => by
    have : ∀ m : Nat, uS (fun _ => True) (fun s => cP (fun x => P x ∧ f x = s) 0) m = 0 := fun m => by
      induction m with
      | zero => rfl
      | succ m ih => unfold uS; rw [if_pos trivial, ih]; rfl
    rw [this]
    rfl
  | n + 1, h => by
    have ih := cP_split (P := P) (f := f) (m := m) n (fun x x0 x1 => h x x0 (by omega))
    by_cases q : P n
    · have hf := h n (by omega) (by omega) q
      rw [cP_yes q, uS_one (A := fun s => cP (fun x => P x ∧ f x = s) n) (t := f n) (fun s => ?_) hf.1 m, if_pos hf.2, ih]
      by_cases y : s = f n
      · rw [if_pos y, cP_yes (P := fun x => P x ∧ f x = s) ⟨q, y.symm⟩]
      · rw [if_neg y, cP_no (P := fun x => P x ∧ f x = s) (fun z => y z.2.symm), Int.add_zero]
    · rw [cP_no q, ih]
      congr 1
      funext s
      rw [cP_no (P := fun x => P x ∧ f x = s) (fun z => q z.1)]
/-- a pairing, as a row -/
def vld (C : jM) (a b : Int) (q : Int → Int) : Prop := (∀ x, q x = -1 ∨ (0 ≤ x ∧ x < C a 0 0 ∧ 0 ≤ q x ∧ q x < C b 0 0)) ∧ ∀ x y, 0 ≤ q x → q x = q y → x = y
def mts (C : jM) (a b : Int) (q : Int → Int) (x : Int) : Prop := 0 ≤ q x ∧ C a 4 x = C b 4 (q x)
noncomputable def srt (C : jM) (a b wg : Int) (q : Int → Int) : Int := if wg = 1 then 0 else cP (mts C a b q) (C a 0 0).toNat
def jSr (C : jM) (g : Int) : Prop := ∀ x, 0 ≤ x → x < C g 0 0 → 0 ≤ C g 4 x ∧ C g 4 x < 10
/-- a row so far -/
def pre (C : jM) (a b : Int) (p : Int → Int) (k : Int) : Prop := (∀ x, 0 ≤ x → x < k → p x = -1 ∨ (0 ≤ p x ∧ p x < C b 0 0)) ∧ (∀ x y, 0 ≤ x → x < k → 0 ≤ y → y < k → 0 ≤ p x → p x = p y → x = y)
def tkn (p : Int → Int) (k y : Int) : Prop := 0 ≤ y ∧ ∃ x, 0 ≤ x ∧ x < k ∧ p x = y
def jSo (C M : jM) (a b wg : Int) : Prop := M 22 0 2 = a ∧ M 22 0 3 = b ∧ jBl (M 22 0 4) (¬ wg = 1) ∧ (∀ x, 0 ≤ x → x < C a 0 0 → isM (M 22 6 x) (fun y => y < C b 0 0 ∧ C a 4 x = C b 4 y))
theorem c_sortHope {C M : jM} {a b wg k : Int} {p : Int → Int} (ha : 0 ≤ a ∧ a < 18) (hb : 0 ≤ b ∧ b < 18) (hNa : jNB C a) (hNb : jNB C b) (hSa : jSr C a) (hMa : M a = C a) (hS : jSo C M a b wg) (hk : 0 ≤ k ∧ k ≤ C a 0 0) (hp : pre C a b p k) (hP : ∀ x, 0 ≤ x → x < k → M 20 6 x = p x) (hT : isM (M 22 0 6) (tkn p k)) :
    jCallP 0 159 [.inr (22, 0), .inl k] M (fun r M' => (0 ≤ r ∧ r ≤ 12) ∧ (∀ q, vld C a b q → (∀ x, 0 ≤ x → x < k → q x = p x) → srt C a b wg q ≤ r ∧ (k = C a 0 0 → srt C a b wg q = r)) ∧ M' = M) := by
  obtain ⟨s2, s3, s4, s6⟩ := hS
  have na6 := hNa.1
  have nb6 := hNb.1
  refine jstart (by decide) rfl (fX5_sortHope_0 ⟨fun q => ?_, fun q => ?_⟩)
  rotate_left
  · have w1 : wg = 1 := by
      by_cases y : wg = 1
      · exact y
      · exact absurd q ((jBl_ne s4).mpr y)
    refine ⟨by omega, fun q' _ _ => ?_, rfl⟩
    unfold srt
    rw [if_pos w1]
    exact ⟨Int.le_refl _, fun _ => rfl⟩
  have w1 := (jBl_ne s4).mp q
  generalize hQ : (fun (r : Int) (M' : jM) => (0 ≤ r ∧ r ≤ 12) ∧ (∀ q, vld C a b q → (∀ x, 0 ≤ x → x < k → q x = p x) → srt C a b wg q ≤ r ∧ (k = C a 0 0 → srt C a b wg q = r)) ∧ M' = M) = Q
  -- the open ones
  have open_ : ∀ j (n : Nat), n + j = (C a 0 0).toNat → k ≤ n → ∀ (v2 v3 : Int) (F : Int → Prop), isM v3 F → (∀ y, F y → ¬ tkn p k y) → v2 = cP (mts C a b p) k.toNat + cP (fun y => ¬ tkn p k y ∧ ¬ F y) (C b 0 0).toNat → cP (fun y => ¬ tkn p k y ∧ ¬ F y) (C b 0 0).toNat ≤ n - k →
      (∀ q', vld C a b q' → (∀ x, 0 ≤ x → x < k → q' x = p x) → ∀ s, cP (fun x => (k ≤ x ∧ mts C a b q' x) ∧ C a 4 x = s) n ≤ cP (fun y => (¬ tkn p k y ∧ ¬ F y) ∧ C b 4 y = s) (C b 0 0).toNat) →
      jWP 0 159 21 [some (.inr (22, 0)), some (.inl k), some (.inl v2), some (.inl v3), some (.inl (n : Int)), none] [] M Q := by
    intro j
    induction j with
    | zero =>
      intro n hn hkn v2 v3 F hF hFt h2 h3 h4
      have e : n = (C a 0 0).toNat := by omega
      subst e
      have b1 := cP_bd (mts C a b p) k.toNat
      have b2 := cP_bd (fun y => ¬ tkn p k y ∧ ¬ F y) (C b 0 0).toNat
      refine fX5_sortHope_21 ?_
      rw [s2, hMa]
      refine ⟨ha, fun _ => ?_, fun z => by exfalso; omega⟩
      rw [← hQ]
      refine ⟨by omega, fun q' hv hx => ?_, rfl⟩
      have e1 : srt C a b wg q' = cP (mts C a b p) k.toNat + cP (fun x => k ≤ x ∧ mts C a b q' x) (C a 0 0).toNat := by
        unfold srt
        rw [if_neg w1, cP_cut (k := k.toNat) (C a 0 0).toNat (by omega), Int.toNat_of_nonneg hk.1]
        congr 1
        refine cP_congr _ (fun x x0 x1 => ?_)
        unfold mts
        rw [hx x x0 (by omega)]
      have e2 := cP_split (P := fun x => k ≤ x ∧ mts C a b q' x) (f := C a 4) (m := 10) (C a 0 0).toNat (fun x x0 x1 _ => hSa x x0 (by omega))
      have e3 : uS (fun _ => True) (fun s => cP (fun y => (¬ tkn p k y ∧ ¬ F y) ∧ C b 4 y = s) (C b 0 0).toNat) 10 ≤ cP (fun y => ¬ tkn p k y ∧ ¬ F y) (C b 0 0).toNat := by
        have := cP_split (P := fun y => (¬ tkn p k y ∧ ¬ F y) ∧ 0 ≤ C b 4 y ∧ C b 4 y < 10) (f := C b 4) (m := 10) (C b 0 0).toNat (fun x x0 x1 z => z.2)
        refine Int.le_trans (Int.le_trans (uS_mono 10 (fun s s0 s1 => cP_mono _ (fun y y0 y1 z => ?_))) (Int.le_of_eq this.symm)) (cP_mono _ (fun y y0 y1 z => z.1))
        exact ⟨⟨z.1, by rw [z.2]; omega⟩, z.2⟩
      have e4 : cP (fun x => k ≤ x ∧ mts C a b q' x) (C a 0 0).toNat ≤ cP (fun y => ¬ tkn p k y ∧ ¬ F y) (C b 0 0).toNat := by
        rw [e2]
        exact Int.le_trans (uS_mono 10 (fun s s0 s1 => h4 q' hv hx s)) e3
      have b3 := cP_bd (fun x => k ≤ x ∧ mts C a b q' x) (C a 0 0).toNat
      exact ⟨by omega, fun z => by omega⟩
    | succ j ih =>
      intro n hn hkn v2 v3 F hF hFt h2 h3 h4
      have b1 := cP_bd (mts C a b p) k.toNat
      have b2 := cP_bd (fun y => ¬ tkn p k y ∧ ¬ F y) (C b 0 0).toNat
      have hnlt : (n : Int) < C a 0 0 := by omega
      have h6 := s6 n (by omega) hnlt
      have hfit := h6.and hF
      have en : (n : Int) + 1 = ((n + 1 : Nat) : Int) := by omega
      refine fX5_sortHope_21 ?_
      rw [s2, hMa]
      refine ⟨ha, fun z => by exfalso; omega, fun _ => ⟨fun _ => ⟨⟨by omega, by rw [show jal 22 6 = 6 from rfl]; omega⟩, fun z => ?_, fun z => ?_⟩, fun z => by exfalso; omega⟩⟩
      · -- none fits
        refine fX5_sortHope_98 ?_
        rw [z, show jiand 0 (jwr (-0)) = 0 from rfl, jwr_id (z := v2 + 0) (by omega) (by omega), Int.add_zero, jwr_id (by omega) (by omega), en]
        refine ih (n + 1) (by omega) (by omega) v2 _ F ((hF.and isM_0.not).congr (fun y _ _ => ⟨fun u => u.1, fun u => ⟨u, fun u => u⟩⟩)) hFt h2 (by omega) (fun q' hv hx s => ?_)
        by_cases y : (k ≤ (n : Int) ∧ mts C a b q' n) ∧ C a 4 n = s
        · -- all free of the sort are gone
          have nof : ∀ y', 0 ≤ y' → y' < C b 0 0 → C b 4 y' = s → ¬ F y' := fun y' y0 y1 y2 u => (hfit.zero.mp z) y' y0 (by omega) ⟨⟨y1, by rw [y.2, y2]⟩, u⟩
          refine Int.le_trans (cP_inj (P := fun x => (k ≤ x ∧ mts C a b q' x) ∧ C a 4 x = s) (Q := fun y => (¬ tkn p k y ∧ ¬ F y) ∧ C b 4 y = s) (f := q') (m := (C b 0 0).toNat) (n + 1) (fun x x0 x1 u => ?_) (fun x y' x0 x1 y0 y1 u1 u2 u3 => hv.2 x y' u1.1.2.1 u3)) (cP_mono _ (fun y' _ _ u => u.1))
          obtain ⟨⟨u1, u2, u3⟩, u4⟩ := u
          have hq := (hv.1 x).resolve_left (by omega)
          refine ⟨u2, by omega, ⟨fun u5 => ?_, nof _ u2 hq.2.2.2 (by rw [← u3, u4])⟩, by rw [← u3, u4]⟩
          obtain ⟨-, x', x0', x1', u6⟩ := u5
          rw [← hx x' x0' x1'] at u6
          have := hv.2 x x' u2 u6.symm
          omega
        · rw [cP_no y]
          exact h4 q' hv hx s
      · -- the lowest that fits is taken
        obtain ⟨t, t0, t6, ⟨⟨tn, ts⟩, tF⟩, te⟩ := isM_low hfit (fun y u => by have := u.1.1; omega) z
        have ht := hFt t tF
        refine fX5_sortHope_98 ?_
        rw [te, jwr_id (z := v2 + 1) (by omega) (by omega), jwr_id (by omega) (by omega), en]
        have eq1 : ∀ y, (¬ tkn p k y ∧ ¬ (F y ∧ ¬ y = t)) ↔ ((¬ tkn p k y ∧ ¬ F y) ∨ y = t) := fun y => by
          by_cases u : y = t
          · subst u
            exact ⟨fun _ => Or.inr rfl, fun _ => ⟨ht, fun v => v.2 rfl⟩⟩
          · exact ⟨fun v => Or.inl ⟨v.1, fun w => v.2 ⟨w, u⟩⟩, fun v => v.elim (fun w => ⟨w.1, fun w' => w.2 w'.1⟩) (fun w => absurd w u)⟩
        have eq2 : cP (fun y => ¬ tkn p k y ∧ ¬ (F y ∧ ¬ y = t)) (C b 0 0).toNat = cP (fun y => ¬ tkn p k y ∧ ¬ F y) (C b 0 0).toNat + 1 := by
          rw [← cP_add (U := fun y => ¬ tkn p k y ∧ ¬ F y) t0 (fun u => u.2 tF) _ (by omega)]
          exact cP_congr _ (fun y _ _ => eq1 y)
        refine ih (n + 1) (by omega) (by omega) (v2 + 1) _ (fun y => F y ∧ ¬ y = t) (hF.and (isM_bit t0 (by omega)).not) (fun y u => hFt y u.1) (by omega) (by omega) (fun q' hv hx s => ?_)
        have h4' := h4 q' hv hx s
        by_cases y : C a 4 n = s
        · have eq3 : cP (fun y => (¬ tkn p k y ∧ ¬ (F y ∧ ¬ y = t)) ∧ C b 4 y = s) (C b 0 0).toNat = cP (fun y => (¬ tkn p k y ∧ ¬ F y) ∧ C b 4 y = s) (C b 0 0).toNat + 1 := by
            rw [← cP_add (U := fun y => (¬ tkn p k y ∧ ¬ F y) ∧ C b 4 y = s) t0 (fun u => u.1.2 tF) _ (by omega)]
            refine cP_congr _ (fun y' _ _ => ?_)
            rw [eq1]
            constructor
            · rintro ⟨u | u, u2⟩
              · exact Or.inl ⟨u, u2⟩
              · exact Or.inr u
            · rintro (u | u)
              · exact ⟨Or.inl u.1, u.2⟩
              · exact ⟨Or.inr u, by rw [u, ← ts, y]⟩
          rw [eq3, cP_succ]
          split <;> omega
        · rw [cP_no (P := fun x => (k ≤ x ∧ mts C a b q' x) ∧ C a 4 x = s) (fun u => y u.2)]
          exact Int.le_trans h4' (cP_mono _ (fun y' _ _ u => ⟨(eq1 y').mpr (Or.inl u.1), u.2⟩))
  -- the decided ones
  have dec : ∀ j (n : Nat), n + j = k.toNat → jWP 0 159 21 [some (.inr (22, 0)), some (.inl k), some (.inl (cP (mts C a b p) n)), some (.inl (jixor (M 22 0 6) (-1))), some (.inl (n : Int)), none] [] M Q := by
    intro j
    induction j with
    | zero =>
      intro n hn
      have e : n = k.toNat := by omega
      subst e
      have z : cP (fun y => ¬ tkn p k y ∧ ¬ ¬ tkn p k y) (C b 0 0).toNat = 0 := cP_z _ (fun y _ _ u => u.2 u.1)
      refine open_ ((C a 0 0).toNat - k.toNat) k.toNat (by omega) (by omega) _ _ (fun y => ¬ tkn p k y) hT.not (fun y u => u) (by rw [z, Int.add_zero]) (by rw [z]; omega) (fun q' hv hx s => ?_)
      rw [cP_z (U := fun x => (k ≤ x ∧ mts C a b q' x) ∧ C a 4 x = s) _ (fun x x0 x1 u => by have := u.1.1; omega)]
      exact (cP_bd _ _).1
    | succ j ih =>
      intro n hn
      have b1 := cP_bd (mts C a b p) n
      have hnk : (n : Int) < k := by omega
      have en : (n : Int) + 1 = ((n + 1 : Nat) : Int) := by omega
      have hpn := hp.1 n (by omega) hnk
      have h6 := s6 n (by omega) (by omega)
      refine fX5_sortHope_21 ?_
      rw [s2, hMa, hP n (by omega) hnk]
      refine ⟨ha, fun z => by exfalso; omega, fun _ => ⟨fun z => by exfalso; omega, fun _ => ⟨⟨by omega, by rw [jal_20_6]; omega⟩, fun z => ?_, fun z => ⟨⟨by omega, by rw [show jal 22 6 = 6 from rfl]; omega⟩, ⟨by omega, by rw [jal_20_6]; omega⟩, ?_⟩⟩⟩⟩
      · rw [jwr_id (by omega) (by omega), jwr_id (by omega) (by omega), Int.add_zero, en]
        have := ih (n + 1) (by omega)
        rwa [cP_no (P := mts C a b p) (fun u => by have := u.1; omega)] at this
      · have h01 := h6.test1 z (by omega)
        have hte := h6.test z (by omega)
        have key : cP (mts C a b p) (n + 1) = cP (mts C a b p) n + jiand (jishr (M 22 6 n) (p n)) 1 := by
          by_cases u : mts C a b p n
          · rw [cP_yes u]
            have : ¬ jiand (jishr (M 22 6 n) (p n)) 1 = 0 := fun w => (hte.mp w) ⟨by omega, u.2⟩
            omega
          · rw [cP_no u, hte.mpr (fun w => u ⟨z, w.2⟩), Int.add_zero]
        rw [jwr_id (by omega) (by omega), jwr_id (by omega) (by omega), en, ← key]
        exact ih (n + 1) (by omega)
  exact dec k.toNat 0 (by omega)
