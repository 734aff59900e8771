/-! the best row; prepare -/
theorem vld_num {C : jM} {a b : Int} {q q' : Int → Int} (nb : C b 0 0 ≤ 6) (hv : vld C a b q) (hv' : vld C a b q') (h : num q (C a 0 0).toNat = num q' (C a 0 0).toNat) : q = q' := by
  have hq : ∀ x, q x < 9 := fun x => by rcases hv.1 x with e | e <;> omega
  have hq' : ∀ x, q' x < 9 := fun x => by rcases hv'.1 x with e | e <;> omega
  funext x
  by_cases y : 0 ≤ x ∧ x < C a 0 0
  · have := num_inj hq hq' _ h x y.1 (by omega)
    unfold cod9 at this
    have h1 := hq x
    have h2 := hq' x
    rcases hv.1 x with e | e <;> rcases hv'.1 x with e' | e' <;> split at this <;> split at this <;> omega
  · rcases hv.1 x with e | e
    · rcases hv'.1 x with e' | e'
      · omega
      · omega
    · omega
def isB (C : jM) (a b lv wg tm sp w0 p0 : Int) (R : Int → Int) (D : Int) : Prop :=
  vld C a b R ∧ C a 0 0 - prs C a R ≤ sp ∧ num R (C a 0 0).toNat < D ∧ btr C a b lv wg tm R w0 p0 ∧ ∀ q, vld C a b q → C a 0 0 - prs C a q ≤ sp → num q (C a 0 0).toNat < D → ¬ btr C a b lv wg tm q (wth C a b lv wg tm R) (prs C a R) ∧ (wth C a b lv wg tm q = wth C a b lv wg tm R → prs C a q = prs C a R → num R (C a 0 0).toNat ≤ num q (C a 0 0).toNat)
def jBst (C : jM) (a b lv wg tm sp w0 p0 : Int) (M : jM) (D : Int) : Prop :=
  M 22 0 11 = 0 ∧ ((M 22 0 8 = w0 ∧ M 22 0 9 = p0 ∧ ∀ q, vld C a b q → C a 0 0 - prs C a q ≤ sp → num q (C a 0 0).toNat < D → ¬ btr C a b lv wg tm q w0 p0) ∨ ∃ R, isB C a b lv wg tm sp w0 p0 R D ∧ (∀ x, 0 ≤ x → x < C a 0 0 → M 22 11 x = R x) ∧ M 22 0 8 = wth C a b lv wg tm R ∧ M 22 0 9 = prs C a R)
theorem jBst_ph {C : jM} {a b lv wg tm sp w0 p0 : Int} (nb : C b 0 0 ≤ 6) : jPh C a b lv wg tm sp (jBst C a b lv wg tm sp w0 p0) := by
  refine ⟨fun M M' D hs h => ?_, fun M D D' hD hDD hp h => ?_, fun M M' q hv hq hA h => ?_, fun M D h h2 => absurd h.1 h2⟩
  · obtain ⟨h1, h2, h3, -, -, h6⟩ := hs
    unfold jBst at h ⊢
    rw [h1, h2, h3, h6]
    exact h
  · obtain ⟨h0, h⟩ := h
    have np : ∀ q, vld C a b q → C a 0 0 - prs C a q ≤ sp → D ≤ num q (C a 0 0).toNat → num q (C a 0 0).toNat < D' → ¬ btr C a b lv wg tm q (M 22 0 8) (M 22 0 9) := fun q h1 h2 h3 h4 => by
      rcases hp q h1 h2 h3 h4 with w | w
      · exact w.2
      · exact absurd h0 w.1
    refine ⟨h0, ?_⟩
    rcases h with ⟨e1, e2, h⟩ | ⟨R, ⟨r1, r2, r3, r4, r5⟩, hR, e1, e2⟩
    · rw [e1, e2] at np
      exact Or.inl ⟨e1, e2, fun q h1 h2 h3 => by
        by_cases y : num q (C a 0 0).toNat < D
        · exact h q h1 h2 y
        · exact np q h1 h2 (by omega) h3⟩
    · rw [e1, e2] at np
      exact Or.inr ⟨R, ⟨r1, r2, by omega, r4, fun q h1 h2 h3 => by
        by_cases y : num q (C a 0 0).toNat < D
        · exact r5 q h1 h2 y
        · exact ⟨np q h1 h2 (by omega) h3, fun _ _ => by omega⟩⟩, hR, e1, e2⟩
  · obtain ⟨h0, h⟩ := h
    obtain ⟨a1, a2, a3, a4⟩ := hA
    have e11 : M' 22 0 11 = 0 := by rw [a1 11 (by simp), h0]
    have eqq : ∀ q', vld C a b q' → num q' (C a 0 0).toNat < num q (C a 0 0).toNat + 1 → ¬ num q' (C a 0 0).toNat < num q (C a 0 0).toNat → q' = q := fun q' h1 h2 h3 => vld_num nb h1 hv (by omega)
    refine ⟨e11, ?_⟩
    by_cases hb : btr C a b lv wg tm q (M 22 0 8) (M 22 0 9)
    · obtain ⟨b1, b2, -, b4⟩ := a2 h0 hb
      refine Or.inr ⟨q, ⟨hv, hq, by omega, ?_, fun q' h1 h2 h3 => ?_⟩, b4, b1, b2⟩
      · rcases h with ⟨e1, e2, h⟩ | ⟨R, ⟨r1, r2, r3, r4, r5⟩, hR, e1, e2⟩
        · rw [e1, e2] at hb; exact hb
        · rw [e1, e2] at hb
          unfold btr at *
          omega
      · by_cases y : num q' (C a 0 0).toNat < num q (C a 0 0).toNat
        · rcases h with ⟨e1, e2, h⟩ | ⟨R, ⟨r1, r2, r3, r4, r5⟩, hR, e1, e2⟩
          · have := h q' h1 h2 y
            rw [e1, e2] at hb
            unfold btr at *
            omega
          · have := (r5 q' h1 h2 y).1
            rw [e1, e2] at hb
            unfold btr at *
            omega
        · rw [eqq q' h1 h3 y]
          refine ⟨?_, fun _ _ => by omega⟩
          unfold btr
          omega
    · obtain ⟨b1, b2, -, b4⟩ := a3 (Or.inl ⟨h0, hb⟩)
      rw [b1, b2, b4]
      rcases h with ⟨e1, e2, h⟩ | ⟨R, ⟨r1, r2, r3, r4, r5⟩, hR, e1, e2⟩
      · refine Or.inl ⟨e1, e2, fun q' h1 h2 h3 => ?_⟩
        by_cases y : num q' (C a 0 0).toNat < num q (C a 0 0).toNat
        · exact h q' h1 h2 y
        · rw [eqq q' h1 h3 y, ← e1, ← e2]; exact hb
      · refine Or.inr ⟨R, ⟨r1, r2, by omega, r4, fun q' h1 h2 h3 => ?_⟩, hR, e1, e2⟩
        by_cases y : num q' (C a 0 0).toNat < num q (C a 0 0).toNat
        · exact r5 q' h1 h2 y
        · rw [eqq q' h1 h3 y, ← e1, ← e2]
          exact ⟨hb, fun _ _ => by omega⟩
noncomputable def spr (C : jM) (a b tm : Int) : Int := @ite Int (mat C a b tm) (Classical.propDecidable _) (C a 0 0) (if 0 < C a 0 0 - C b 0 0 then C a 0 0 - C b 0 0 else 0)
theorem spr_0 {C : jM} {a b tm : Int} (h : 0 ≤ C a 0 0) : 0 ≤ spr C a b tm := by
  unfold spr
  split
  · exact h
  · split <;> omega
/-- some row -/
theorem ex_row {C : jM} {a b tm : Int} (ha : 0 ≤ C a 0 0) (hb : 0 ≤ C b 0 0) : ∃ q, vld C a b q ∧ C a 0 0 - prs C a q ≤ spr C a b tm := by
  refine ⟨fun x => if 0 ≤ x ∧ x < C a 0 0 ∧ x < C b 0 0 then x else -1, ⟨fun x => ?_, fun x y h e => ?_⟩, ?_⟩
  · by_cases y : 0 ≤ x ∧ x < C a 0 0 ∧ x < C b 0 0
    · exact Or.inr (by simp only [if_pos y]; omega)
    · exact Or.inl (by simp only [if_neg y])
  · by_cases u : 0 ≤ x ∧ x < C a 0 0 ∧ x < C b 0 0
    · by_cases v : 0 ≤ y ∧ y < C a 0 0 ∧ y < C b 0 0
      · simp only [if_pos u, if_pos v] at e; exact e
      · simp only [if_pos u, if_neg v] at e; omega
    · simp only [if_neg u] at h; omega
  · have key : ∀ n : Nat, (n : Int) ≤ C a 0 0 → (n : Int) ≤ C b 0 0 → cP (fun x => 0 ≤ (if 0 ≤ x ∧ x < C a 0 0 ∧ x < C b 0 0 then x else -1)) n = n := by
      intro n
      induction n with
      | zero => intro _ _; rfl
      | succ n ih =>
        intro h1 h2
        rw [cP_yes (by rw [if_pos (by omega)]; omega), ih (by omega) (by omega)]
        omega
    have sp1 : (if 0 < C a 0 0 - C b 0 0 then C a 0 0 - C b 0 0 else 0) ≤ spr C a b tm := by
      unfold spr
      by_cases m : mat C a b tm
      · rw [if_pos m]
        split <;> omega
      · rw [if_neg m]
        exact Int.le_refl _
    show C a 0 0 - cP (fun x => 0 ≤ (if 0 ≤ x ∧ x < C a 0 0 ∧ x < C b 0 0 then x else -1)) (C a 0 0).toNat ≤ _
    by_cases y : C a 0 0 ≤ C b 0 0
    · rw [key _ (by omega) (by omega)]
      rw [if_neg (by omega)] at sp1
      omega
    · have := (cP_more (P := fun x => 0 ≤ (if 0 ≤ x ∧ x < C a 0 0 ∧ x < C b 0 0 then x else -1)) (k := (C b 0 0).toNat) (C a 0 0).toNat (by omega)).1
      rw [key _ (by omega) (by omega)] at this
      rw [if_pos (by omega)] at sp1
      omega
theorem c_open (M : jM) : jCallP 0 156 [.inr (22, 0)] M (fun _ M' => (∀ x, 0 ≤ x → x < 6 → M' 20 6 x = -2) ∧ M' 22 0 6 = 0 ∧ (∀ z, ¬ z = 6 → M' 22 0 z = M 22 0 z) ∧ ∀ x y, ¬ ((x = 20 ∧ y = 6) ∨ (x = 22 ∧ y = 0)) → M' x y = M x y) := by
  refine jstart (by decide) rfl (fX5_open_0 ?_)
  generalize hM0 : jup M 22 0 6 0 = M0
  have g0 : M0 22 0 6 = 0 := by rw [← hM0, jup_eq]
  have g1 : ∀ z, ¬ z = 6 → M0 22 0 z = M 22 0 z := fun z h => by rw [← hM0, jup_ne (by simp [h])]
  have g2 : ∀ x y, ¬ (x = 22 ∧ y = 0) → M0 x y = M x y := fun x y h => by rw [← hM0, jup_set, jset_ne h]
  have key : ∀ n, 0 ≤ n → n ≤ 6 → ∀ M1 : jM, (∀ x, 0 ≤ x → x < n → M1 20 6 x = -2) → (∀ x y, ¬ (x = 20 ∧ y = 6) → M1 x y = M0 x y) → jWP 0 156 7 [some (.inr (22, 0)), some (.inl n)] [] M1 (fun _ M' => (∀ x, 0 ≤ x → x < 6 → M' 20 6 x = -2) ∧ M' 22 0 6 = 0 ∧ (∀ z, ¬ z = 6 → M' 22 0 z = M 22 0 z) ∧ ∀ x y, ¬ ((x = 20 ∧ y = 6) ∨ (x = 22 ∧ y = 0)) → M' x y = M x y) := by
    refine jloop (e := 6) (fun M1 h1 h2 => ?_) (fun n n0 n1 ih M1 h1 h2 => ?_)
    · exact fX5_open_7 ⟨fun _ => ⟨h1, by rw [h2 _ _ (by simp), g0], fun z h => by rw [h2 _ _ (by simp), g1 z h], fun x y h => by rw [h2 x y (fun z => h (Or.inl z)), g2 x y (fun z => h (Or.inr z))]⟩, fun q => by exfalso; omega⟩
    · refine fX5_open_7 ⟨fun q => by exfalso; omega, fun _ => ⟨⟨n0, by rw [jal_20_6]; omega⟩, ?_⟩⟩
      rw [jwr_id (by omega) (by omega)]
      refine ih _ (fun x x0 x1 => ?_) (fun x y h => by rw [jup_set, jset_ne h]; exact h2 x y h)
      by_cases u : x = n
      · rw [u, jup_eq]
      · rw [jup_ne (by simp [u])]; exact h1 x x0 (by omega)
  exact key 0 (by omega) (by omega) M0 (fun x x0 x1 => by omega) (fun _ _ _ => rfl)
/-- what prepare lays -/
def jPr (C M M' : jM) (a b lv tm wg : Int) : Prop :=
  jSe C M' a b lv tm wg ∧ M' 22 0 7 = spr C a b tm ∧ M' 22 0 8 = -1 ∧ M' 22 0 9 = -1 ∧ M' 22 0 6 = 0 ∧ M' 22 0 11 = M 22 0 11 ∧ (∀ x, 0 ≤ x → x < 6 → M' 20 6 x = -2) ∧ ∀ x y, ¬ (x = 20 ∨ x = 21 ∨ x = 22) → M' x y = M x y
theorem c_prepare {C M : jM} {a b lv tm wg : Int} (hL : jLV C) (hA : jTl C a) (hB : jTl C b) (hlv : 0 ≤ lv ∧ lv < 3) (h19 : M 19 = C 19) (hMa : M a = C a) (hMb : M b = C b) (hz : ∀ c, 0 ≤ c → c < 100 → M 21 7 c = 0) :
    jCallP 4 155 [.inr (22, 0), .inr (a, 0), .inr (b, 0), .inl lv, .inl tm, .inl wg] M (fun _ M' => jPr C M M' a b lv tm wg) := by
  obtain ⟨ha, hNa, hKa, hOa⟩ := id hA
  obtain ⟨hb, hNb, hKb, hOb⟩ := id hB
  have b1 := hNa.1
  have b2 := hNb.1
  refine jstart (by decide) rfl (fX5_prepare_0 ⟨ha, hb, ?_⟩)
  generalize hM0 : jup (jup M 22 0 2 a) 22 0 3 b = M0
  have g0 : ∀ x y, ¬ (x = 22 ∧ y = 0) → M0 x y = M x y := fun x y h => by rw [← hM0, jup_set, jset_ne h, jup_set, jset_ne h]
  have g2 : M0 22 0 2 = a := by rw [← hM0, jup_ne (by simp), jup_eq]
  have g3 : M0 22 0 3 = b := by rw [← hM0, jup_eq]
  have g11 : M0 22 0 11 = M 22 0 11 := by rw [← hM0, jup_ne (by simp), jup_ne (by simp)]
  refine jcq (c_take (tm := tm) (wg := wg) hA hB hL hlv (by funext y; rw [g0 _ _ (by simp), h19]) (by funext y; rw [g0 _ _ (by omega), hMa]) (by funext y; rw [g0 _ _ (by omega), hMb])) (by decide) ?_
  rintro r1 M1 ⟨hR, f1⟩
  have e22 : ∀ y, M1 22 y = M0 22 y := fun y => f1 22 y (by simp)
  have e21 : M1 21 7 = M 21 7 := by rw [f1 21 7 (by simp), g0 _ _ (by simp)]
  have eM : ∀ x y, ¬ (x = 20 ∨ x = 21 ∨ x = 22) → M1 x y = M x y := fun x y h => by rw [f1 x y (by omega), g0 x y (by omega)]
  have hT := hR.2.2.2.1.2.2.1
  have hR1 : ∀ M2 : jM, (∀ x y, ¬ (x = 20 ∧ y = 6) → ¬ (x = 22 ∧ (y = 0 ∨ y = 6)) → M2 x y = M1 x y) → jRdy C M2 a b lv tm wg := fun M2 h => by
    obtain ⟨r1, r2, r3, hT, hC, hH, h19, hMa, hMb⟩ := hR
    refine ⟨by rw [h 20 0 (by simp) (by simp), r1], by rw [h 20 0 (by simp) (by simp), r2], by rw [h 20 0 (by simp) (by simp), r3], ?_, fun i i0 i1 => ?_, fun q e q0 q1 e0 e1 => by rw [h 20 13 (by simp) (by simp)]; exact hH q e q0 q1 e0 e1, by funext y; rw [h _ _ (by simp) (by simp), h19], by funext y; rw [h _ _ (by omega) (by omega), hMa], by funext y; rw [h _ _ (by omega) (by omega), hMb]⟩
    · unfold jTm at hT ⊢
      rw [h 21 0 (by simp) (by simp), h 21 4 (by simp) (by simp), h 21 5 (by simp) (by simp)]
      exact hT
    · have := hC i i0 i1
      unfold jCmp at this ⊢
      rw [h 20 9 (by simp) (by simp), h 20 10 (by simp) (by simp), h 20 11 (by simp) (by simp), h 20 12 (by simp) (by simp)]
      exact this
  -- the sets of one sort
  have sets : ∀ M2 : jM, (∀ x y, ¬ (x = 22 ∧ (y = 0 ∨ y = 6)) → M2 x y = M1 x y) → M2 22 0 2 = a → M2 22 0 3 = b → jBl (M2 22 0 4) (¬ wg = 1) → M2 22 0 7 = spr C a b tm → M2 22 0 8 = -1 → M2 22 0 9 = -1 → M2 22 0 11 = M 22 0 11 → jWP 4 155 98 [some (.inr (22, 0)), none, none, none, none, none, some (.inl 0), none] [] M2 (fun _ M' => jPr C M M' a b lv tm wg) := by
    intro M2 q1 q2 q3 q4 q7 q8 q9 q11
    have outer : ∀ n, 0 ≤ n → n ≤ C a 0 0 → ∀ M3 : jM, (∀ x y, ¬ (x = 22 ∧ y = 6) → M3 x y = M2 x y) → (∀ x, 0 ≤ x → x < n → isM (M3 22 6 x) (fun y => y < C b 0 0 ∧ C a 4 x = C b 4 y)) → jWP 4 155 98 [some (.inr (22, 0)), none, none, none, none, none, some (.inl n), none] [] M3 (fun _ M' => jPr C M M' a b lv tm wg) := by
      refine jloop (e := C a 0 0) (fun M3 p1 p2 => ?_) (fun n n0 n1 ih M3 p1 p2 => ?_)
      · have e2 : M3 22 0 2 = a := by rw [p1 _ _ (by simp), q2]
        have ea : M3 a 0 0 = C a 0 0 := by rw [p1 _ _ (by omega), q1 _ _ (by omega), eM _ _ (by omega), hMa]
        refine fX5_prepare_98 ?_
        rw [e2, ea]
        refine ⟨ha, fun _ => ?_, fun q => by exfalso; omega⟩
        refine jcq (c_open M3) (by decide) ?_
        rintro r4 M4 ⟨u1, u2, u3, u4⟩
        have v22 : ∀ z, ¬ z = 6 → M4 22 0 z = M2 22 0 z := fun z h => by rw [u3 z h, p1 _ _ (by simp)]
        refine ⟨⟨hR1 M4 (fun x y h h' => by rw [u4 x y (by omega), p1 x y (by omega), q1 x y (by omega)]), ⟨by rw [v22 _ (by simp), q2], by rw [v22 _ (by simp), q3], by rw [v22 _ (by simp)]; exact q4, fun x x0 x1 => by rw [u4 22 6 (by simp)]; exact p2 x x0 x1⟩, fun c c0 c1 => by rw [u4 21 7 (by simp), p1 21 7 (by simp), q1 21 7 (by simp), e21, hz c c0 c1]⟩, by rw [v22 _ (by simp), q7], by rw [v22 _ (by simp), q8], by rw [v22 _ (by simp), q9], u2, by rw [v22 _ (by simp), q11], u1, fun x y h => by rw [u4 x y (by omega), p1 x y (by omega), q1 x y (by omega), eM x y h]⟩
      · have e2 : M3 22 0 2 = a := by rw [p1 _ _ (by simp), q2]
        have ea : M3 a 0 0 = C a 0 0 := by rw [p1 _ _ (by omega), q1 _ _ (by omega), eM _ _ (by omega), hMa]
        have bn : 0 ≤ n ∧ n < jal 22 6 := by rw [show jal 22 6 = 6 from rfl]; omega
        refine fX5_prepare_98 ?_
        rw [e2, ea]
        refine ⟨ha, fun q => by exfalso; omega, fun _ => ⟨bn, ?_⟩⟩
        have inner : ∀ m, 0 ≤ m → m ≤ C b 0 0 → ∀ M4 : jM, (∀ x y, ¬ (x = 22 ∧ y = 6) → M4 x y = M2 x y) → (∀ x, 0 ≤ x → x < n → isM (M4 22 6 x) (fun y => y < C b 0 0 ∧ C a 4 x = C b 4 y)) → isM (M4 22 6 n) (fun y => (y < C b 0 0 ∧ C a 4 n = C b 4 y) ∧ y < m) → jWP 4 155 121 [some (.inr (22, 0)), none, none, none, none, none, some (.inl n), some (.inl m)] [] M4 (fun _ M' => jPr C M M' a b lv tm wg) := by
          refine jloop (e := C b 0 0) (fun M4 s1 s2 s3 => ?_) (fun m m0 m1 ih2 M4 s1 s2 s3 => ?_)
          · have e3 : M4 22 0 3 = b := by rw [s1 _ _ (by simp), q3]
            have eb : M4 b 0 0 = C b 0 0 := by rw [s1 _ _ (by omega), q1 _ _ (by omega), eM _ _ (by omega), hMb]
            refine fX5_prepare_121 ?_
            rw [e3, eb]
            refine ⟨hb, fun _ => ?_, fun q => by exfalso; omega⟩
            rw [jwr_id (by omega) (by omega)]
            refine ih M4 s1 (fun x x0 x1 => ?_)
            by_cases u : x = n
            · rw [u]
              exact s3.congr (fun y _ _ => ⟨fun z => z.1, fun z => ⟨z, z.1⟩⟩)
            · exact s2 x x0 (by omega)
          · have e2 : M4 22 0 2 = a := by rw [s1 _ _ (by simp), q2]
            have e3 : M4 22 0 3 = b := by rw [s1 _ _ (by simp), q3]
            have ea : ∀ y, M4 a y = C a y := fun y => by rw [s1 _ _ (by omega), q1 _ _ (by omega), eM _ _ (by omega), hMa]
            have eb : ∀ y, M4 b y = C b y := fun y => by rw [s1 _ _ (by omega), q1 _ _ (by omega), eM _ _ (by omega), hMb]
            refine fX5_prepare_121 ?_
            rw [e3, e2, eb, eb, ea]
            refine ⟨hb, fun q => by exfalso; omega, fun _ => ⟨bn, ha, ⟨n0, by rw [jal_n4 ha]; omega⟩, hb, ⟨m0, by rw [jal_n4 hb]; omega⟩, fun q => ⟨bn, ?_⟩, fun q => ⟨bn, ?_⟩⟩⟩
            · rw [jwr_id (by omega) (by omega)]
              have hm := isM_more s3 m0 (by omega) (C a 4 n = C b 4 m) ⟨fun k => ⟨m1, k⟩, fun k => k.2⟩
              rw [if_neg q] at hm
              refine ih2 _ (fun x y h => by rw [jup_set, jset_ne h]; exact s1 x y h) (fun x x0 x1 => ?_) (by rw [jup_eq]; exact hm)
              rw [jup_ne (by simp; omega)]
              exact s2 x x0 x1
            · rw [jwr_id (by omega) (by omega)]
              have hm := isM_more s3 m0 (by omega) (C a 4 n = C b 4 m) ⟨fun k => ⟨m1, k⟩, fun k => k.2⟩
              rw [if_pos q] at hm
              refine ih2 _ (fun x y h => by rw [jup_set, jset_ne h]; exact s1 x y h) (fun x x0 x1 => ?_) (by rw [jup_eq]; exact hm)
              rw [jup_ne (by simp; omega)]
              exact s2 x x0 x1
        refine inner 0 (by omega) b2.1 _ (fun x y h => by rw [jup_set, jset_ne h]; exact p1 x y h) (fun x x0 x1 => ?_) ?_
        · rw [jup_ne (by simp; omega)]
          exact p2 x x0 x1
        · rw [jup_eq]
          exact isM_0.congr (fun y y0 _ => ⟨fun z => z.elim, fun z => by have := z.2; omega⟩)
    exact outer 0 (by omega) b1.1 M2 (fun _ _ _ => rfl) (fun x x0 x1 => by omega)
  have w2 : M1 22 0 2 = a := by rw [e22, g2]
  have w3 : M1 22 0 3 = b := by rw [e22, g3]
  have wa : M1 a 0 0 = C a 0 0 := by rw [eM _ _ (by omega), hMa]
  have wb : M1 b 0 0 = C b 0 0 := by rw [eM _ _ (by omega), hMb]
  have next : ∀ s0, (s0 = 0 ∨ s0 = 1) → jBl s0 (¬ wg = 1) → jWP 4 155 36 [some (.inr (22, 0)), none, none, none, none, none, none, none] [.inl s0, .inr (22, 0)] M1 (fun _ M' => jPr C M M' a b lv tm wg) := fun s0 hs0 hbl => by
    have t2 : jup M1 22 0 4 s0 22 0 2 = a := by rw [jup_ne (by simp), w2]
    have t3 : jup M1 22 0 4 s0 22 0 3 = b := by rw [jup_ne (by simp), w3]
    have ta : jup M1 22 0 4 s0 a 0 0 = C a 0 0 := by rw [jup_ne (by omega), wa]
    have tb : jup M1 22 0 4 s0 b 0 0 = C b 0 0 := by rw [jup_ne (by omega), wb]
    have tm2 : jup M1 22 0 4 s0 21 0 2 = M1 21 0 2 := by rw [jup_ne (by simp)]
    refine fX5_prepare_36 ⟨hs0, fun q => ?_, fun q => ?_⟩
    · rw [tm2] at q
      have hm : ¬ mat C a b tm := (jBl_eq hT).mp q
      rw [t2, t3, ta, tb, jwr_id (by omega) (by omega)]
      refine ⟨ha, hb, sets _ (fun x y h => ?_) ?_ ?_ ?_ ?_ ?_ ?_ ?_⟩
      · rw [jup_set, jset_ne (by omega), jup_set, jset_ne (by omega), jup_set, jset_ne (by omega), jup_set, jset_ne (by omega)]
      · rw [jup_ne (by simp), jup_ne (by simp), jup_ne (by simp), t2]
      · rw [jup_ne (by simp), jup_ne (by simp), jup_ne (by simp), t3]
      · rw [jup_ne (by simp), jup_ne (by simp), jup_ne (by simp), jup_eq]; exact hbl
      · rw [jup_ne (by simp), jup_ne (by simp), jup_eq]
        unfold spr
        rw [if_neg hm]
      · rw [jup_ne (by simp), jup_eq]
      · rw [jup_eq]
      · rw [jup_ne (by simp), jup_ne (by simp), jup_ne (by simp), jup_ne (by simp), e22, g11]
    · rw [tm2] at q
      have hm : mat C a b tm := (jBl_ne hT).mp q
      rw [t2, ta]
      refine ⟨ha, sets _ (fun x y h => ?_) ?_ ?_ ?_ ?_ ?_ ?_ ?_⟩
      · rw [jup_set, jset_ne (by omega), jup_set, jset_ne (by omega), jup_set, jset_ne (by omega), jup_set, jset_ne (by omega)]
      · rw [jup_ne (by simp), jup_ne (by simp), jup_ne (by simp), t2]
      · rw [jup_ne (by simp), jup_ne (by simp), jup_ne (by simp), t3]
      · rw [jup_ne (by simp), jup_ne (by simp), jup_ne (by simp), jup_eq]; exact hbl
      · rw [jup_ne (by simp), jup_ne (by simp), jup_eq]
        unfold spr
        rw [if_pos hm]
      · rw [jup_ne (by simp), jup_eq]
      · rw [jup_eq]
      · rw [jup_ne (by simp), jup_ne (by simp), jup_ne (by simp), jup_ne (by simp), e22, g11]
  exact ⟨fun q => next 0 (Or.inl rfl) (Or.inr ⟨rfl, fun k => k q⟩), fun q => next 1 (Or.inr rfl) (Or.inl ⟨rfl, q⟩)⟩
