/-! likeness, mostAnswering, list, digits -/
theorem k_place {C M : jM} {a b lv tm wg : Int} {F : jM → Int → Prop} {K : Int → jM → Prop} (hL : jLV C) (hGa : jGood C a) (hGb : jGood C b) (hSa : jSr C a) (hF : jPh C a b lv wg tm (spr C a b tm) F) (hS : jSe C M a b lv tm wg) (h7 : M 22 0 7 = spr C a b tm) (h6 : M 22 0 6 = 0) (hP : ∀ x, 0 ≤ x → x < 6 → M 20 6 x = -2) (h0 : F M 0)
    (k : ∀ r M', F M' (10 ^ (C a 0 0).toNat) → jFr M M' → (∀ x, 0 ≤ x → x < 6 → M' 20 6 x = -2) → M' 22 0 6 = 0 → K r M') : jCall 11 157 [.inr (22, 0), .inl 0, .inl 0] M K := by
  have b1 := hGa.1.2.1.1
  have z : ∀ y, tkn (fun _ => -2) ((0 : Nat) : Int) y ↔ False := fun y => ⟨fun q => by obtain ⟨-, x, x0, x1, -⟩ := q; omega, fun q => q.elim⟩
  have hT : isM (0 : Int) (tkn (fun _ => -2) ((0 : Nat) : Int)) := isM_0.congr (fun y _ _ => (z y).symm)
  refine jcq (c_place hL hGa hGb hSa hF (C a 0 0).toNat 0 M (fun _ => -2) (by omega) hS h7 ⟨fun x x0 x1 => by omega, fun x y x0 x1 => by omega⟩ (fun _ _ => rfl) hP (by rw [h6]; exact hT) (spr_0 b1.1) ?_) (by omega) ?_
  · rw [show num (fun _ => -2) 0 = 0 from rfl, Int.zero_mul]
    exact h0
  · rintro r M' ⟨g1, g2, g3, g4⟩
    rw [show num (fun _ => -2) 0 = 0 from rfl, Int.zero_add, Int.one_mul] at g1
    exact k r M' g1 g2 g3 (g4.unique hT)
/-- the likeness, as the search finds it -/
def isL (C : jM) (a b lv tm wg : Int) (R : Int → Int) : Prop := vld C a b R ∧ C a 0 0 - prs C a R ≤ spr C a b tm ∧ ∀ q, vld C a b q → C a 0 0 - prs C a q ≤ spr C a b tm → ¬ btr C a b lv wg tm q (wth C a b lv wg tm R) (prs C a R) ∧ (wth C a b lv wg tm q = wth C a b lv wg tm R → prs C a q = prs C a R → num R (C a 0 0).toNat ≤ num q (C a 0 0).toNat)
theorem isL_of {C M : jM} {a b lv tm wg : Int} (hNa : jNB C a) (hNb : jNB C b) (hHa : jHs C a) (h : jBst C a b lv wg tm (spr C a b tm) (-1) (-1) M (10 ^ (C a 0 0).toNat)) : M 22 0 11 = 0 ∧ ∃ R, isL C a b lv tm wg R ∧ (∀ x, 0 ≤ x → x < C a 0 0 → M 22 11 x = R x) ∧ M 22 0 8 = wth C a b lv wg tm R ∧ M 22 0 9 = prs C a R := by
  have b1 := hNa.1
  have b2 := hNb.1
  have lt : ∀ q, vld C a b q → num q (C a 0 0).toNat < 10 ^ (C a 0 0).toNat := fun q hv => (num_lt (fun x => by rcases hv.1 x with e | e <;> omega) _).2
  refine ⟨h.1, ?_⟩
  rcases h.2 with ⟨-, -, h⟩ | ⟨R, ⟨r1, r2, r3, r4, r5⟩, hR⟩
  · obtain ⟨q, q1, q2⟩ := ex_row (C := C) (a := a) (b := b) (tm := tm) b1.1 b2.1
    have := h q q1 q2 (lt q q1)
    have wb := wth_bd (b := b) (lv := lv) (wg := wg) (tm := tm) hNa hHa q
    unfold btr at this
    omega
  · exact ⟨R, ⟨r1, r2, fun q h1 h2 => r5 q h1 h2 (lt q h1)⟩, hR⟩
def jLk (C M M' : jM) (a b lv tm wg : Int) (R : Int → Int) : Prop :=
  isL C a b lv tm wg R ∧ jSe C M' a b lv tm wg ∧ M' 22 0 7 = spr C a b tm ∧ M' 22 0 8 = wth C a b lv wg tm R ∧ M' 22 0 9 = prs C a R ∧ M' 22 0 11 = 0 ∧ (∀ x, 0 ≤ x → x < C a 0 0 → M' 22 11 x = R x) ∧ ∀ x y, ¬ (x = 20 ∨ x = 21 ∨ x = 22) → M' x y = M x y
theorem c_likeness {C M : jM} {a b lv tm : Int} (hL : jLV C) (hGa : jGood C a) (hGb : jGood C b) (hSa : jSr C a) (hlv : 0 ≤ lv ∧ lv < 3) (h19 : M 19 = C 19) (hMa : M a = C a) (hMb : M b = C b) (hz : ∀ c, 0 ≤ c → c < 100 → M 21 7 c = 0) (h11 : M 22 0 11 = 0) :
    jCallP 11 150 [.inr (22, 0), .inr (a, 0), .inr (b, 0), .inl lv, .inl tm] M (fun r M' => ∃ R, jLk C M M' a b lv tm 0 R ∧ r = wth C a b lv 0 tm R ∧ (∀ x, 0 ≤ x → x < C a 0 0 → M' 20 6 x = R x) ∧ ∀ i, 0 ≤ i → i < C a 0 1 → M' 20 7 i = ans C a b lv 0 tm R i) := by
  obtain ⟨⟨ha, hNa, hKa, hOa⟩, hEa, hHa, -, -⟩ := id hGa
  obtain ⟨⟨hb, hNb, hKb, hOb⟩, hEb, hHb, -, -⟩ := id hGb
  have b1 := hNa.1
  have b2 := hNb.1
  refine jstart (by decide) rfl (fX5_likeness_0 ?_)
  refine jcq (c_prepare (C := C) hL hGa.1 hGb.1 hlv h19 hMa hMb hz) (by decide) ?_
  rintro r1 M1 ⟨hS, p7, p8, p9, p6, p11, pP, pf⟩
  refine k_place hL hGa hGb hSa (jBst_ph (w0 := -1) (p0 := -1) b2.2) hS p7 p6 pP ⟨by rw [p11, h11], Or.inl ⟨p8, p9, fun q hv _ hn => ?_⟩⟩ ?_
  · have := (num_lt (q := q) (fun x => by rcases hv.1 x with e | e <;> omega) (C a 0 0).toNat).1
    omega
  intro r2 M2 g1 g2 g3 g4
  obtain ⟨g11, R, hR, hR2, g8, g9⟩ := isL_of hNa hNb hHa g1
  have hS2 := hS.fr ha hb g2
  have f3 : ∀ x y, ¬ (x = 20 ∧ y = 6) → (jcp M2 22 11 0 20 6 0 6) x y = M2 x y := fun x y h => jcp_ne h
  have fr3 : jFr M2 (jcp M2 22 11 0 20 6 0 6) := ⟨fun x y h => f3 x y (fun z => h (by omega)), fun z _ => by rw [f3 22 0 (by simp)], fun w => by rw [f3 21 7 (by simp)]; exact w⟩
  have hS3 := hS2.fr ha hb fr3
  have e6 : ∀ x, 0 ≤ x → x < C a 0 0 → (jcp M2 22 11 0 20 6 0 6) 20 6 x = R x := fun x x0 x1 => by rw [jcp_eq x0 (by omega), hR2 x x0 x1]
  refine ⟨by rw [jal_20_6, show jal 22 11 = 6 from rfl]; omega, ?_⟩
  refine jcq (c_settle (C := C) (lv := lv) (wg := 0) (tm := tm) (p := R) hGa.1 hGb.1 hEa hHa hS3.1 (fun x x0 x1 => ⟨e6 x x0 x1, by rcases hR.1.1 x with e | e <;> omega⟩)) (by decide) ?_
  rintro r3 M3 ⟨k1, k2, k3⟩
  have fr4 : jFr (jcp M2 22 11 0 20 6 0 6) M3 := ⟨fun x y h => k3 x y (fun z => h (by omega)), fun z _ => by rw [k3 22 0 (by simp)], fun w => by rw [k3 21 7 (by simp)]; exact w⟩
  have e22 : ∀ y, M3 22 y = M2 22 y := fun y => by rw [k3 22 y (by simp), f3 22 y (by simp)]
  refine ⟨R, ⟨hR, hS3.fr ha hb fr4, ?_, by rw [e22, g8], by rw [e22, g9], by rw [e22, g11], fun x x0 x1 => by rw [e22]; exact hR2 x x0 x1, fun x y h => ?_⟩, by rw [e22, g8], fun x x0 x1 => by rw [k3 20 6 (by simp)]; exact e6 x x0 x1, fun i i0 i1 => (k2 i i0 i1).1⟩
  · rw [e22, g2.2.1 7 (by simp), p7]
  · rw [k3 x y (by omega), f3 x y (by omega), g2.1 x y (by omega), pf x y h]
theorem c_mostAnswering {C M : jM} {a b tm : Int} (hL : jLV C) (hGa : jGood C a) (hGb : jGood C b) (hSa : jSr C a) (h19 : M 19 = C 19) (hMa : M a = C a) (hMb : M b = C b) (hz : ∀ c, 0 ≤ c → c < 100 → M 21 7 c = 0) (h11 : M 22 0 11 = 0) :
    jCallP 11 153 [.inr (22, 0), .inr (a, 0), .inr (b, 0), .inl tm] M (fun r M' => ∃ R, jLk C M M' a b 0 tm 1 R ∧ r = wth C a b 0 1 tm R) := by
  obtain ⟨⟨ha, hNa, hKa, hOa⟩, hEa, hHa, -, -⟩ := id hGa
  obtain ⟨⟨hb, hNb, hKb, hOb⟩, hEb, hHb, -, -⟩ := id hGb
  have b1 := hNa.1
  have b2 := hNb.1
  refine jstart (by decide) rfl (fX5_mostAnswering_0 ?_)
  refine jcq (c_prepare (C := C) hL hGa.1 hGb.1 (by omega) h19 hMa hMb hz) (by decide) ?_
  rintro r1 M1 ⟨hS, p7, p8, p9, p6, p11, pP, pf⟩
  refine k_place hL hGa hGb hSa (jBst_ph (w0 := -1) (p0 := -1) b2.2) hS p7 p6 pP ⟨by rw [p11, h11], Or.inl ⟨p8, p9, fun q hv _ hn => ?_⟩⟩ ?_
  · have := (num_lt (q := q) (fun x => by rcases hv.1 x with e | e <;> omega) (C a 0 0).toNat).1
    omega
  intro r2 M2 g1 g2 g3 g4
  obtain ⟨g11, R, hR, hR2, g8, g9⟩ := isL_of hNa hNb hHa g1
  exact ⟨R, ⟨hR, hS.fr ha hb g2, by rw [g2.2.1 7 (by simp), p7], g8, g9, g11, hR2, fun x y h => by rw [g2.1 x y (by omega), pf x y h]⟩, g8⟩
theorem c_digits {C M : jM} {a b : Int} {R : Int → Int} (ha : 0 ≤ a ∧ a < 18) (hNa : jNB C a) (nb : C b 0 0 ≤ 6) (hMa : M a = C a) (h2 : M 22 0 2 = a) (hv : vld C a b R) (h11 : ∀ x, 0 ≤ x → x < C a 0 0 → M 22 11 x = R x) :
    jCallP 0 152 [.inr (22, 0)] M (fun r M' => r = num R (C a 0 0).toNat ∧ M' = M) := by
  have b1 := hNa.1
  have hq : ∀ x, R x < 9 := fun x => by rcases hv.1 x with e | e <;> omega
  refine jstart (by decide) rfl (fX5_digits_0 ?_)
  have key : ∀ j n : Nat, ((n + j : Nat) : Int) = C a 0 0 → jWP 0 152 4 [some (.inr (22, 0)), some (.inl (num R n)), some (.inl (n : Int))] [] M (fun r M' => r = num R (C a 0 0).toNat ∧ M' = M) := by
    intro j
    induction j with
    | zero =>
      intro n hn
      refine fX5_digits_4 ?_
      rw [h2, hMa]
      exact ⟨ha, fun _ => ⟨by rw [show (C a 0 0).toNat = n by omega], rfl⟩, fun q => by exfalso; omega⟩
    | succ j ih =>
      intro n hn
      have l := num_lt hq n
      have p6 : (10 : Int) ^ n ≤ 10 ^ 6 := by
        have hn6 : n ≤ 6 := by omega
        rcases n with - | - | - | - | - | - | - | n
        all_goals first | omega | decide
      have cb := cod9_bd (hq n)
      have bn : 0 ≤ (n : Int) ∧ (n : Int) < jal 22 11 := by rw [show jal 22 11 = 6 from rfl]; omega
      have e : num R (n + 1) = 10 * num R n + cod9 (R n) := rfl
      have en : (n : Int) + 1 = ((n + 1 : Nat) : Int) := by omega
      have h10 : (10 : Int) ^ 6 = 1000000 := by decide
      have hi := ih (n + 1) (by omega)
      have hR := hv.1 n
      refine fX5_digits_4 ?_
      rw [h2, hMa, h11 n (by omega) (by omega)]
      refine ⟨ha, fun q => by exfalso; omega, fun _ => ⟨bn, fun q => ⟨bn, ?_⟩, fun q => ?_⟩⟩
      · have : cod9 (R n) = R n := by unfold cod9; rw [if_neg (by omega)]
        rw [jwr_id (z := num R n * 10) (by omega) (by omega), jwr_id (by omega) (by omega), jwr_id (by omega) (by omega), en, show num R n * 10 + R n = num R (n + 1) by omega]
        exact hi
      · have : cod9 (R n) = 9 := by unfold cod9; rw [if_pos (by omega)]
        rw [jwr_id (z := num R n * 10) (by omega) (by omega), jwr_id (by omega) (by omega), jwr_id (by omega) (by omega), en, show num R n * 10 + 9 = num R (n + 1) by omega]
        exact hi
  exact key (C a 0 0).toNat 0 (by omega)
