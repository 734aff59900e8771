/-! arrive, place -/
theorem c_keepPartners (M : jM) : jCallP 0 161 [.inr (22, 0)] M (fun _ M' => (∀ x, 0 ≤ x → x < 6 → M' 22 11 x = M 20 6 x) ∧ ∀ x y, ¬ (x = 22 ∧ y = 11) → M' x y = M x y) := by
  refine jstart (by decide) rfl (fX5_keepPartners_0 ⟨?_, fun x x0 x1 => jcp_eq x0 x1, fun x y h => jcp_ne h⟩)
  rw [jal_20_6, show jal 22 11 = 6 from rfl]
  omega
/-- what a full row changes -/
def jArr (C M M' : jM) (a b lv wg tm : Int) (q : Int → Int) : Prop :=
  (∀ z, ¬ (z = 8 ∨ z = 9 ∨ z = 12) → M' 22 0 z = M 22 0 z) ∧
  (M 22 0 11 = 0 → btr C a b lv wg tm q (M 22 0 8) (M 22 0 9) → M' 22 0 8 = wth C a b lv wg tm q ∧ M' 22 0 9 = prs C a q ∧ M' 22 0 12 = M 22 0 12 ∧ ∀ x, 0 ≤ x → x < C a 0 0 → M' 22 11 x = q x) ∧
  (poor C M a b lv wg tm q → M' 22 0 8 = M 22 0 8 ∧ M' 22 0 9 = M 22 0 9 ∧ M' 22 0 12 = M 22 0 12 ∧ M' 22 11 = M 22 11) ∧
  (¬ M 22 0 11 = 0 → ¬ poor C M a b lv wg tm q → M' 22 0 8 = M 22 0 8 ∧ M' 22 0 9 = M 22 0 9 ∧ M' 22 0 12 = M 22 0 12 + 1 ∧ ∀ x, 0 ≤ x → x < C a 0 0 → M' 22 11 x = q x)
theorem c_arrive {C M : jM} {a b lv tm wg : Int} {q : Int → Int} (hGa : jGood C a) (hGb : jGood C b) (hSa : jSr C a) (hS : jSe C M a b lv tm wg) (hv : vld C a b q) (hP : ∀ x, 0 ≤ x → x < C a 0 0 → M 20 6 x = q x) (hT : isM (M 22 0 6) (tkn q (C a 0 0))) (hl : ¬ M 22 0 11 = 0 → 0 ≤ M 22 0 12 ∧ M 22 0 12 ≤ 2000000) :
    jCallP 3 160 [.inr (22, 0)] M (fun _ M' => jArr C M M' a b lv wg tm q ∧ ∀ x y, ¬ ((x = 20 ∧ (y = 7 ∨ y = 8)) ∨ (x = 22 ∧ (y = 0 ∨ y = 11))) → M' x y = M x y) := by
  obtain ⟨⟨ha, hNa, hKa, hOa⟩, hEa, hHa, -, -⟩ := id hGa
  obtain ⟨⟨hb, hNb, hKb, hOb⟩, hEb, hHb, -, -⟩ := id hGb
  obtain ⟨hR, hO, hz⟩ := hS
  obtain ⟨s2, s3, -, -⟩ := id hO
  have hMa : M a = C a := hR.2.2.2.2.2.2.2.1
  have b1 := hNa.1
  have b2 := hNb.1
  have hp : pre C a b q (C a 0 0) := ⟨fun x x0 x1 => by rcases hv.1 x with e | e <;> omega, fun x y _ _ _ _ h e => hv.2 x y h e⟩
  refine jstart (by decide) rfl (fX5_arrive_0 ?_)
  refine jcq (c_settle (C := C) (lv := lv) (wg := wg) (tm := tm) (p := q) hGa.1 hGb.1 hEa hHa hR (fun x x0 x1 => ⟨hP x x0 x1, by rcases hv.1 x with e | e <;> omega⟩)) (by decide) ?_
  rintro r1 M1 ⟨e1, -, f1⟩
  have f22 : ∀ y, M1 22 y = M 22 y := fun y => f1 22 y (by simp)
  rw [f22, s2, f1 a 0 (by omega), hMa]
  refine ⟨ha, ?_⟩
  have hO1 : jSo C M1 a b wg := by unfold jSo at hO ⊢; rw [f22, f22]; exact hO
  refine jcq (c_sortHope (p := q) (k := C a 0 0) ha hb hNa hNb hSa (by funext y; rw [f1 a y (by omega), hMa]) hO1 ⟨b1.1, by omega⟩ hp (fun x x0 x1 => by rw [f1 20 6 (by simp)]; exact hP x x0 x1) (by rw [f22]; exact hT)) (by decide) ?_
  rintro r2 M2 ⟨k1, k2, rfl⟩
  refine jcq (c_bitCount (x := M2 22 0 6) (by rw [f22]; exact hT) (tkn_6 hp b2.2)) (by decide) ?_
  rintro r3 M3 ⟨e3, rfl⟩
  have eW : r1 + r2 = wth C a b lv wg tm q := by
    have := (k2 q hv (fun _ _ _ => rfl)).2 rfl
    unfold wth
    rw [this, e1]
  have eP : r3 = prs C a q := by rw [e3, (prs_le (k := C a 0 0) hNa hNb hv ⟨b1.1, by omega⟩ (fun _ _ _ => rfl)).2.2 rfl]
  have wb := wth_bd (b := b) (lv := lv) (wg := wg) (tm := tm) hNa hHa q
  rw [eW, jwr_id (z := wth C a b lv wg tm q) (by omega) (by omega), f22 0, eP]
  -- nothing changes
  have same : poor C M a b lv wg tm q → (jArr C M M3 a b lv wg tm q ∧ ∀ x y, ¬ ((x = 20 ∧ (y = 7 ∨ y = 8)) ∨ (x = 22 ∧ (y = 0 ∨ y = 11))) → M3 x y = M x y) := fun h => by
    refine ⟨⟨fun z _ => by rw [f22], fun h1 h2 => ?_, fun _ => by rw [f22, f22]; exact ⟨rfl, rfl, rfl, rfl⟩, fun _ h2 => absurd h h2⟩, fun x y hxy => f1 x y (fun z => hxy (Or.inl z))⟩
    rcases h with h | h
    · exact absurd h2 h.2
    · exact absurd h1 h.1
  have better : M 22 0 11 = 0 → btr C a b lv wg tm q (M 22 0 8) (M 22 0 9) → ∀ M4 : jM, ((∀ x, 0 ≤ x → x < 6 → M4 22 11 x = (jup (jup M3 22 0 8 (wth C a b lv wg tm q)) 22 0 9 (prs C a q)) 20 6 x) ∧ ∀ x y, ¬ (x = 22 ∧ y = 11) → M4 x y = (jup (jup M3 22 0 8 (wth C a b lv wg tm q)) 22 0 9 (prs C a q)) x y) → (jArr C M M4 a b lv wg tm q ∧ ∀ x y, ¬ ((x = 20 ∧ (y = 7 ∨ y = 8)) ∨ (x = 22 ∧ (y = 0 ∨ y = 11))) → M4 x y = M x y) := fun h1 h2 M4 ⟨g1, g2⟩ => by
    have e0 := g2 22 0 (by simp)
    refine ⟨⟨fun z hz' => ?_, fun _ _ => ⟨?_, ?_, ?_, fun x x0 x1 => ?_⟩, fun h => ?_, fun h => absurd h1 h⟩, fun x y hxy => ?_⟩
    · rw [e0, jup_ne (by simp; omega), jup_ne (by simp; omega), f22]
    · rw [e0, jup_ne (by simp), jup_eq]
    · rw [e0, jup_eq]
    · rw [e0, jup_ne (by simp), jup_ne (by simp), f22]
    · rw [g1 x x0 (by omega), jup_ne (by simp), jup_ne (by simp), f1 20 6 (by simp), hP x x0 x1]
    · rcases h with h | h
      · exact absurd h2 h.2
      · exact absurd h1 h.1
    · rw [g2 x y (fun z => hxy (Or.inr ⟨z.1, Or.inr z.2⟩)), jup_set, jset_ne (fun z => hxy (Or.inr ⟨z.1, Or.inl z.2⟩)), jup_set, jset_ne (fun z => hxy (Or.inr ⟨z.1, Or.inl z.2⟩)), f1 x y (fun z => hxy (Or.inl z))]
  have onemore : ¬ M 22 0 11 = 0 → ¬ poor C M a b lv wg tm q → ∀ M4 : jM, ((∀ x, 0 ≤ x → x < 6 → M4 22 11 x = (jup M3 22 0 12 (jwr (M 22 0 12 + 1))) 20 6 x) ∧ ∀ x y, ¬ (x = 22 ∧ y = 11) → M4 x y = (jup M3 22 0 12 (jwr (M 22 0 12 + 1))) x y) → (jArr C M M4 a b lv wg tm q ∧ ∀ x y, ¬ ((x = 20 ∧ (y = 7 ∨ y = 8)) ∨ (x = 22 ∧ (y = 0 ∨ y = 11))) → M4 x y = M x y) := fun h1 h2 M4 ⟨g1, g2⟩ => by
    have e0 := g2 22 0 (by simp)
    have := hl h1
    rw [jwr_id (by omega) (by omega)] at e0 g1 g2
    refine ⟨⟨fun z hz' => ?_, fun h => absurd h h1, fun h => absurd h h2, fun _ _ => ⟨?_, ?_, ?_, fun x x0 x1 => ?_⟩⟩, fun x y hxy => ?_⟩
    · rw [e0, jup_ne (by simp; omega), f22]
    · rw [e0, jup_ne (by simp), f22]
    · rw [e0, jup_ne (by simp), f22]
    · rw [e0, jup_eq]
    · rw [g1 x x0 (by omega), jup_ne (by simp), f1 20 6 (by simp), hP x x0 x1]
    · rw [g2 x y (fun z => hxy (Or.inr ⟨z.1, Or.inr z.2⟩)), jup_set, jset_ne (fun z => hxy (Or.inr ⟨z.1, Or.inl z.2⟩)), f1 x y (fun z => hxy (Or.inl z))]
  refine ⟨fun z => ⟨fun z2 => ?_, fun z2 => ⟨fun z3 => same (Or.inl ⟨z, fun w => ?_⟩), fun z3 => ⟨fun z4 => same (Or.inl ⟨z, fun w => ?_⟩), fun z4 => ?_⟩⟩⟩, fun z => ⟨fun z2 => same (Or.inr ⟨z, Or.inr (fun w => z2 w.1)⟩), fun z2 => ⟨fun z3 => same (Or.inr ⟨z, Or.inr (fun w => z3 w.2)⟩), fun z3 => ⟨fun z4 => ?_, fun z4 => ⟨fun z5 => same (Or.inr ⟨z, Or.inl ⟨z4, z5⟩⟩), fun z5 => ?_⟩⟩⟩⟩⟩
  · exact jcq (c_keepPartners _) (by decide) (fun r M4 h => better z (Or.inl z2) M4 h)
  · unfold btr at w; omega
  · unfold btr at w; omega
  · exact jcq (c_keepPartners _) (by decide) (fun r M4 h => better z (Or.inr ⟨z3, z4⟩) M4 h)
  · refine jcq (c_keepPartners _) (by decide) (fun r M4 h => onemore z (fun w => ?_) M4 h)
    rcases w with w | w
    · exact z w.1
    · rcases w.2 with w | w
      · exact w.1 z4
      · exact w ⟨z2, z3⟩
  · refine jcq (c_keepPartners _) (by decide) (fun r M4 h => onemore z (fun w => ?_) M4 h)
    rcases w with w | w
    · exact z w.1
    · rcases w.2 with w | w
      · omega
      · exact w ⟨z2, z3⟩
theorem digit_in {C : jM} {a b lo hi : Int} {p q : Int → Int} (nb : C b 0 0 ≤ 6) (hv : vld C a b q) {k j : Nat} (hp : ∀ x, p x < 9) (hp1 : ∀ x : Int, 0 ≤ x → x < k → -1 ≤ p x) (l0 : 0 ≤ lo) (h10 : hi ≤ 10) (h0 : (10 * num p k + lo) * 10 ^ j ≤ num q (k + 1 + j)) (h1 : num q (k + 1 + j) < (10 * num p k + hi) * 10 ^ j) : (∀ x : Int, 0 ≤ x → x < k → q x = p x) ∧ lo ≤ cod9 (q k) ∧ cod9 (q k) < hi := by
  have hq : ∀ x, q x < 9 := fun x => by rcases hv.1 x with e | e <;> omega
  have hb := num_bd hq (k + 1) j
  have hpos : (0 : Int) ≤ 10 ^ j := Int.le_of_lt (Int.pow_pos (by omega))
  have a1 := Int.lt_of_mul_lt_mul_right (Int.lt_of_le_of_lt h0 hb.2) hpos
  have a2 := Int.lt_of_mul_lt_mul_right (Int.lt_of_le_of_lt hb.1 h1) hpos
  have c1 := cod9_bd (hq k)
  have e : num q (k + 1) = 10 * num q k + cod9 (q k) := rfl
  refine ⟨fun x x0 x1 => ?_, by omega, by omega⟩
  have := num_inj hq hp k (by omega) x x0 x1
  have h2 := hp x
  have h3 := hq x
  have h4 := hp1 x x0 x1
  unfold cod9 at this
  rcases hv.1 x with e | e
  · split at this <;> split at this <;> omega
  · split at this <;> split at this <;> omega
