/-! rows as numbers; isHopeful, arrive -/
theorem cP_img {P : Int → Prop} {f : Int → Int} {m : Nat} : ∀ n : Nat, (∀ x : Int, 0 ≤ x → x < n → P x → 0 ≤ f x ∧ f x < m) → (∀ x y : Int, 0 ≤ x → x < n → 0 ≤ y → y < n → P x → P y → f x = f y → x = y) → cP P n = cP (fun y => ∃ x : Int, 0 ≤ x ∧ x < n ∧ P x ∧ f x = y) m
  | 0, _, _ => (cP_z m (fun y _ _ u => by obtain ⟨x, x0, x1, -⟩ := u; omega)).symm
  | n + 1, h, hi => by
    have ih := cP_img (P := P) (f := f) (m := m) n (fun x x0 x1 => h x x0 (by omega)) (fun x y x0 x1 y0 y1 => hi x y x0 (by omega) y0 (by omega))
    by_cases q : P n
    · obtain ⟨f0, f1⟩ := h n (by omega) (by omega) q
      rw [cP_yes q, ih, ← cP_add (U := fun y => ∃ x : Int, 0 ≤ x ∧ x < n ∧ P x ∧ f x = y) f0 (fun z => by
        obtain ⟨x, x0, x1, x2, x3⟩ := z
        have := hi x n x0 (by omega) (by omega) (by omega) x2 q x3
        omega) m f1]
      refine cP_congr m (fun j _ _ => ⟨fun z => ?_, fun z => ?_⟩)
      · rcases z with ⟨x, x0, x1, x2⟩ | z
        · exact ⟨x, x0, by omega, x2⟩
        · exact ⟨n, by omega, by omega, q, z.symm⟩
      · obtain ⟨x, x0, x1, x2, x3⟩ := z
        by_cases e : x = n
        · exact Or.inr (by rw [← x3, e])
        · exact Or.inl ⟨x, x0, by omega, x2, x3⟩
    · rw [cP_no q, ih]
      refine cP_congr m (fun j _ _ => ⟨fun z => ?_, fun z => ?_⟩)
      · obtain ⟨x, x0, x1, x2⟩ := z
        exact ⟨x, x0, by omega, x2⟩
      · obtain ⟨x, x0, x1, x2, x3⟩ := z
        have : ¬ x = n := fun e => q (by rw [← e]; exact x2)
        exact ⟨x, x0, by omega, x2, x3⟩
theorem cP_more {P : Int → Prop} {k : Nat} : ∀ n : Nat, k ≤ n → cP P k ≤ cP P n ∧ cP P n ≤ cP P k + (n - k)
  | 0, h => by rw [show k = 0 by omega]; omega
  | n + 1, h => by
    by_cases q : k = n + 1
    · subst q; omega
    · have ih := cP_more (P := P) (k := k) n (by omega)
      rw [cP_succ]
      split <;> omega
def cod9 (v : Int) : Int := if v < 0 then 9 else v
def num (q : Int → Int) : Nat → Int
  | 0 => 0
  | n + 1 => 10 * num q n + cod9 (q n)
theorem num_congr {q q' : Int → Int} : ∀ n : Nat, (∀ x : Int, 0 ≤ x → x < n → q x = q' x) → num q n = num q' n
  | 0, _ => rfl
  | n + 1, h => by
    unfold num
    rw [num_congr n (fun x x0 x1 => h x x0 (by omega)), h n (by omega) (by omega)]
theorem cod9_bd {v : Int} (h : v < 9) : 0 ≤ cod9 v ∧ cod9 v ≤ 9 := by
  unfold cod9
  split <;> omega
theorem num_bd {q : Int → Int} (h : ∀ x, q x < 9) (k : Nat) : ∀ j : Nat, num q k * 10 ^ j ≤ num q (k + j) ∧ num q (k + j) < (num q k + 1) * 10 ^ j
  | 0 => by
    rw [Int.pow_zero, Nat.add_zero]
    omega
  | j + 1 => by
    have ih := num_bd h k j
    have hc := cod9_bd (h (k + j : Nat))
    rw [show k + (j + 1) = (k + j) + 1 by omega, Int.pow_succ, ← Int.mul_assoc, ← Int.mul_assoc]
    show _ ≤ 10 * num q (k + j) + cod9 (q (k + j : Nat)) ∧ 10 * num q (k + j) + cod9 (q (k + j : Nat)) < _
    omega
theorem num_inj {q q' : Int → Int} (h : ∀ x, q x < 9) (h' : ∀ x, q' x < 9) : ∀ n : Nat, num q n = num q' n → ∀ x : Int, 0 ≤ x → x < n → cod9 (q x) = cod9 (q' x)
  | 0, _, x, x0, x1 => by omega
  | n + 1, e, x, x0, x1 => by
    unfold num at e
    have c1 := cod9_bd (h n)
    have c2 := cod9_bd (h' n)
    by_cases y : x = n
    · subst y
      omega
    · exact num_inj h h' n (by omega) x x0 (by omega)
theorem num_in {q p : Int → Int} (h : ∀ x, q x < 9) {k j : Nat} (h0 : num p k * 10 ^ j ≤ num q (k + j)) (h1 : num q (k + j) < (num p k + 1) * 10 ^ j) : num q k = num p k := by
  have hb := num_bd h k j
  have hp : (0 : Int) ≤ 10 ^ j := Int.le_of_lt (Int.pow_pos (by omega))
  have a1 := Int.lt_of_mul_lt_mul_right (Int.lt_of_le_of_lt h0 hb.2) hp
  have a2 := Int.lt_of_mul_lt_mul_right (Int.lt_of_le_of_lt hb.1 h1) hp
  omega
noncomputable def wth (C : jM) (a b lv wg tm : Int) (q : Int → Int) : Int := wsum C a b wg (ans C a b lv wg tm q) (C a 0 1).toNat + srt C a b wg q
noncomputable def prs (C : jM) (a : Int) (q : Int → Int) : Int := cP (fun x => 0 ≤ q x) (C a 0 0).toNat
def btr (C : jM) (a b lv wg tm : Int) (q : Int → Int) (w p : Int) : Prop := w < wth C a b lv wg tm q ∨ (wth C a b lv wg tm q = w ∧ p < prs C a q)
/-- what changes nothing -/
def poor (C M : jM) (a b lv wg tm : Int) (q : Int → Int) : Prop := (M 22 0 11 = 0 ∧ ¬ btr C a b lv wg tm q (M 22 0 8) (M 22 0 9)) ∨ (¬ M 22 0 11 = 0 ∧ ((¬ M 22 0 13 = -1 ∧ M 22 0 13 < M 22 0 12) ∨ ¬ (wth C a b lv wg tm q = M 22 0 8 ∧ prs C a q = M 22 0 9)))
def jSe (C M : jM) (a b lv tm wg : Int) : Prop := jRdy C M a b lv tm wg ∧ jSo C M a b wg ∧ ∀ c, 0 ≤ c → c < 100 → M 21 7 c = 0
theorem srt_bd {C : jM} {a b wg : Int} (hNa : jNB C a) (q : Int → Int) : 0 ≤ srt C a b wg q ∧ srt C a b wg q ≤ 6 := by
  unfold srt
  have := cP_bd (mts C a b q) (C a 0 0).toNat
  have := hNa.1
  split <;> omega
theorem wth_bd {C : jM} {a b lv wg tm : Int} (hNa : jNB C a) (hHa : jHs C a) (q : Int → Int) : 0 ≤ wth C a b lv wg tm q ∧ wth C a b lv wg tm q ≤ 1200 := by
  have h1 := wsum_bd (C := C) (a := a) (b := b) (wg := wg) (A := ans C a b lv wg tm q) hHa (C a 0 1).toNat (by have := hNa.2; omega)
  have h2 := srt_bd (b := b) (wg := wg) hNa q
  have := hNa.2
  unfold wth
  omega
theorem vld_cmpl {C : jM} {a b k : Int} {p q : Int → Int} (nb : C b 0 0 ≤ 6) (hv : vld C a b q) (hx : ∀ x, 0 ≤ x → x < k → q x = p x) (hp : pre C a b p k) (ho : ∀ x, k ≤ x → p x = -2) : cmpl C a b p q (tkn p k) := by
  refine ⟨fun x x0 x1 => ⟨fun h => ?_, fun h => ?_⟩, fun x x0 x1 => ?_⟩
  · rcases hv.1 x with e | ⟨-, -, e1, e2⟩
    · exact Or.inl e
    · refine Or.inr ⟨e1, e2, fun z => ?_⟩
      obtain ⟨-, x', x0', x1', e3⟩ := z
      rw [← hx x' x0' x1'] at e3
      have := hv.2 x x' e1 e3.symm
      subst this
      have h1 := hp.1 x x0 x1'
      omega
  · by_cases y : x < k
    · exact hx x x0 y
    · exact absurd (ho x (by omega)) h
  · rcases hv.1 x with e | ⟨-, -, e1, e2⟩ <;> omega
theorem prs_le {C : jM} {a b k : Int} {p q : Int → Int} (hNa : jNB C a) (hNb : jNB C b) (hv : vld C a b q) (hk : 0 ≤ k ∧ k ≤ C a 0 0) (hx : ∀ x, 0 ≤ x → x < k → q x = p x) : prs C a q ≤ cP (tkn p k) 6 + (C a 0 0 - k) ∧ prs C a q ≤ C b 0 0 ∧ (k = C a 0 0 → prs C a q = cP (tkn p k) 6) := by
  have b1 := hNa.1
  have b2 := hNb.1
  have e1 : cP (fun x => 0 ≤ q x) k.toNat = cP (tkn p k) 6 := by
    rw [cP_img (f := q) (m := 6) k.toNat (fun x x0 x1 h => by rcases hv.1 x with e | e <;> omega) (fun x y _ _ _ _ h _ h' => hv.2 x y h h')]
    refine cP_congr 6 (fun y y0 y1 => ⟨fun z => ?_, fun z => ?_⟩)
    · obtain ⟨x, x0, x1, x2, x3⟩ := z
      exact ⟨y0, x, x0, by omega, by rw [← hx x x0 (by omega)]; exact x3⟩
    · obtain ⟨-, x, x0, x1, x3⟩ := z
      rw [← hx x x0 x1] at x3
      exact ⟨x, x0, by omega, by omega, x3⟩
  have e2 := (cP_more (P := fun x => 0 ≤ q x) (k := k.toNat) (C a 0 0).toNat (by omega)).2
  have e3 := cP_img (P := fun x => 0 ≤ q x) (f := q) (m := (C b 0 0).toNat) (C a 0 0).toNat (fun x x0 x1 h => by rcases hv.1 x with e | e <;> omega) (fun x y _ _ _ _ h _ h' => hv.2 x y h h')
  have e4 := cP_bd (fun y => ∃ x : Int, 0 ≤ x ∧ x < (C a 0 0).toNat ∧ 0 ≤ q x ∧ q x = y) (C b 0 0).toNat
  unfold prs
  refine ⟨by omega, by omega, fun e => ?_⟩
  rw [← e, e1]
theorem tkn_6 {C : jM} {a b k : Int} {p : Int → Int} (hp : pre C a b p k) (nb : C b 0 0 ≤ 6) (j : Int) (h : tkn p k j) : j < 6 := by
  obtain ⟨h0, x, x0, x1, e⟩ := h
  have := hp.1 x x0 x1
  omega
theorem c_isHopeful {C M : jM} {a b lv tm wg k : Int} {p : Int → Int} (hL : jLV C) (hGa : jGood C a) (hGb : jGood C b) (hSa : jSr C a) (hS : jSe C M a b lv tm wg) (hk : 0 ≤ k ∧ k ≤ C a 0 0) (hp : pre C a b p k) (ho : ∀ x, k ≤ x → p x = -2) (hP : ∀ x, 0 ≤ x → x < 6 → M 20 6 x = p x) (hT : isM (M 22 0 6) (tkn p k)) :
    jCallP 3 158 [.inr (22, 0), .inl k] M (fun r M' => (r = 0 → ∀ q, vld C a b q → (∀ x, 0 ≤ x → x < k → q x = p x) → poor C M a b lv wg tm q) ∧ (∀ c, 0 ≤ c → c < 100 → M' 21 7 c = 0) ∧ ∀ x y, ¬ ((x = 20 ∧ (y = 8 ∨ y = 14)) ∨ (x = 21 ∧ (y = 7 ∨ y = 8))) → M' x y = M x y) := by
  obtain ⟨⟨ha, hNa, hKa, hOa⟩, hEa, hHa, -, -⟩ := id hGa
  obtain ⟨⟨hb, hNb, hKb, hOb⟩, hEb, hHb, -, -⟩ := id hGb
  obtain ⟨hR, hO, hz⟩ := hS
  obtain ⟨s2, s3, -, -⟩ := id hO
  have hMa : M a = C a := hR.2.2.2.2.2.2.2.1
  have hMb : M b = C b := hR.2.2.2.2.2.2.2.2
  have b1 := hNa.1
  have b2 := hNb.1
  refine jstart (by decide) rfl (fX5_isHopeful_0 ?_)
  refine jcq (c_bitCount hT (tkn_6 hp b2.2)) (by decide) ?_
  rintro r1 M1 ⟨e1, rfl⟩
  rw [s2, s3, hMa, hMb]
  refine ⟨ha, hb, ?_⟩
  refine jcq (c_hope (p := p) (tk := tkn p k) hL hGa hGb hR (fun x x0 x1 => ⟨hP x x0 (by omega), ?_⟩) hT hz) (by decide) ?_
  · by_cases y : x < k
    · have := hp.1 x x0 y; omega
    · have := ho x (by omega); omega
  rintro r2 M2 ⟨h1, h2, h3, h4⟩
  have f22 : ∀ y, M2 22 y = M1 22 y := fun y => h4 22 y (by simp)
  have hO2 : jSo C M2 a b wg := by unfold jSo at hO ⊢; rw [f22, f22]; exact hO
  refine jcq (c_sortHope (p := p) (k := k) ha hb hNa hNb hSa (by funext y; rw [h4 a y (by omega), hMa]) hO2 hk hp (fun x x0 x1 => by rw [h4 20 6 (by simp)]; exact hP x x0 (by omega)) (by rw [f22]; exact hT)) (by decide) ?_
  rintro r3 M3 ⟨k1, k2, rfl⟩
  rw [f22 0]
  have c6 := cP_bd (tkn p k) 6
  have ub : ∀ q, vld C a b q → (∀ x, 0 ≤ x → x < k → q x = p x) → wth C a b lv wg tm q ≤ r2 + r3 ∧ prs C a q ≤ r1 + (if C b 0 0 - r1 < C a 0 0 - k then C b 0 0 - r1 else C a 0 0 - k) := fun q hv hx => by
    have u1 := h2 q (vld_cmpl b2.2 hv hx hp ho)
    have u2 := (k2 q hv hx).1
    have u3 := prs_le hNa hNb hv hk hx
    unfold wth
    refine ⟨by omega, ?_⟩
    split <;> omega
  generalize hpq : r1 + (if C b 0 0 - r1 < C a 0 0 - k then C b 0 0 - r1 else C a 0 0 - k) = pq at ub
  have bpq : -100 ≤ pq ∧ pq ≤ 100 := by
    rw [← hpq]
    split <;> omega
  rw [jwr_id (z := C b 0 0 - r1) (by omega) (by omega), jwr_id (z := C a 0 0 - k) (by omega) (by omega), hpq, jwr_id (z := pq) (by omega) (by omega), jwr_id (z := r2 + r3) (by omega) (by omega)]
  have fin0 : ∀ g, (∀ q, vld C a b q → (∀ x, 0 ≤ x → x < k → q x = p x) → poor C M1 a b lv wg tm q) → g = (0 : Int) → ((g = 0 → ∀ q, vld C a b q → (∀ x, 0 ≤ x → x < k → q x = p x) → poor C M1 a b lv wg tm q) ∧ (∀ c, 0 ≤ c → c < 100 → M3 21 7 c = 0) ∧ ∀ x y, ¬ ((x = 20 ∧ (y = 8 ∨ y = 14)) ∨ (x = 21 ∧ (y = 7 ∨ y = 8))) → M3 x y = M1 x y) := fun g h _ => ⟨fun _ => h, h3, h4⟩
  have fin1 : ∀ g, g = (1 : Int) → ((g = 0 → ∀ q, vld C a b q → (∀ x, 0 ≤ x → x < k → q x = p x) → poor C M1 a b lv wg tm q) ∧ (∀ c, 0 ≤ c → c < 100 → M3 21 7 c = 0) ∧ ∀ x y, ¬ ((x = 20 ∧ (y = 8 ∨ y = 14)) ∨ (x = 21 ∧ (y = 7 ∨ y = 8))) → M3 x y = M1 x y) := fun g e => ⟨fun z => by omega, h3, h4⟩
  have lst : ¬ M1 22 0 11 = 0 → jWP 3 158 76 [some (.inr (22, 0)), none, some (.inl pq), some (.inl (r2 + r3))] [] M3 (fun r M' => (r = 0 → ∀ q, vld C a b q → (∀ x, 0 ≤ x → x < k → q x = p x) → poor C M1 a b lv wg tm q) ∧ (∀ c, 0 ≤ c → c < 100 → M' 21 7 c = 0) ∧ ∀ x y, ¬ ((x = 20 ∧ (y = 8 ∨ y = 14)) ∨ (x = 21 ∧ (y = 7 ∨ y = 8))) → M' x y = M1 x y) := fun hl => by
    refine fX5_isHopeful_76 ?_
    rw [f22 0]
    exact ⟨fun z => ⟨Or.inl rfl, fin0 0 (fun q hv hx => Or.inr ⟨hl, Or.inr (fun w => by have := ub q hv hx; omega)⟩) rfl⟩, fun z => ⟨fun z2 => ⟨Or.inl rfl, fin0 0 (fun q hv hx => Or.inr ⟨hl, Or.inr (fun w => by have := ub q hv hx; omega)⟩) rfl⟩, fun z2 => ⟨Or.inr rfl, fin1 1 rfl⟩⟩⟩
  refine ⟨fun z => ⟨fun z2 => ⟨Or.inr rfl, fin1 1 rfl⟩, fun z2 => ⟨fun z3 => ⟨Or.inl rfl, fin0 0 (fun q hv hx => Or.inl ⟨z, fun w => ?_⟩) rfl⟩, fun z3 => ⟨fun z4 => ⟨Or.inl rfl, fin0 0 (fun q hv hx => Or.inl ⟨z, fun w => ?_⟩) rfl⟩, fun z4 => ⟨Or.inr rfl, fin1 1 rfl⟩⟩⟩⟩, fun z => ⟨fun _ => lst z, fun z2 => ⟨fun z3 => ⟨Or.inl rfl, fin0 0 (fun q hv hx => Or.inr ⟨z, Or.inl ⟨z2, z3⟩⟩) rfl⟩, fun _ => lst z⟩⟩⟩
  · have := ub q hv hx
    unfold btr at w
    omega
  · have := ub q hv hx
    unfold btr at w
    omega
