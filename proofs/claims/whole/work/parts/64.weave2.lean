/-! the weaving, as a row of worlds -/
noncomputable def brg (D : jM) (g i k m : Int) : jM := jup (fopM D k (nE D (D g 6 (3 * i))) (nE D (D g 6 (3 * i + 1))) (nE D (D g 6 (3 * i + 2))) m) 26 7 i (fopN D k (nE D (D g 6 (3 * i))) (nE D (D g 6 (3 * i + 1))) (nE D (D g 6 (3 * i + 2))))
def jWk (D : jM) : Prop := jGood D 14 ∧ jUq D 14 ∧ jSr D 14 ∧ (∀ x, 0 ≤ x → x < 6 → -1 ≤ D 26 6 x ∧ D 26 6 x < D 14 0 0) ∧ (∀ i, 0 ≤ i → i < 14 → -1 ≤ D 26 7 i ∧ D 26 7 i < D 14 0 1)
/-- what weaving leaves as it was -/
def wFr (D D' : jM) : Prop := (∀ x y, ¬ (x = 14 ∧ (y = 0 ∨ y = 5 ∨ y = 6 ∨ y = 7 ∨ y = 8)) → ¬ (x = 26 ∧ y = 7) → D' x y = D x y) ∧ D' 14 0 0 = D 14 0 0 ∧ D' 14 0 2 = D 14 0 2
theorem wFr.trans {D D' D'' : jM} (h : wFr D D') (h' : wFr D' D'') : wFr D D'' := ⟨fun x y a b => by rw [h'.1 x y a b, h.1 x y a b], by rw [h'.2.1, h.2.1], by rw [h'.2.2, h.2.2]⟩
theorem fop_fr (D : jM) (k x y z m : Int) : wFr D (fopM D k x y z m) ∧ (fopM D k x y z m) 26 7 = D 26 7 := by
  unfold fopM
  by_cases u : ¬ fnd D 14 k x y z = -1
  · rw [if_pos u]; exact ⟨⟨fun _ _ _ _ => rfl, rfl, rfl⟩, rfl⟩
  · rw [if_neg u]
    by_cases v : D 14 0 1 < 14
    · rw [if_pos v]
      have r := jput_r (M := D) (g := 14) (k := k) (x := x) (y := y) (z := z) (m := m)
      exact ⟨⟨fun x y h _ => jput_at h, r.1, r.2.2.1⟩, jput_at (by simp)⟩
    · rw [if_neg v]; exact ⟨⟨fun _ _ _ _ => rfl, rfl, rfl⟩, rfl⟩
theorem brg_fr (D : jM) (g i k m : Int) : wFr D (brg D g i k m) := by
  unfold brg
  have h := fop_fr D k (nE D (D g 6 (3 * i))) (nE D (D g 6 (3 * i + 1))) (nE D (D g 6 (3 * i + 2))) m
  exact ⟨fun x y a b => by rw [jup_set, jset_ne b]; exact h.1.1 x y a b, by rw [jup_ne (by simp)]; exact h.1.2.1, by rw [jup_ne (by simp)]; exact h.1.2.2⟩
theorem brg_26 (D : jM) (g i k m : Int) : (∀ j, ¬ j = i → brg D g i k m 26 7 j = D 26 7 j) ∧ brg D g i k m 26 7 i = fopN D k (nE D (D g 6 (3 * i))) (nE D (D g 6 (3 * i + 1))) (nE D (D g 6 (3 * i + 2))) ∧ brg D g i k m 14 = fopM D k (nE D (D g 6 (3 * i))) (nE D (D g 6 (3 * i + 1))) (nE D (D g 6 (3 * i + 2))) m 14 := by
  unfold brg
  have h := fop_fr D k (nE D (D g 6 (3 * i))) (nE D (D g 6 (3 * i + 1))) (nE D (D g 6 (3 * i + 2))) m
  exact ⟨fun j hj => by rw [jup_ne (by simp [hj]), h.2], by rw [jup_eq], by funext y; rw [jup_set, jset_ne (by simp)]⟩
theorem nE_ok {D : jM} {g i k q : Int} (hW : jWk D) (hE : jEs D g) (hC : jEc D g) (hN : D g 0 0 ≤ 6 ∧ D g 0 1 ≤ 14) (hi : 0 ≤ i ∧ i < D g 0 1) (hs : D 19 1 k = D 19 1 (D g 5 i)) (ha : aE D g i) (hq : 0 ≤ q ∧ q < 3) : eOk D 14 k (nE D (D g 6 (3 * i + q))) q := by
  obtain ⟨⟨⟨-, ⟨n1, n2⟩, -⟩, -⟩, -, -, h6, h7⟩ := hW
  have e1 := hE i q hi.1 hi.2 hq.1 hq.2
  have e2 := hC i q hi.1 hi.2 hq.1 hq.2
  have e3 := ha q hq.1 hq.2
  rw [← hs] at e2
  generalize D g 6 (3 * i + q) = e at e1 e2 e3
  have e4 : e = -1 → nE D e = -1 := fun h => by unfold nE; rw [if_pos (by omega)]
  have rng : -1 ≤ nE D e ∧ (nE D e < 10 → nE D e < D 14 0 0) ∧ nE D e < 10 + D 14 0 1 := by
    unfold nE
    by_cases u : e < 0
    · rw [if_pos u]; omega
    · rw [if_neg u]
      by_cases v : e < 6
      · rw [if_pos v]
        have := h6 e (by omega) v
        omega
      · rw [if_neg v]
        by_cases w : (10 ≤ e ∧ e < 24) ∧ ¬ D 26 7 (e - 10) = -1
        · rw [if_pos w]
          have := h7 (e - 10) (by omega) (by omega)
          omega
        · rw [if_neg w]; omega
  refine ⟨rng.1, rng.2.1, rng.2.2, ?_⟩
  constructor
  · intro h
    rcases e3 with e3 | e3
    · exact e2.mp e3
    · exact absurd h e3
  · intro h
    exact e4 (e2.mpr h)
theorem brg_wk {D : jM} {g i k m : Int} (hW : jWk D) (hg : ¬ g = 14) (hE : jEs D g) (hC : jEc D g) (hN : D g 0 0 ≤ 6 ∧ D g 0 1 ≤ 14) (hi : 0 ≤ i ∧ i < D g 0 1) (hs : D 19 1 k = D 19 1 (D g 5 i)) (ha : aE D g i) (hk : isK k) (hm : -1 ≤ m ∧ m < 10) : jWk (brg D g i k m) ∧ D 14 0 1 ≤ brg D g i k m 14 0 1 := by
  have o0 := nE_ok (q := 0) hW hE hC hN hi hs ha (by omega)
  rw [Int.add_zero] at o0
  have o1 := nE_ok (q := 1) hW hE hC hN hi hs ha (by omega)
  have o2 := nE_ok (q := 2) hW hE hC hN hi hs ha (by omega)
  obtain ⟨f1, f2, f3⟩ := brg_fr D g i k m
  obtain ⟨b1, b2, b3⟩ := brg_26 D g i k m
  obtain ⟨hG, hU, hS, h6, h7⟩ := hW
  have n14 := hG.1.2.1.2
  generalize hx : nE D (D g 6 (3 * i)) = x at o0 b2 b3
  generalize hy : nE D (D g 6 (3 * i + 1)) = y at o1 b2 b3
  generalize hz : nE D (D g 6 (3 * i + 2)) = z at o2 b2 b3
  have e19 : brg D g i k m 19 = D 19 := by funext b; exact f1 19 b (by simp) (by simp)
  have e4 : brg D g i k m 14 4 = D 14 4 := f1 14 4 (by simp) (by simp)
  have e6 : brg D g i k m 26 6 = D 26 6 := f1 26 6 (by simp) (by simp)
  have fin : ∀ F : jM, brg D g i k m 14 = F 14 → F 19 = D 19 → jGood F 14 → jUq F 14 → D 14 0 1 ≤ F 14 0 1 → (-1 ≤ fopN D k x y z ∧ fopN D k x y z < F 14 0 1) → jWk (brg D g i k m) ∧ D 14 0 1 ≤ brg D g i k m 14 0 1 := fun F eF eF9 hGF hUF hle hNF => by
    refine ⟨⟨good_agr (by rw [e19, eF9]) (agr_fx eF) (by omega) hGF, uq_agr (by rw [e19, eF9]) (agr_fx eF) hUF, fun c c0 c1 => ?_, fun c c0 c1 => ?_, fun c c0 c1 => ?_⟩, ?_⟩
    · rw [f2] at c1; rw [e4]; exact hS c c0 c1
    · rw [e6, f2]; exact h6 c c0 c1
    · rw [show brg D g i k m 14 0 1 = F 14 0 1 by rw [eF]]
      by_cases u : c = i
      · rw [u, b2]; exact hNF
      · rw [b1 c u]; have := h7 c c0 c1; omega
    · rw [eF]; exact hle
  unfold fopM at b3
  unfold fopN at fin
  by_cases u : ¬ fnd D 14 k x y z = -1
  · rw [if_pos u] at b3 fin
    have fb := jfst_bd (mtie D 14 k x y z) (D 14 0 1).toNat
    exact fin D b3 rfl hG hU (Int.le_refl _) (by unfold fnd; omega)
  · rw [if_neg u] at b3 fin
    by_cases v : D 14 0 1 < 14
    · rw [if_pos v] at b3 fin
      have r := jput_r (M := D) (g := 14) (k := k) (x := x) (y := y) (z := z) (m := m)
      have hf : fnd D 14 k x y z = -1 := Classical.byContradiction (fun q => u q)
      exact fin _ b3 (by funext b; exact jput_at (by simp)) (put_good hG v hk hm o0 o1 o2) (put_uq (by omega) hU n14.1 hf) (by omega) (by omega)
    · rw [if_neg v] at b3 fin
      exact fin D b3 rfl hG hU (Int.le_refl _) (by omega)
noncomputable def wv (g : Int) (P : Int → Prop) (K Mo : Int → Int) (D : jM) : Nat → jM
  | 0 => D
  | n + 1 => @ite jM (P n ∧ aE (wv g P K Mo D n) g n) (Classical.propDecidable _) (brg (wv g P K Mo D n) g n (K n) (Mo n)) (wv g P K Mo D n)
theorem wv_yes {g : Int} {P : Int → Prop} {K Mo : Int → Int} {D : jM} {n : Nat} (h : P n ∧ aE (wv g P K Mo D n) g n) : wv g P K Mo D (n + 1) = brg (wv g P K Mo D n) g n (K n) (Mo n) := if_pos h
theorem wv_no {g : Int} {P : Int → Prop} {K Mo : Int → Int} {D : jM} {n : Nat} (h : ¬ (P n ∧ aE (wv g P K Mo D n) g n)) : wv g P K Mo D (n + 1) = wv g P K Mo D n := if_neg h
theorem wv_fr (g : Int) (P : Int → Prop) (K Mo : Int → Int) (D : jM) : ∀ n : Nat, wFr D (wv g P K Mo D n)
  | 0 => ⟨fun _ _ _ _ => rfl, rfl, rfl⟩
  | n + 1 => by
    have ih := wv_fr g P K Mo D n
    by_cases h : P n ∧ aE (wv g P K Mo D n) g n
    · rw [wv_yes h]; exact ih.trans (brg_fr _ _ _ _ _)
    · rw [wv_no h]; exact ih
/-- what weaving from tale g asks for -/
def wOk (g : Int) (P : Int → Prop) (K Mo : Int → Int) (D : jM) : Prop := (0 ≤ g ∧ g < 14) ∧ jGood D g ∧ ∀ i, 0 ≤ i → i < D g 0 1 → P i → isK (K i) ∧ D 19 1 (K i) = D 19 1 (D g 5 i) ∧ -1 ≤ Mo i ∧ Mo i < 10
theorem wv_wk {g : Int} {P : Int → Prop} {K Mo : Int → Int} {D : jM} (hO : wOk g P K Mo D) (hW : jWk D) : ∀ n : Nat, (n : Int) ≤ D g 0 1 → jWk (wv g P K Mo D n) ∧ D 14 0 1 ≤ wv g P K Mo D n 14 0 1
  | 0, _ => ⟨hW, Int.le_refl _⟩
  | n + 1, hn => by
    have ih := wv_wk hO hW n (by omega)
    obtain ⟨f1, f2, f3⟩ := wv_fr g P K Mo D n
    obtain ⟨hg, hG, hP⟩ := hO
    have eg : wv g P K Mo D n g = D g := by funext y; exact f1 g y (by omega) (by omega)
    have e19 : wv g P K Mo D n 19 = D 19 := by funext y; exact f1 19 y (by simp) (by simp)
    by_cases h : P n ∧ aE (wv g P K Mo D n) g n
    · rw [wv_yes h]
      obtain ⟨p1, p2, p3⟩ := hP n (by omega) (by omega) h.1
      have hG' := good_agr e19 (agr_fx eg) (by omega) hG
      have := brg_wk ih.1 (by omega) hG'.2.1 hG'.2.2.2.2 ⟨hG'.1.2.1.1.2, hG'.1.2.1.2.2⟩ ⟨by omega, by rw [eg]; omega⟩ (by rw [e19, eg]; exact p2) h.2 p1 p3
      exact ⟨this.1, by omega⟩
    · rw [wv_no h]; exact ih
/-! the class keeps the ends of a tie in a row of its own -/
def eqo (M D : jM) : Prop := ∀ x y, ¬ (x = 26 ∧ y = 9) → M x y = D x y
theorem eqo.set {M D : jM} (h : eqo M D) (g : Int) (k : Nat) (f : Int → Int) : eqo (jset M g k f) (jset D g k f) := fun x y q => by
  unfold jset
  rw [h x y q]
theorem eqo.fop {M D : jM} (h : eqo M D) (k x y z m : Int) : fopN M k x y z = fopN D k x y z ∧ eqo (fopM M k x y z m) (fopM D k x y z m) := by
  have e14 : M 14 = D 14 := by funext y; exact h 14 y (by simp)
  have e19 : M 19 = D 19 := by funext y; exact h 19 y (by simp)
  have hf := fnd_fx (g := 14) e14 e19 k x y z
  have hp : eqo (jput M 14 k x y z m) (jput D 14 k x y z m) := by
    have ht : hTie M 14 x y z = hTie D 14 x y z := by unfold hTie hEnd; rw [e14]
    unfold jput
    rw [e14, ht]
    exact ((((h.set _ _ _).set _ _ _).set _ _ _).set _ _ _).set _ _ _
  unfold fopN fopM
  rw [hf, e14]
  refine ⟨rfl, ?_⟩
  by_cases u : ¬ fnd D 14 k x y z = -1
  · rw [if_pos u, if_pos u]; exact h
  · rw [if_neg u, if_neg u]
    by_cases v : D 14 0 1 < 14
    · rw [if_pos v, if_pos v]; exact hp
    · rw [if_neg v, if_neg v]; exact h
theorem bring_eqo {M D : jM} {g i k m : Int} (h : eqo M D) (he : ∀ q, 0 ≤ q → q < 3 → M 26 9 q = nE D (D g 6 (3 * i + q))) : fopN M k (M 26 9 0) (M 26 9 1) (M 26 9 2) = brg D g i k m 26 7 i ∧ eqo (jup (fopM M k (M 26 9 0) (M 26 9 1) (M 26 9 2) m) 26 7 i (fopN M k (M 26 9 0) (M 26 9 1) (M 26 9 2))) (brg D g i k m) := by
  have h0 := he 0 (by omega) (by omega)
  rw [Int.add_zero] at h0
  rw [h0, he 1 (by omega) (by omega), he 2 (by omega) (by omega)]
  have hf := h.fop k (nE D (D g 6 (3 * i))) (nE D (D g 6 (3 * i + 1))) (nE D (D g 6 (3 * i + 2))) m
  refine ⟨by rw [hf.1, (brg_26 D g i k m).2.1], ?_⟩
  unfold brg
  rw [hf.1, jup_set, jup_set, hf.2 26 7 (by simp)]
  exact hf.2.set _ _ _
