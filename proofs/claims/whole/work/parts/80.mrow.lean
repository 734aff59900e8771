/-! the reference: rows of digits in their order -/
theorem num_nines {q : Int → Int} (k : Nat) : ∀ j : Nat, (∀ x : Int, k ≤ x → x < k + j → q x < 0) → num q (k + j) = (num q k + 1) * 10 ^ j - 1
  | 0, _ => by rw [Int.pow_zero, Nat.add_zero]; omega
  | j + 1, h => by
    have ih := num_nines k j (fun x x0 x1 => h x x0 (by omega))
    rw [show k + (j + 1) = (k + j) + 1 by omega, Int.pow_succ, ← Int.mul_assoc]
    show 10 * num q (k + j) + cod9 (q (k + j : Nat)) = _
    rw [ih]
    have : cod9 (q ((k + j : Nat) : Int)) = 9 := by unfold cod9; rw [if_pos (h _ (by omega) (by omega))]
    omega
theorem num_zeros {q : Int → Int} (k : Nat) : ∀ j : Nat, (∀ x : Int, k ≤ x → x < k + j → q x = 0) → num q (k + j) = num q k * 10 ^ j
  | 0, _ => by rw [Int.pow_zero, Nat.add_zero]; omega
  | j + 1, h => by
    have ih := num_zeros k j (fun x x0 x1 => h x x0 (by omega))
    rw [show k + (j + 1) = (k + j) + 1 by omega, Int.pow_succ, ← Int.mul_assoc]
    show 10 * num q (k + j) + cod9 (q (k + j : Nat)) = _
    rw [ih]
    have : cod9 (q ((k + j : Nat) : Int)) = 0 := by rw [h _ (by omega) (by omega)]; rfl
    omega
theorem rw1_9 {C : jM} {a b : Int} {q : Int → Int} (nb : C b 0 0 ≤ 6) (h : rw1 C a b q) (x : Int) : q x < 9 := by
  rcases h x with e | e <;> omega
theorem rw1_num {C : jM} {a b : Int} {q q' : Int → Int} (nb : C b 0 0 ≤ 6) (hv : rw1 C a b q) (hv' : rw1 C a b q') (h : num q (C a 0 0).toNat = num q' (C a 0 0).toNat) : q = q' := by
  funext x
  have h1 := hv x
  have h2 := hv' x
  by_cases u : 0 ≤ x ∧ x < C a 0 0
  · have := num_inj (rw1_9 nb hv) (rw1_9 nb hv') _ h x u.1 (by omega)
    unfold cod9 at this
    split at this <;> split at this <;> omega
  · omega
def row0 (C : jM) (a b x : Int) : Int := if (0 ≤ x ∧ x < C a 0 0) ∧ 0 < C b 0 0 then 0 else -1
theorem row0_rw (C : jM) (a b : Int) : rw1 C a b (row0 C a b) := fun x => by
  unfold row0
  split
  · right; omega
  · left; rfl
theorem row0_min {C : jM} {a b : Int} {q : Int → Int} (nb : C b 0 0 ≤ 6) (hq : rw1 C a b q) : num (row0 C a b) (C a 0 0).toNat ≤ num q (C a 0 0).toNat := by
  by_cases u : 0 < C b 0 0
  · have z := num_zeros (q := row0 C a b) 0 (C a 0 0).toNat (fun x x0 x1 => by unfold row0; rw [if_pos ⟨by omega, u⟩])
    have b1 := num_bd (rw1_9 nb hq) 0 (C a 0 0).toNat
    rw [Nat.zero_add] at z b1
    rw [show num (row0 C a b) 0 = 0 from rfl] at z
    rw [show num q 0 = 0 from rfl] at b1
    omega
  · rw [num_congr (q := row0 C a b) (q' := q) (C a 0 0).toNat (fun x x0 x1 => by
      have := hq x
      unfold row0
      rw [if_neg (fun h => u h.2)]
      omega)]
    exact Int.le_refl _
theorem m_firstRow {C M : jM} {a b : Int} (hb : 0 ≤ b ∧ b < 14) (nb : 0 ≤ C b 0 0) (na : C a 0 0 ≤ 6) (hM : rT C M b) : jCallP 0 77 [.inr (28, 0), .inl a, .inl b] M (fun _ M' => mRow C M' a (row0 C a b) ∧ ∀ x y, ¬ (x = 28 ∧ y = 11) → M' x y = M x y) := by
  refine jstart (by decide) rfl (fX10_firstRow_0 ?_)
  have key : ∀ v, 0 ≤ v → v ≤ 6 → ∀ N : jM, (∀ x, 0 ≤ x → x < v → N 28 11 x = if 0 < C b 0 0 then 0 else 9) → (∀ x y, ¬ (x = 28 ∧ y = 11) → N x y = M x y) → jWP 0 77 2 [some (.inr (28, 0)), none, some (.inl b), some (.inl v)] [] N (fun _ M' => mRow C M' a (row0 C a b) ∧ ∀ x y, ¬ (x = 28 ∧ y = 11) → M' x y = M x y) := by
    refine jloop (e := 6) (fun N h f => ?_) (fun v v0 v1 ih N h f => ?_)
    · refine fX10_firstRow_2 ⟨fun _ => ⟨fun x x0 x1 => ?_, f⟩, fun z => by exfalso; omega⟩
      rw [h x x0 (by omega)]
      unfold row0
      by_cases u : 0 < C b 0 0
      · rw [if_pos u, if_pos ⟨⟨x0, x1⟩, u⟩]; rfl
      · rw [if_neg u, if_neg (fun q => u q.2)]; rfl
    · refine fX10_firstRow_2 ⟨fun z => by exfalso; omega, fun _ => ⟨by rw [jal_28_6]; omega, ?_⟩⟩
      rw [f 28 6 (by simp), hM.1, jwr_id (by omega) (by omega)]
      have nx : ∀ u, u = (if 0 < C b 0 0 then (0 : Int) else 9) → jWP 0 77 2 [some (.inr (28, 0)), none, some (.inl b), some (.inl (v + 1))] [] (jup N 28 11 v u) (fun _ M' => mRow C M' a (row0 C a b) ∧ ∀ x y, ¬ (x = 28 ∧ y = 11) → M' x y = M x y) := fun u hu => ih _ (fun x x0 x1 => by
        by_cases e : x = v
        · rw [e, jup_eq, hu]
        · rw [jup_ne (by omega)]; exact h x x0 (by omega)) (fun x y q => by rw [jup_set, jset_ne q, f x y q])
      have b11 : 0 ≤ v ∧ v < jal 28 11 := by rw [jal_28_11]; omega
      exact ⟨fun z => ⟨b11, nx 9 (by rw [if_neg (by omega)])⟩, fun z => ⟨b11, nx 0 (by rw [if_pos z])⟩⟩
  exact key 0 (by omega) (by omega) M (fun x x0 x1 => by omega) (fun _ _ _ => rfl)
/-- R' is the next row after R -/
def nxt (C : jM) (a b : Int) (R R' : Int → Int) : Prop := rw1 C a b R' ∧ num R (C a 0 0).toNat < num R' (C a 0 0).toNat ∧ ∀ q, rw1 C a b q → num q (C a 0 0).toNat < num R' (C a 0 0).toNat → num q (C a 0 0).toNat ≤ num R (C a 0 0).toNat
theorem m_nextRow {C M : jM} {a b : Int} {R : Int → Int} (hG : gd C a b) (hM : mR C M a b) (hw : rw1 C a b R) (hR : mRow C M a R) : jCallP 0 78 [.inr (28, 0), .inl a, .inl b] M (fun r M' => ((r = 1 ∧ ∃ R', nxt C a b R R' ∧ mRow C M' a R') ∨ (r = 0 ∧ ∀ q, rw1 C a b q → num q (C a 0 0).toNat ≤ num R (C a 0 0).toNat)) ∧ ∀ x y, ¬ (x = 28 ∧ y = 11) → M' x y = M x y) := by
  obtain ⟨-, hGa, hGb, ha, hb⟩ := hG
  have na1 := hGa.1.2.1.1
  have nb1 := hGb.1.2.1.1
  have ta := hM.2.1.1
  have tb := hM.2.2.1
  refine jstart (by decide) rfl (fX10_nextRow_0 ⟨by rw [jal_28_6]; omega, ?_⟩)
  rw [ta, jwr_id (by omega) (by omega)]
  have key : ∀ (i : Nat) (N : jM), (i : Int) ≤ C a 0 0 → (∀ c : Int, 0 ≤ c → c < i → N 28 11 c = nd (R c)) → (∀ c : Int, i ≤ c → c < C a 0 0 → R c = -1 ∧ N 28 11 c = if 0 < C b 0 0 then 0 else 9) → (∀ x y, ¬ (x = 28 ∧ y = 11) → N x y = M x y) → jWP 0 78 9 [some (.inr (28, 0)), none, some (.inl b), some (.inl ((i : Int) - 1))] [] N (fun r M' => ((r = 1 ∧ ∃ R', nxt C a b R R' ∧ mRow C M' a R') ∨ (r = 0 ∧ ∀ q, rw1 C a b q → num q (C a 0 0).toNat ≤ num R (C a 0 0).toNat)) ∧ ∀ x y, ¬ (x = 28 ∧ y = 11) → M' x y = M x y) := by
    intro i
    induction i with
    | zero =>
      intro N hi h1 h2 f
      refine fX10_nextRow_9 ⟨fun _ => fX10_nextRow_51 ⟨fun z => by exfalso; omega, fun _ => ⟨Or.inl rfl, Or.inr ⟨rfl, fun q hq => ?_⟩, f⟩⟩, fun z => by exfalso; omega⟩
      have n9 := num_nines (q := R) 0 (C a 0 0).toNat (fun x x0 x1 => by have := (h2 x x0 (by omega)).1; omega)
      have bq := num_bd (rw1_9 nb1.2 hq) 0 (C a 0 0).toNat
      rw [Nat.zero_add] at n9 bq
      rw [show num R 0 = 0 from rfl] at n9
      rw [show num q 0 = 0 from rfl] at bq
      omega
    | succ x ih =>
      intro N hi h1 h2 f
      have ex : ((x + 1 : Nat) : Int) - 1 = x := by omega
      rw [ex]
      have b11 : 0 ≤ (x : Int) ∧ (x : Int) < jal 28 11 := by rw [jal_28_11]; omega
      have bb : 0 ≤ b ∧ b < jal 28 6 := by rw [jal_28_6]; omega
      have rx := h1 x (by omega) (by omega)
      have wx := hw x
      refine fX10_nextRow_9 ⟨fun z => by exfalso; omega, fun _ => ⟨b11, fun z => ?_, fun z => ⟨bb, ?_⟩⟩⟩
      rotate_left
      · rw [rx] at z
        have hx : R x = -1 := by unfold nd at z; split at z <;> omega
        rw [f 28 6 (by simp), tb, jwr_id (by omega) (by omega)]
        have nx : ∀ u, u = (if 0 < C b 0 0 then (0 : Int) else 9) → jWP 0 78 9 [some (.inr (28, 0)), none, some (.inl b), some (.inl ((x : Int) + -1))] [] (jup N 28 11 x u) (fun r M' => ((r = 1 ∧ ∃ R', nxt C a b R R' ∧ mRow C M' a R') ∨ (r = 0 ∧ ∀ q, rw1 C a b q → num q (C a 0 0).toNat ≤ num R (C a 0 0).toNat)) ∧ ∀ x y, ¬ (x = 28 ∧ y = 11) → M' x y = M x y) := fun u hu => by
          refine ih _ (by omega) (fun c c0 c1 => by rw [jup_ne (by omega)]; exact h1 c c0 (by omega)) (fun c c0 c1 => ?_) (fun x y q => by rw [jup_set, jset_ne q, f x y q])
          by_cases e : c = x
          · rw [e, jup_eq]; exact ⟨hx, hu⟩
          · rw [jup_ne (by omega)]; exact h2 c (by omega) c1
        exact ⟨fun z2 => ⟨b11, nx 9 (by rw [if_neg (by omega)])⟩, fun z2 => ⟨b11, nx 0 (by rw [if_pos z2])⟩⟩
      · rw [rx] at z
        have hx : 0 ≤ R x ∧ R x < C b 0 0 := by
          rcases wx with e | e
          · rw [e] at z; exact absurd rfl z
          · omega
        have ndx : nd (R x) = R x := by unfold nd; rw [if_neg (by omega)]
        refine fX10_nextRow_51 ⟨fun _ => ⟨b11, bb, ?_⟩, fun z2 => by exfalso; omega⟩
        rw [rx, ndx, f 28 6 (by simp), tb, jwr_id (by omega) (by omega)]
        -- the next row
        have fin : ∀ v v' : Int, v = nd v' → ((v' = -1 ∧ C b 0 0 ≤ R x + 1) ∨ (v' = R x + 1 ∧ R x + 1 < C b 0 0)) → (((1 : Int) = 1 ∧ ∃ R', nxt C a b R R' ∧ mRow C (jup N 28 11 x v) a R') ∨ ((1 : Int) = 0 ∧ ∀ q, rw1 C a b q → num q (C a 0 0).toNat ≤ num R (C a 0 0).toNat)) ∧ ∀ y z, ¬ (y = 28 ∧ z = 11) → jup N 28 11 x v y z = M y z := by
          intro v v' hv hv'
          refine ⟨Or.inl ⟨rfl, fun c => if c < x then R c else if c = x then v' else if c < C a 0 0 then 0 else -1, ?_, ?_⟩, fun y z q => by rw [jup_set, jset_ne q, f y z q]⟩
          · generalize hR' : (fun c : Int => if c < x then R c else if c = x then v' else if c < C a 0 0 then 0 else -1) = R'
            have lo : ∀ c : Int, c < x → R' c = R c := fun c hc => by rw [← hR']; show (if c < x then _ else _) = _; rw [if_pos hc]
            have mi : R' x = v' := by rw [← hR']; show (if (x : Int) < x then _ else _) = _; rw [if_neg (by omega), if_pos rfl]
            have up : ∀ c : Int, x < c → c < C a 0 0 → R' c = 0 := fun c hc hc2 => by rw [← hR']; show (if c < x then _ else _) = _; rw [if_neg (by omega), if_neg (by omega), if_pos hc2]
            have ov : ∀ c : Int, C a 0 0 ≤ c → R' c = -1 := fun c hc => by rw [← hR']; show (if c < x then _ else _) = _; rw [if_neg (by omega), if_neg (by omega), if_neg (by omega)]
            have hw' : rw1 C a b R' := fun c => by
              by_cases c1 : c < x
              · rw [lo c c1]; exact hw c
              · by_cases c2 : c = x
                · rw [c2, mi]; omega
                · by_cases c3 : c < C a 0 0
                  · rw [up c (by omega) c3]; right; omega
                  · rw [ov c (by omega)]; left; rfl
            have eT : (C a 0 0).toNat = (x + 1) + ((C a 0 0).toNat - (x + 1)) := by omega
            generalize (C a 0 0).toNat - (x + 1) = j at eT
            have zR' := num_zeros (q := R') (x + 1) j (fun c c0 c1 => up c (by omega) (by omega))
            have nR := num_nines (q := R) (x + 1) j (fun c c0 c1 => by have := (h2 c (by omega) (by omega)).1; omega)
            have s : ∀ q : Int → Int, num q (x + 1) = 10 * num q x + cod9 (q x) := fun q => rfl
            have e1 : num R' x = num R x := num_congr x (fun c c0 c1 => lo c c1)
            have cR : cod9 (R x) = R x := by unfold cod9; rw [if_neg (by omega)]
            have cR' : (cod9 v' = 9 ∧ C b 0 0 ≤ R x + 1) ∨ (cod9 v' = R x + 1 ∧ R x + 1 < C b 0 0) := by
              unfold cod9
              rcases hv' with h | h
              · rw [if_pos (by omega)]; exact Or.inl ⟨rfl, h.2⟩
              · rw [if_neg (by omega)]; exact Or.inr ⟨h.1, h.2⟩
            have p10 : (0 : Int) < 10 ^ j := Int.pow_pos (by omega)
            have sR := s R
            have sR' := s R'
            rw [mi, e1] at sR'
            rw [cR] at sR
            refine ⟨hw', ?_, fun q hq hl => ?_⟩
            · rw [eT, zR', nR]
              have := Int.mul_le_mul_of_nonneg_right (show num R (x + 1) + 1 ≤ num R' (x + 1) by omega) (Int.le_of_lt p10)
              omega
            · rw [eT] at hl ⊢
              apply Classical.byContradiction
              intro hn
              have bq := num_bd (rw1_9 nb1.2 hq) (x + 1) j
              have l1 : (num R (x + 1) + 1) * 10 ^ j < (num q (x + 1) + 1) * 10 ^ j := by omega
              have l2 := Int.lt_of_mul_lt_mul_right l1 (Int.le_of_lt p10)
              have sq := s q
              have cq := cod9_bd (rw1_9 nb1.2 hq x)
              have wq := hq x
              have dq : cod9 (q x) = 9 ∨ (cod9 (q x) = q x ∧ q x < C b 0 0) := by
                unfold cod9
                rcases wq with e | e
                · rw [if_pos (by omega)]; exact Or.inl rfl
                · rw [if_neg (by omega)]; exact Or.inr ⟨rfl, by omega⟩
              have l3 : num R' (x + 1) ≤ num q (x + 1) := by omega
              have l4 := Int.mul_le_mul_of_nonneg_right l3 (Int.le_of_lt p10)
              omega
          · intro c c0 c1
            show _ = nd (if c < x then R c else if c = x then v' else if c < C a 0 0 then 0 else -1)
            by_cases u : c < x
            · rw [if_pos u, jup_ne (by omega)]; exact h1 c c0 (by omega)
            · by_cases w : c = x
              · rw [if_neg u, if_pos w, w, jup_eq, hv]
              · rw [if_neg u, if_neg w, if_pos c1, jup_ne (by omega), (h2 c (by omega) c1).2, if_pos (by omega)]
                rfl
        exact ⟨fun z2 => ⟨b11, Or.inr rfl, fin 9 (-1) rfl (Or.inl ⟨rfl, z2⟩)⟩, fun z2 => ⟨b11, b11, Or.inr rfl, fin (R x + 1) (R x + 1) (by unfold nd; rw [if_neg (by omega)]) (Or.inr ⟨rfl, z2⟩)⟩⟩
  have h := key (C a 0 0).toNat M (by omega) (fun c c0 c1 => hR c c0 (by omega)) (fun c c0 c1 => by omega) (fun _ _ _ => rfl)
  rw [Int.toNat_of_nonneg na1.1] at h
  exact h
