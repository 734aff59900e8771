/-! pure: the best of all rows is the best of the full ones -/
theorem cP_all {U : Int → Prop} : ∀ n : Nat, (∀ j : Int, 0 ≤ j → j < n → U j) → cP U n = n
  | 0, _ => rfl
  | n + 1, h => by
    rw [cP_yes (h n (by omega) (by omega)), cP_all n (fun j j0 j1 => h j j0 (by omega))]
    omega
theorem wth_add {C : jM} {a b lv wg tm : Int} {q q' : Int → Int} (hL : jLV C) (hGa : jGood C a) (hGb : jGood C b) (hm : ¬ tm = 0 → ¬ mat C a b tm) (hv : vld C a b q) (hv' : vld C a b q') (hx : ∀ x, 0 ≤ q x → q' x = q x) : wth C a b lv wg tm q ≤ wth C a b lv wg tm q' := by
  have t := hGa.1.2.1.2
  have nbt := hGb.1.2.1.2
  have key : ∀ n : Nat, (n : Int) ≤ C a 0 1 → wsum C a b wg (ans C a b lv wg tm q) n ≤ wsum C a b wg (ans C a b lv wg tm q') n := by
    intro n
    induction n with
    | zero => intro _; exact Int.le_refl _
    | succ n ih =>
      intro hn
      have ih := ih (by omega)
      have e1 : wsum C a b wg (ans C a b lv wg tm q) (n + 1) = wsum C a b wg (ans C a b lv wg tm q) n + gI C a b wg n (ans C a b lv wg tm q n) := rfl
      have e2 : wsum C a b wg (ans C a b lv wg tm q') (n + 1) = wsum C a b wg (ans C a b lv wg tm q') n + gI C a b wg n (ans C a b lv wg tm q' n) := rfl
      have g0 := gI_bd (b := b) (wg := wg) (j := ans C a b lv wg tm q' n) (hGa.2.2.1 n (by omega) (by omega))
      by_cases y : ans C a b lv wg tm q n = -1
      · have : gI C a b wg n (ans C a b lv wg tm q n) = 0 := by unfold gI; rw [if_pos y]
        omega
      · have bd := ansF_bd C a b lv wg tm q nbt.1 (C a 0 1).toNat n
        have := ansF_add (lv := lv) (wg := wg) (tm := tm) hL hGa hGb hm hv hv' hx (C a 0 1).toNat (by omega) n (by omega) (by omega) (by unfold ans at y; omega)
        have e : ans C a b lv wg tm q' n = ans C a b lv wg tm q n := this
        rw [e1, e2, e]
        omega
  have k1 := key (C a 0 1).toNat (by omega)
  have k2 : srt C a b wg q ≤ srt C a b wg q' := by
    unfold srt
    split
    · exact Int.le_refl _
    · refine cP_mono _ (fun x _ _ h => ?_)
      unfold mts at h ⊢
      rw [hx x h.1]
      exact h
  unfold wth
  omega
theorem row_add {C : jM} {a b : Int} {q : Int → Int} (hNa : jNB C a) (hNb : jNB C b) (hv : vld C a b q) (h1 : prs C a q < C a 0 0) (h2 : prs C a q < C b 0 0) : ∃ q', vld C a b q' ∧ (∀ x, 0 ≤ q x → q' x = q x) ∧ prs C a q' = prs C a q + 1 := by
  have b1 := hNa.1
  have b2 := hNb.1
  have hx : ∃ x : Int, 0 ≤ x ∧ x < C a 0 0 ∧ ¬ 0 ≤ q x := by
    apply Classical.byContradiction
    intro hn
    have := cP_all (U := fun x => 0 ≤ q x) (C a 0 0).toNat (fun j j0 j1 => Classical.byContradiction (fun z => hn ⟨j, j0, by omega, z⟩))
    unfold prs at h1
    omega
  have hy : ∃ y : Int, 0 ≤ y ∧ y < C b 0 0 ∧ ∀ x, ¬ q x = y := by
    apply Classical.byContradiction
    intro hn
    have e := cP_img (P := fun x => 0 ≤ q x) (f := q) (m := (C b 0 0).toNat) (C a 0 0).toNat (fun x x0 x1 h => by rcases hv.1 x with w | w <;> omega) (fun x y _ _ _ _ h _ h' => hv.2 x y h h')
    have := cP_all (U := fun y => ∃ x : Int, 0 ≤ x ∧ x < (C a 0 0).toNat ∧ 0 ≤ q x ∧ q x = y) (C b 0 0).toNat (fun j j0 j1 => Classical.byContradiction (fun z => hn ⟨j, j0, by omega, fun x hq => z ⟨x, by rcases hv.1 x with w | w <;> omega, by rcases hv.1 x with w | w <;> omega, by omega, hq⟩⟩))
    unfold prs at h2
    omega
  obtain ⟨x, x0, x1, hq⟩ := hx
  obtain ⟨y, y0, y1, hy⟩ := hy
  have o : ∀ z, ¬ z = x → jfu q x y z = q z := fun z h => jfu_ne h
  refine ⟨jfu q x y, ⟨fun z => ?_, fun u v hu he => ?_⟩, fun z hz => o z (fun e => hq (by rw [← e]; exact hz)), ?_⟩
  · by_cases u : z = x
    · rw [u, jfu_eq]; exact Or.inr ⟨x0, x1, y0, y1⟩
    · rw [o z u]; exact hv.1 z
  · by_cases u1 : u = x
    · by_cases u2 : v = x
      · omega
      · rw [u1, jfu_eq, o v u2] at he
        exact absurd he.symm (hy v)
    · rw [o u u1] at hu he
      by_cases u2 : v = x
      · rw [u2, jfu_eq] at he
        exact absurd he (hy u)
      · rw [o v u2] at he
        exact hv.2 u v hu he
  · unfold prs
    rw [← cP_add (U := fun x => 0 ≤ q x) x0 hq (C a 0 0).toNat (by omega)]
    refine cP_congr _ (fun z _ _ => ?_)
    by_cases u : z = x
    · rw [u, jfu_eq]; exact ⟨fun _ => Or.inr rfl, fun _ => y0⟩
    · rw [o z u]; exact ⟨Or.inl, fun h => h.resolve_right u⟩
/-- the likeness, of all rows -/
def best (C : jM) (a b lv tm wg : Int) (R : Int → Int) : Prop := vld C a b R ∧ ∀ q, vld C a b q → ¬ btr C a b lv wg tm q (wth C a b lv wg tm R) (prs C a R) ∧ (wth C a b lv wg tm q = wth C a b lv wg tm R → prs C a q = prs C a R → num R (C a 0 0).toNat ≤ num q (C a 0 0).toNat)
theorem isL_best {C : jM} {a b lv tm wg : Int} {R : Int → Int} (hL : jLV C) (hGa : jGood C a) (hGb : jGood C b) (h : isL C a b lv tm wg R) : best C a b lv tm wg R := by
  obtain ⟨h1, h2, h3⟩ := h
  refine ⟨h1, ?_⟩
  have hNa := hGa.1.2.1
  have hNb := hGb.1.2.1
  have b1 := hNa.1
  have b2 := hNb.1
  by_cases hm : mat C a b tm
  · intro q hv
    refine h3 q hv ?_
    unfold spr
    rw [if_pos hm]
    have := cP_bd (fun x => 0 ≤ q x) (C a 0 0).toNat
    unfold prs
    omega
  · have e : spr C a b tm = if 0 < C a 0 0 - C b 0 0 then C a 0 0 - C b 0 0 else 0 := by unfold spr; rw [if_neg hm]
    have key : ∀ (n : Nat) (q : Int → Int), vld C a b q → C a 0 0 - prs C a q ≤ n → ¬ btr C a b lv wg tm q (wth C a b lv wg tm R) (prs C a R) ∧ (wth C a b lv wg tm q = wth C a b lv wg tm R → prs C a q = prs C a R → num R (C a 0 0).toNat ≤ num q (C a 0 0).toNat) := by
      intro n
      induction n with
      | zero =>
        intro q hv hn
        refine h3 q hv ?_
        have := spr_0 (C := C) (a := a) (b := b) (tm := tm) b1.1
        omega
      | succ n ih =>
        intro q hv hn
        by_cases y : C a 0 0 - prs C a q ≤ spr C a b tm
        · exact h3 q hv y
        · have l1 : prs C a q < C a 0 0 ∧ prs C a q < C b 0 0 := by
            rw [e] at y
            split at y <;> omega
          obtain ⟨q', v', x', p'⟩ := row_add hNa hNb hv l1.1 l1.2
          have w := wth_add (lv := lv) (wg := wg) (tm := tm) hL hGa hGb (fun _ => hm) hv v' x'
          have := (ih q' v' (by omega)).1
          unfold btr at *
          refine ⟨by omega, fun z1 z2 => by omega⟩
    intro q hv
    have := cP_bd (fun x => 0 ≤ q x) (C a 0 0).toNat
    exact key (C a 0 0).toNat q hv (by unfold prs; omega)
theorem best_one {C : jM} {a b lv tm wg : Int} {R R' : Int → Int} (nb : C b 0 0 ≤ 6) (h : best C a b lv tm wg R) (h' : best C a b lv tm wg R') : R = R' := by
  obtain ⟨v, h⟩ := h
  obtain ⟨v', h'⟩ := h'
  have a1 := h R' v'
  have a2 := h' R v
  unfold btr at a1 a2
  have e1 : wth C a b lv wg tm R = wth C a b lv wg tm R' := by omega
  have e2 : prs C a R = prs C a R' := by omega
  have := a1.2 e1.symm e2.symm
  have := a2.2 e1 e2
  exact vld_num nb v v' (by omega)
