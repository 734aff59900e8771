/-! the reference: moved, add, common -/
/-- the ends of a tie that answers are paired or answer -/
theorem ans_ends {C : jM} {a b lv tm : Int} {R : Int → Int} (hG : gd C a b) {n : Int} (hn : 0 ≤ n ∧ n < C a 0 1) (hp : ∀ x, -1 ≤ R x) (h : 0 ≤ ans C a b lv 0 tm R n) : (∀ q, 0 ≤ q → q < 3 → C a 6 (3 * n + q) = -1 ∨ (0 ≤ C a 6 (3 * n + q) ∧ C a 6 (3 * n + q) < 10 ∧ 0 ≤ R (C a 6 (3 * n + q))) ∨ (10 ≤ C a 6 (3 * n + q) ∧ 0 ≤ ans C a b lv 0 tm R (C a 6 (3 * n + q) - 10))) ∧ (0 ≤ meet C (C a 5 n) (C b 5 (ans C a b lv 0 tm R n)) ∧ meet C (C a 5 n) (C b 5 (ans C a b lv 0 tm R n)) ≤ lv) := by
  obtain ⟨hL, hGa, hGb, -, -⟩ := hG
  obtain ⟨n, rfl⟩ : ∃ m : Nat, n = m := ⟨n.toNat, by omega⟩
  have hc := ans_cand (C := C) (a := a) (b := b) (lv := lv) (wg := 0) (tm := tm) (p := R) (N := (C a 0 1).toNat) (n := n) (by omega) rfl h
  have hEn := fun q q0 q1 => hGa.2.1 n q hn.1 hn.2 q0 q1
  have hC := fun q q0 q1 => hGa.2.2.2.2 n q hn.1 hn.2 q0 q1
  have K := hGa.1.2.2.1 n hn.1 hn.2
  obtain ⟨⟨l1, l3⟩, l2, le, -⟩ := hL _ K.1 K.2
  have step : ∀ q f, 0 ≤ q → q < 3 → EA C b R (sLS (ansF C a b lv 0 tm R n)) (fun _ => False) (C a 6 (3 * n + q)) f → C a 6 (3 * n + q) = -1 ∨ (0 ≤ C a 6 (3 * n + q) ∧ C a 6 (3 * n + q) < 10 ∧ 0 ≤ R (C a 6 (3 * n + q))) ∨ (10 ≤ C a 6 (3 * n + q) ∧ 0 ≤ ans C a b lv 0 tm R (C a 6 (3 * n + q) - 10)) := fun q f q0 q1 hE => by
    have := hEn q q0 q1
    have hpe := hp (C a 6 (3 * n + q))
    unfold EA sLS at hE
    rcases hE with ⟨h1, h2, h3⟩ | ⟨h1, h2, h3, h4⟩
    · exact Or.inr (Or.inl ⟨h1, by omega, by omega⟩)
    · refine Or.inr (Or.inr ⟨h1, ?_⟩)
      have e : ans C a b lv 0 tm R (C a 6 (3 * n + q) - 10) = ansF C a b lv 0 tm R n (C a 6 (3 * n + q) - 10) := ansF_st C a b lv 0 tm R n (C a 0 1).toNat _ (by omega) (by omega)
      rw [e, h3]
      omega
  have e0 : (3 * (n : Int) + 0) = 3 * n := by omega
  refine ⟨fun q q0 q1 => ?_, hc.1.1.2.2.1, hc.1.1.2.2.2.1⟩
  have cs : q = 0 ∨ q = 1 ∨ q = 2 := by omega
  rcases hc.1.2 with ⟨s0, s1, s2⟩ | ⟨ev, t0, t1⟩
  · rcases cs with e | e | e
    · rw [e]
      exact step 0 _ (by omega) (by omega) (by rw [e0]; exact s0)
    · rw [e]
      rcases s1 with s1 | s1
      · exact Or.inl s1
      · exact step 1 _ (by omega) (by omega) s1
    · rw [e]
      rcases s2 with s2 | s2
      · exact Or.inl s2
      · exact step 2 _ (by omega) (by omega) s2
  · rcases cs with e | e | e
    · rw [e]
      exact step 0 _ (by omega) (by omega) (by rw [e0]; exact t0)
    · rw [e]; exact step 1 _ (by omega) (by omega) t1
    · rw [e]
      have := ev.1
      have := le (by omega)
      exact Or.inl ((hC 2 (by omega) (by omega)).mpr (by omega))
theorem m_moved {M D : jM} {e : Int} (he : -1 ≤ e ∧ e < 24 ∧ (e < 10 → e < 6)) (h1 : 0 ≤ e → e < 10 → M 28 31 e = D 26 6 e ∧ 0 ≤ D 26 6 e) (h2 : 10 ≤ e → M 28 32 (e - 10) = D 26 7 (e - 10) ∧ 0 ≤ D 26 7 (e - 10) ∧ D 26 7 (e - 10) < 14) : jCallP 0 104 [.inr (28, 0), .inl (jno e)] M (fun r M' => r = jno (nE D e) ∧ M' = M) := by
  refine jstart (by decide) rfl (fX10_moved_0 ⟨fun z => ?_, fun z => ⟨?_, rfl⟩⟩)
  · have e0 : 0 ≤ e := by
      apply Classical.byContradiction
      intro q
      rw [jno_neg (by omega)] at z
      exact absurd z (by decide)
    rw [jno_ge e0]
    unfold nE
    rw [if_neg (by omega)]
    refine ⟨fun z2 => ?_, fun z2 => ?_⟩
    · obtain ⟨a1, a2, a3⟩ := h2 z2
      rw [if_neg (by omega), if_pos ⟨by omega, by omega⟩, jwr_id (z := e - 10) (by omega) (by omega), a1, jwr_id (by omega) (by omega), jno_ge (by omega)]
      exact ⟨by rw [jal_28_32]; omega, rfl, rfl⟩
    · obtain ⟨a1, a2⟩ := h1 e0 z2
      rw [if_pos (he.2.2 z2), a1, jno_ge a2]
      exact ⟨by rw [jal_28_31]; have := he.2.2 z2; omega, rfl, rfl⟩
  · have : e = -1 := (jno_lt he.1).mp z
    unfold nE
    rw [if_pos (by omega)]
    rfl
theorem m_add {D M : jM} {k x y z m : Int} (hL : jLV D) (hRL : rL D M) (hRT : rT D M 14) (hG : jGood D 14) (hk : isK k) (hx : eOk D 14 k x 0) (hy : eOk D 14 k y 1) (hz : eOk D 14 k z 2) (hroom : ¬ fnd D 14 k x y z = -1 ∨ D 14 0 1 < 14) : jCallP 3 105 [.inr (28, 0), .inl k, .inl (jno x), .inl (jno y), .inl (jno z), .inl m] M (fun r M' => r = fopN D k x y z ∧ rT (fopM D k x y z m) M' 14 ∧ own 14 M M' ∧ M' 28 8 14 = M 28 8 14) := by
  have n2 := hG.1.2.1.2
  obtain ⟨⟨c1, c3⟩, -⟩ := hL k hk.1 hk.2
  have qq : ∀ v q, eOk D 14 k v q → eQ (D 19 1 k) q v (jno v) := fun v q h => ⟨fun _ => em_ov h.1, fun w => h.2.2.2.mpr w⟩
  have fb := jfst_bd (mtie D 14 k x y z) (D 14 0 1).toNat
  have fbb : -1 ≤ fnd D 14 k x y z := fb.1
  refine jstart (by decide) rfl (fX10_add_0 (jc (m_tieWith hL hRL hRT hG (by omega) hk (qq x 0 hx) (qq y 1 hy) (qq z 2 hz)) (by decide) ⟨fun w => ?_, fun w => ?_⟩))
  · have hf : fnd D 14 k x y z = -1 := (jno_lt fbb).mp w
    have hl : D 14 0 1 < 14 := hroom.resolve_left (fun q => q hf)
    obtain ⟨x1, x2, x3, x4⟩ := id hx
    rw [jno_ge (v := x) (by omega)]
    refine jcq (m_put (M := M) (m := m) hL hRL hRT hG (by omega) hk hl hx hy hz (fun h => jno_ge (by have := hy.2.2.2; have := hy.1; omega)) (fun h => jno_ge (by have := hz.2.2.2; have := hz.1; omega))) (by decide) ?_
    rintro r2 M2 ⟨RT2, o2, l2⟩
    have jr := jput_r (M := D) (g := 14) (k := k) (x := x) (y := y) (z := z) (m := m)
    unfold fopN fopM
    have nz : ¬ ¬ fnd D 14 k x y z = -1 := fun q => q hf
    rw [if_neg nz, if_neg nz, if_pos hl, if_pos hl]
    refine ⟨by rw [jal_28_9]; omega, ?_, RT2, o2, l2⟩
    rw [RT2.2.1, jr.2.1, jwr_id (by omega) (by omega)]
    omega
  · have hf : ¬ fnd D 14 k x y z = -1 := fun q => by rw [q] at w; exact absurd w (by decide)
    unfold fopN fopM
    rw [if_pos hf, if_pos hf, jno_ge (by omega)]
    exact ⟨rfl, hRT, own_r 14 M, rfl⟩
/-- what one step of weaving adds -/
theorem fop_len (D : jM) (k x y z m : Int) : D 14 0 1 ≤ fopM D k x y z m 14 0 1 ∧ fopM D k x y z m 14 0 1 ≤ D 14 0 1 + 1 := by
  unfold fopM
  split
  · omega
  · split
    · rw [(jput_r (M := D) (g := 14) (k := k) (x := x) (y := y) (z := z) (m := m)).2.1]; omega
    · omega
theorem wv_len (g : Int) (P : Int → Prop) (K Mo : Int → Int) (D : jM) : ∀ n : Nat, wv g P K Mo D n 14 0 1 ≤ D 14 0 1 + n
  | 0 => by show D 14 0 1 ≤ D 14 0 1 + ((0 : Nat) : Int); omega
  | n + 1 => by
    have ih := wv_len g P K Mo D n
    by_cases h : P n ∧ aE (wv g P K Mo D n) g n
    · rw [wv_yes h, (brg_26 _ _ _ _ _).2.2]
      have := fop_len (wv g P K Mo D n) (K n) (nE (wv g P K Mo D n) (wv g P K Mo D n g 6 (3 * n))) (nE (wv g P K Mo D n) (wv g P K Mo D n g 6 (3 * n + 1))) (nE (wv g P K Mo D n) (wv g P K Mo D n g 6 (3 * n + 2))) (Mo n)
      omega
    · rw [wv_no h]; omega
