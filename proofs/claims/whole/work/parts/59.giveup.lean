/-! giveUp, bound -/
theorem c_bc {M : jM} {n : Nat} (hn : n < 64) : jCallP 0 181 [.inl (n : Int)] M (fun r M' => r = bcS n 6 ∧ M' = M) := jstart (by decide) rfl (fJ6_bitCount_0 ⟨bc_all n hn, rfl⟩)
def okS (C : jM) (lv tm P : Int) (p : Int → Int) (n : Int) : Prop := jiand n (jixor P (-1)) = 0 ∧ ¬ speaks C lv tm (gvn n p)
noncomputable def gU (C : jM) (lv tm P : Int) (p : Int → Int) : Nat → Int × Int
  | 0 => (7, 0)
  | n + 1 => @ite _ (okS C lv tm P p n ∧ bcS n 6 < (gU C lv tm P p n).1) (Classical.propDecidable _) (bcS n 6, n) (gU C lv tm P p n)
theorem gU_yes {C : jM} {lv tm P : Int} {p : Int → Int} {n : Nat} (h : okS C lv tm P p n ∧ bcS n 6 < (gU C lv tm P p n).1) : gU C lv tm P p (n + 1) = (bcS n 6, (n : Int)) := if_pos h
theorem gU_no {C : jM} {lv tm P : Int} {p : Int → Int} {n : Nat} (h : ¬ (okS C lv tm P p n ∧ bcS n 6 < (gU C lv tm P p n).1)) : gU C lv tm P p (n + 1) = gU C lv tm P p n := if_neg h
def jKg (M M' : jM) : Prop := (∀ x y, ¬ (x = 20 ∨ (x = 21 ∧ ¬ y = 7) ∨ x = 25) → M' x y = M x y)
def s_giveUp (M : jM) (p : Int → Int) (r : Int) (M' : jM) : Prop :=
  jif (M 23 0 0 = 0) (r = -3 ∧ M' = M) ((∀ P, isM P (fun x => x < M 12 0 0 ∧ 0 ≤ p x) → r = (gU M (M 23 0 1) (M 23 0 2) P p 64).2) ∧ jKg M M')
theorem c_giveUp {M : jM} {p : Int → Int} (hI : jOk M) (hlv : 0 ≤ M 23 0 1 ∧ M 23 0 1 < 3) (hp : ¬ M 23 0 0 = 0 → ∀ x, 0 ≤ x → x < M 12 0 0 → M 23 6 x = p x ∧ -1 ≤ p x ∧ p x < 6) : jCallP 5 21 [.inr (18, 0)] M (fun r M' => s_giveUp M p r M') := by
  obtain ⟨hL, hG, hz, h11⟩ := hI
  have hG12 := (hG 12 (by omega) (by omega)).1
  have hG13 := (hG 13 (by omega) (by omega)).1
  refine jstart (by decide) rfl (fX9_giveUp_0 ⟨fun q => ?_, fun q => jif_t q ⟨rfl, rfl⟩⟩)
  have hpp := hp q
  refine jcq (c_take (C := M) (tm := M 23 0 2) (wg := 0) hG12.1 hG13.1 hL hlv rfl rfl rfl) (by decide) ?_
  rintro r1 M1 ⟨hR, f1⟩
  refine jcq (c_pairedThings (C := M) (p := p) hG12.1.2.1 hR.2.2.2.2.2.2.2.1 (fun x x0 x1 => by rw [f1 23 6 (by simp)]; exact (hpp x x0 x1).1)) (by decide) ?_
  rintro P M1' ⟨hP, rfl⟩
  generalize hlv' : M 23 0 1 = lv at hR
  generalize htm' : M 23 0 2 = tm at hR
  have key : ∀ (j n : Nat) (N : jM), n + j = 64 → (∀ x y, ¬ (x = 20 ∧ (y = 6 ∨ y = 7 ∨ y = 8)) → ¬ (x = 25 ∧ (y = 0 ∨ y = 5 ∨ y = 6)) → N x y = M1' x y) → jWP 5 21 65 [some (.inr (18, 0)), some (.inl P), some (.inl (gU M lv tm P p n).1), some (.inl (gU M lv tm P p n).2), some (.inl (n : Int)), none] [] N (fun r M' => s_giveUp M p r M') := by
    intro j
    induction j with
    | zero =>
      intro n N hn hN
      have : n = 64 := by omega
      subst this
      refine fX9_giveUp_65 ⟨fun _ => jif_f q ⟨fun P' hP' => ?_, fun x y h => ?_⟩, fun z => by exfalso; omega⟩
      · rw [hP'.unique hP, hlv', htm']
      · rw [hN x y (by omega) (by omega), f1 x y (by omega)]
    | succ j ih =>
      intro n N hn hN
      have en : (n : Int) + 1 = ((n + 1 : Nat) : Int) := by omega
      have hno : ¬ (okS M lv tm P p n ∧ bcS n 6 < (gU M lv tm P p n).1) → ∀ N', (∀ x y, ¬ (x = 20 ∧ (y = 6 ∨ y = 7 ∨ y = 8)) → ¬ (x = 25 ∧ (y = 0 ∨ y = 5 ∨ y = 6)) → N' x y = M1' x y) → jWP 5 21 65 [some (.inr (18, 0)), some (.inl P), some (.inl (gU M lv tm P p n).1), some (.inl (gU M lv tm P p n).2), some (.inl (jwr ((n : Int) + 1))), none] [] N' (fun r M' => s_giveUp M p r M') := fun h N' hN' => by
        have := ih (n + 1) N' (by omega) hN'
        rw [gU_no h] at this
        rw [jwr_id (by omega) (by omega), en]
        exact this
      refine fX9_giveUp_65 ⟨fun z => by exfalso; omega, fun _ => jc (c_bc (by omega)) (by decide) ⟨fun z => hno (fun h => z h.1.1) N hN, fun z => ⟨fun z2 => hno (fun h => by omega) N hN, fun z2 => ?_⟩⟩⟩
      have hRN : jRdy M N 12 13 lv tm 0 := hR.fx2 (by omega) (by omega) (fun x y h h' => hN x y (by omega) (by omega))
      refine jcq (c_isPeace (C := M) (v := n) (p := p) hL hG12 hG13 hRN (fun x x0 x1 => by rw [hN 23 6 (by simp) (by simp), f1 23 6 (by simp)]; exact hpp x x0 x1)) (by decide) ?_
      rintro r2 M2 ⟨bl, f2⟩
      have hN2 : ∀ x y, ¬ (x = 20 ∧ (y = 6 ∨ y = 7 ∨ y = 8)) → ¬ (x = 25 ∧ (y = 0 ∨ y = 5 ∨ y = 6)) → M2 x y = M1' x y := fun x y h h' => by rw [f2 x y h h', hN x y h h']
      refine ⟨fun w => hno (fun h => (jBl_eq bl).mp w h.1.2) M2 hN2, fun w => ?_⟩
      have := ih (n + 1) M2 (by omega) hN2
      rw [gU_yes ⟨⟨z, (jBl_ne bl).mp w⟩, z2⟩] at this
      rw [jwr_id (by omega) (by omega), en]
      exact this
  exact key 64 0 M1' (by omega) (fun _ _ _ _ => rfl)
def s_bound (M : jM) (a b r : Int) : Prop := jif (isT a ∧ isT b) (r = bnd M a b) (r = -1)
theorem c_bound {M : jM} (hI : jOk M) (a b : Int) : jCallP 2 22 [.inr (18, 0), .inl a, .inl b] M (fun r M' => s_bound M a b r ∧ M' = M) := by
  obtain ⟨hL, hG, -, -⟩ := hI
  refine jstart (by decide) rfl (fX9_bound_0 ?_)
  refine jc (c_isTale M a) (by decide) ⟨fun q => ⟨jif_f (fun q2 => jite_eq.mp q q2.1) rfl, rfl⟩, fun q => ?_⟩
  have ha := jite_ne.mp q
  refine jc (c_isTale M b) (by decide) ⟨fun q1 => ?_, fun q1 => ⟨jif_f (fun q2 => jite_eq.mp q1 q2.2) rfl, rfl⟩⟩
  have hb := jite_ne.mp q1
  have hGa := (hG a ha.1 (by omega)).1
  exact ⟨ha, hb, jc (c_boundOf (by omega) (by omega) hGa.1.2.1 (hG b hb.1 (by omega)).1.1.2.1 hGa.2.2.1) (by decide) ⟨jif_t ⟨ha, hb⟩ rfl, rfl⟩⟩
