/-! isRight, seek, trial -/
theorem c_isRight {M : jM} {t l : Int} (ht : 0 ≤ t ∧ t < 12) : jCallP 0 37 [.inr (18, 0), .inl t, .inl l] M (fun r M' => jBl r ((0 ≤ l ∧ l < 12) ∧ M l 0 2 = M t 0 2) ∧ M' = M) := by
  refine jstart (by decide) rfl (fX9_isRight_0 ⟨fun z => ⟨Or.inl rfl, Or.inr ⟨rfl, fun h => by omega⟩, rfl⟩, fun z => ⟨fun z2 => ⟨Or.inl rfl, Or.inr ⟨rfl, fun h => by omega⟩, rfl⟩, fun z2 => ⟨⟨z, z2⟩, by omega, ht, by omega, fun z3 => ⟨Or.inl rfl, Or.inr ⟨rfl, fun h => z3 h.2⟩, rfl⟩, fun z3 => ⟨Or.inr rfl, Or.inl ⟨rfl, ⟨z, z2⟩, z3⟩, rfl⟩⟩⟩⟩)
def s_seek (M : jM) (a r : Int) (M' : jM) : Prop :=
  jif (isT a) (r = jno (lkX M a (M 18 0 8)).2.2 ∧ M' 18 0 9 = 1 ∧ M' 18 0 10 = (lkX M a (M 18 0 8)).1 ∧ M' 18 0 11 = jno (lkX M a (M 18 0 8)).2.1 ∧ (∀ x y, ¬ (x = 20 ∨ x = 21 ∨ x = 22 ∨ x = 27 ∨ (x = 18 ∧ y = 0)) → M' x y = M x y) ∧ (∀ z, ¬ (z = 9 ∨ z = 10 ∨ z = 11) → M' 18 0 z = M 18 0 z) ∧ (∀ c, 0 ≤ c → c < 100 → M' 21 7 c = 0) ∧ M' 22 0 11 = 0) (r = -1 ∧ M' = M)
theorem c_seek {M : jM} (hI : jOk M) (a : Int) : jCallP 13 23 [.inr (18, 0), .inl a] M (fun r M' => s_seek M a r M') := by
  refine jstart (by decide) rfl (fX9_seek_0 ?_)
  refine jc (c_isTale M a) (by decide) ⟨fun q => ?_, fun q => jif_f (fun q2 => jite_eq.mp q q2) ⟨rfl, rfl⟩⟩
  have ha := jite_ne.mp q
  refine jcq (c_likest hI ha) (by decide) ?_
  rintro r2 M2 ⟨e1, e2, e3, f1, f2, f3⟩
  refine ⟨Or.inr rfl, ?_⟩
  rw [jup_ne (M := M2) (a := 27) (by simp), jup_ne (M := jup M2 18 0 9 1) (a := 27) (by simp), jup_ne (M := M2) (a := 27) (by simp), e2, e3]
  refine jcq (c_orNone _ _) (by decide) ?_
  rintro r3 M3 ⟨e4, rfl⟩
  refine jcq (c_orNone _ _) (by decide) ?_
  rintro r4 M4 ⟨e5, rfl⟩
  refine jif_t ha ⟨by rw [e5, e1]; rfl, by rw [jup_ne (by simp), jup_ne (by simp), jup_eq], by rw [jup_ne (by simp), jup_eq], by rw [jup_eq, e4]; rfl, fun x y h => ?_, fun z h => ?_, fun c c0 c1 => ?_, ?_⟩
  · rw [jup_set, jset_ne (by omega), jup_set, jset_ne (by omega), jup_set, jset_ne (by omega), f1 x y (by omega)]
  · rw [jup_ne (by omega), jup_ne (by omega), jup_ne (by omega), f1 18 0 (by simp)]
  · rw [jup_ne (by simp), jup_ne (by simp), jup_ne (by simp), f2 c c0 c1]
  · rw [jup_ne (by simp), jup_ne (by simp), jup_ne (by simp), f3]
/-! what likest reads -/
theorem bnd_fx {M M' : jM} {a b : Int} (ha : M' a = M a) (hb : M' b = M b) : bnd M' a b = bnd M a b := by
  have k : ∀ k : Nat, bK M' a b k = bK M a b k := fun k => by
    induction k with
    | zero => rfl
    | succ k ih =>
      have hh : ∀ i : Nat, hgh M' a k i = hgh M a k i := fun i => by
        induction i with
        | zero => rfl
        | succ i ih => unfold hgh; rw [ih, ha]
      unfold bK
      rw [ih, hh, ha, hb]
  have s : ∀ k : Nat, bS M' a b k = bS M a b k := fun k => by
    induction k with
    | zero => rfl
    | succ k ih => unfold bS; rw [ih, ha, hb]
  unfold bnd
  rw [k, s]
theorem agr_fx {M M' : jM} {a : Int} (h : M' a = M a) : agr M M' a a := by
  unfold agr
  rw [h]
  exact ⟨rfl, rfl, fun _ _ _ => rfl, fun _ _ _ => ⟨rfl, rfl, rfl⟩, fun _ _ _ _ _ _ => rfl⟩
theorem bwo_fx {M M' : jM} {a b lv tm wg : Int} (h19 : M' 19 = M 19) (ha : M' a = M a) (hb : M' b = M b) (hNa : jNB M a) (hNb : jNB M b) : bwo M' a b lv tm wg = bwo M a b lv tm wg := by
  by_cases h : ∃ R, best M a b lv tm wg R
  · obtain ⟨R, hR⟩ := h
    rw [bwo_eq hNb.1.2 hR, bwo_eq (by rw [hb]; exact hNb.1.2) (best_agr h19 (agr_fx ha) (agr_fx hb) hNa.2.1 hNb.2.1 hR), wth_agr h19 (agr_fx ha) (agr_fx hb) hNa.2.1 hNb.2.1 hR.1]
  · have h' : ¬ ∃ R, best M' a b lv tm wg R := fun ⟨R, hR⟩ => h ⟨R, best_agr h19.symm (agr_fx ha.symm) (agr_fx hb.symm) (by rw [ha]; exact hNa.2.1) (by rw [hb]; exact hNb.2.1) hR⟩
    unfold bwo
    rw [dif_neg h, dif_neg h']
theorem lkR_congrW {W W' : Int → Int} (q : ∀ t, 0 ≤ t → t < 12 → W t = W' t) : ∀ (n : Nat) (B : Int → Int) (h w b : Int), lkR W n B h w b = lkR W' n B h w b
  | 0, _, _, _, _ => rfl
  | n + 1, B, h, w, b => by
    have bd := gB_bd B 12
    have ih := lkR_congrW q n
    rw [lkR_s, lkR_s, ih, ih]
    by_cases u : gB B 12 = -1
    · rw [if_pos (Or.inl u), if_pos (Or.inl u)]
    · rw [q (gB B 12) (by omega) (by omega)]
theorem lkX_fx {M M' : jM} {a tm : Int} (hN : jNBs M) (h19 : M' 19 = M 19) (h : ∀ g, 0 ≤ g → g < 12 → M' g = M g) (ha : 0 ≤ a ∧ a < 12) : lkX M' a tm = lkX M a tm := by
  unfold lkX
  rw [lkR_congr 12 (lkB M' a) (lkB M a) _ _ _ (fun t t0 t1 => by unfold lkB; rw [h t t0 t1, bnd_fx (h a ha.1 ha.2) (h t t0 t1)])]
  exact lkR_congrW (fun t t0 t1 => bwo_fx h19 (h a ha.1 ha.2) (h t t0 t1) (hN a ha.1 (by omega)) (hN t t0 (by omega))) _ _ _ _ _
def trA (M : jM) (w t : Int) : Prop := 0 < M t 0 1 ∧ (10 ≤ w ∧ w < 20 → M t 0 2 = w - 10)
def trR (M : jM) (t l : Int) : Prop := (0 ≤ l ∧ l < 12) ∧ M l 0 2 = M t 0 2
noncomputable def trN (M : jM) (tm w : Int) (n : Nat) : Int := cP (fun t => trA M w t ∧ (w = 1 ∨ trR M t (lkX M t tm).2.2)) n
def s_trial (M : jM) (w r : Int) (M' : jM) : Prop :=
  jif (w = 0 ∨ w = 1 ∨ (10 ≤ w ∧ w < 20)) (r = trN M (M 18 0 8) w 12 ∧ jKl M M') (r = -2 ∧ M' = M)
theorem jOk.nbs {M : jM} (h : jOk M) : jNBs M := fun g g0 g1 => (h.2.1 g g0 g1).1.1.2.1
theorem c_trial {M : jM} (hI : jOk M) (w : Int) : jCallP 13 28 [.inr (18, 0), .inl w] M (fun r M' => s_trial M w r M') := by
  have hI' := hI
  obtain ⟨hL, hG, hz, h11⟩ := hI
  have key : (w = 0 ∨ w = 1 ∨ (10 ≤ w ∧ w < 20)) → ∀ s, jBl s (10 ≤ w ∧ w < 20) → ∀ (j n : Nat) (N : jM), n + j = 12 → jKl M N → jWP 13 28 39 [some (.inr (18, 0)), some (.inl w), some (.inl s), some (.inl (trN M (M 18 0 8) w n)), some (.inl (n : Int)), none] [] N (fun r M' => s_trial M w r M') := by
    intro hw s hs j
    induction j with
    | zero =>
      intro n N hn hN
      have : n = 12 := by omega
      subst this
      exact fX9_trial_39 ⟨fun _ => jif_t hw ⟨rfl, hN⟩, fun z => by exfalso; omega⟩
    | succ j ih =>
      intro n N hn hN
      have en : (n : Int) + 1 = ((n + 1 : Nat) : Int) := by omega
      obtain ⟨f1, f2, f3⟩ := hN
      have eg : ∀ g, 0 ≤ g → g < 12 → N g = M g := fun g g0 g1 => by funext y; exact f1 g y (by omega)
      have c := cP_bd (fun t => trA M w t ∧ (w = 1 ∨ trR M t (lkX M t (M 18 0 8)).2.2)) n
      have cnt : trN M (M 18 0 8) w n = cP (fun t => trA M w t ∧ (w = 1 ∨ trR M t (lkX M t (M 18 0 8)).2.2)) n := rfl
      have no : ¬ (trA M w n ∧ (w = 1 ∨ trR M n (lkX M n (M 18 0 8)).2.2)) → ∀ N', jKl M N' → jWP 13 28 39 [some (.inr (18, 0)), some (.inl w), some (.inl s), some (.inl (trN M (M 18 0 8) w n)), some (.inl (jwr ((n : Int) + 1))), none] [] N' (fun r M' => s_trial M w r M') := fun h N' hN' => by
        have := ih (n + 1) N' (by omega) hN'
        rw [jwr_id (by omega) (by omega), en]
        unfold trN at this ⊢
        rwa [cP_no (P := fun t => trA M w t ∧ (w = 1 ∨ trR M t (lkX M t (M 18 0 8)).2.2)) h] at this
      have yes : (trA M w n ∧ (w = 1 ∨ trR M n (lkX M n (M 18 0 8)).2.2)) → ∀ N', jKl M N' → jWP 13 28 39 [some (.inr (18, 0)), some (.inl w), some (.inl s), some (.inl (jwr (trN M (M 18 0 8) w n + 1))), some (.inl (jwr ((n : Int) + 1))), none] [] N' (fun r M' => s_trial M w r M') := fun h N' hN' => by
        have := ih (n + 1) N' (by omega) hN'
        rw [jwr_id (z := (n : Int) + 1) (by omega) (by omega), en, jwr_id (by omega) (by omega)]
        unfold trN at this ⊢
        rwa [cP_yes (P := fun t => trA M w t ∧ (w = 1 ∨ trR M t (lkX M t (M 18 0 8)).2.2)) h] at this
      have n0 : ¬ trA M w n → jWP 13 28 85 [some (.inr (18, 0)), some (.inl w), some (.inl s), some (.inl (trN M (M 18 0 8) w n)), some (.inl (n : Int)), none] [.inl 0] N (fun r M' => s_trial M w r M') := fun h => fX9_trial_85 ⟨fun _ => no (fun q => h q.1) N ⟨f1, f2, f3⟩, fun z => absurd rfl z⟩
      have n1 : trA M w n → jWP 13 28 85 [some (.inr (18, 0)), some (.inl w), some (.inl s), some (.inl (trN M (M 18 0 8) w n)), some (.inl (n : Int)), none] [.inl 1] N (fun r M' => s_trial M w r M') := fun h => by
        refine fX9_trial_85 ⟨fun z => absurd z (by decide), fun _ => ⟨fun z => yes ⟨h, Or.inl z⟩ N ⟨f1, f2, f3⟩, fun z => ?_⟩⟩
        have e19 : N 19 = M 19 := by funext y; exact f1 19 y (by simp)
        have hIN : jOk N := ⟨by unfold jLV at hL ⊢; rw [e19]; exact hL, fun g g0 g1 => by
          obtain ⟨a1, a2⟩ := hG g g0 g1
          have e : N g = M g := by funext y; exact f1 g y (by omega)
          exact ⟨good_agr e19 (agr_fx e) (by omega) a1, sr_agr (agr_fx e) a2⟩, f2, f3⟩
        refine jcq (c_likest (tm := N 18 0 8) hIN (a := n) (by omega)) (by decide) ?_
        rintro r1 M1 ⟨e1, -, -, k1, k2, k3⟩
        rw [f1 18 0 (by simp), lkX_fx hI'.nbs e19 eg (by omega)] at e1
        have kk : jKl M M1 := ⟨fun x y q => by rw [k1 x y q, f1 x y q], k2, k3⟩
        refine jcq (c_isRight (t := n) (l := r1) (by omega)) (by decide) ?_
        rintro r2 M2 ⟨bl, rfl⟩
        have er : (0 ≤ r1 ∧ r1 < 12) ∧ M2 r1 0 2 = M2 n 0 2 ↔ trR M n (lkX M n (M 18 0 8)).2.2 := by
          unfold trR
          rw [← e1]
          refine and_congr_right (fun q => ?_)
          rw [k1 r1 0 (by omega), k1 n 0 (by omega), f1 r1 0 (by omega), f1 n 0 (by omega)]
        exact ⟨fun q => no (fun q2 => q2.2.elim z (fun q3 => (jBl_eq bl).mp q (er.mpr q3))) M2 kk, fun q => yes ⟨h, Or.inr (er.mp ((jBl_ne bl).mp q))⟩ M2 kk⟩
      refine fX9_trial_39 ⟨fun z => by exfalso; omega, fun _ => ?_⟩
      rw [eg n (by omega) (by omega)]
      refine ⟨by omega, by omega, fun z => n0 (fun h => by have := h.1; omega), fun z => ⟨fun z2 => n1 ⟨z, fun h => absurd h ((jBl_eq hs).mp z2)⟩, fun z2 => ?_⟩⟩
      have hr := (jBl_ne hs).mp z2
      rw [jwr_id (by omega) (by omega)]
      exact ⟨by omega, by omega, fun z3 => n0 (fun h => z3 (h.2 hr)), fun z3 => n1 ⟨z, fun _ => z3⟩⟩
  have k17 : ∀ s, jBl s (10 ≤ w ∧ w < 20) → jWP 13 28 17 [some (.inr (18, 0)), some (.inl w), none, none, none, none] [.inl s] M (fun r M' => s_trial M w r M') := by
    intro s hs
    have go : (w = 0 ∨ w = 1 ∨ (10 ≤ w ∧ w < 20)) → jWP 13 28 39 [some (.inr (18, 0)), some (.inl w), some (.inl s), some (.inl 0), some (.inl 0), none] [] M (fun r M' => s_trial M w r M') := fun hw => key hw s hs 12 0 M (by omega) ⟨fun _ _ _ => rfl, hz, h11⟩
    exact fX9_trial_17 ⟨fun z => go (Or.inl z), fun z => ⟨fun z2 => go (Or.inr (Or.inl z2)), fun z2 => ⟨fun z3 => go (Or.inr (Or.inr ((jBl_ne hs).mp z3))), fun z3 => jif_f (by have := (jBl_eq hs).mp z3; omega) ⟨rfl, rfl⟩⟩⟩⟩
  exact jstart (by decide) rfl (fX9_trial_0 ⟨fun z => k17 0 (Or.inr ⟨rfl, by omega⟩), fun z => ⟨fun z2 => k17 0 (Or.inr ⟨rfl, by omega⟩), fun z2 => k17 1 (Or.inl ⟨rfl, by omega⟩)⟩⟩)
