theorem lkR_bd (W : Int → Int) : ∀ (n : Nat) (B : Int → Int) (h w b : Int), (-1 ≤ b ∧ b < 12) → -1 ≤ (lkR W n B h w b).2.2 ∧ (lkR W n B h w b).2.2 < 12
  | 0, _, _, _, _, hb => hb
  | n + 1, B, h, w, b, hb => by
    have g := gB_bd B 12
    rw [lkR_s]
    split
    · exact hb
    · split
      · exact lkR_bd W n _ _ _ _ (by omega)
      · exact lkR_bd W n _ _ _ _ hb
theorem m_seek {C M C' : jM} {a r0 : Int} (hI : Inv C) (hR : rel C M) (hs : s_seek C a r0 C') : jCallP 6 102 [.inr (28, 0), .inl a] M (fun r M' => r = r0 ∧ rel C' M' ∧ f28 M M') := by
  refine jstart (by decide) rfl (fX10_seek_0 ?_)
  refine jc (m_isTale M a) (by decide) ⟨fun q => ?_, fun q => ?_⟩
  rotate_left
  · obtain ⟨e1, rfl⟩ := jif_n hs (jite_eq.mp q)
    exact ⟨e1.symm, hR, f28_r M⟩
  have ha := jite_ne.mp q
  obtain ⟨e1, e9, e10, e11, fr, fz, -⟩ := jif_y hs ha
  refine jcq (m_likest hI hR ha) (by decide) ?_
  rintro r2 M2 ⟨h1, h2, h3, f⟩
  refine ⟨Or.inr rfl, by rw [h1, e1], ?_, ((f.1.tr f28_up).tr f28_up).tr f28_up⟩
  rw [show jup M2 28 0 27 1 28 0 25 = M2 28 0 25 from jup_ne (by omega)]
  generalize hN : jup (jup (jup M2 28 0 27 1) 28 0 28 (M2 28 0 25)) 28 0 29 (jup (jup M2 28 0 27 1) 28 0 28 (M2 28 0 25) 28 0 26) = N
  have n27 : N 28 0 27 = 1 := by rw [← hN, jup_ne (by omega), jup_ne (by omega), jup_eq]
  have n28 : N 28 0 28 = M2 28 0 25 := by rw [← hN, jup_ne (by omega), jup_eq]
  have n29 : N 28 0 29 = M2 28 0 26 := by rw [← hN, jup_eq, jup_ne (by omega), jup_ne (by omega)]
  have nz : ∀ z, ¬ (z = 27 ∨ z = 28 ∨ z = 29) → N 28 0 z = M2 28 0 z := fun z h => by rw [← hN, jup_ne (by omega), jup_ne (by omega), jup_ne (by omega)]
  have ny : ∀ y, ¬ y = 0 → N 28 y = M2 28 y := fun y h => by rw [← hN, jup_set, jset_ne (by omega), jup_set, jset_ne (by omega), jup_set, jset_ne (by omega)]
  obtain ⟨r1, r2, r3, r4, r5⟩ := hR
  have eC : ∀ g, (g < 14 ∨ g = 19 ∨ g = 23) → 0 ≤ g → C' g = C g := fun g hg h0 => by funext y; exact fr g y (by omega)
  refine ⟨fun k k0 k1 => ?_, fun t t0 t1 => (r2 t t0 t1).fx (eC t (by omega) t0) (fun y hy => by rw [ny y (by omega), f.2.1 y (by omega)]), fun t t0 t1 => by rw [ny 8 (by omega), f.2.1 8 (by omega), eC t (by omega) t0]; exact r3 t t0 t1, r4.fx (eC 23 (by omega) (by omega)) (by rw [eC 12 (by omega) (by omega)]) ⟨by rw [nz 17 (by omega), f.2.2 17 (by omega)], by rw [nz 18 (by omega), f.2.2 18 (by omega)], by rw [nz 19 (by omega), f.2.2 19 (by omega)]⟩ (by rw [ny 21 (by omega), f.2.1 21 (by omega)]) (by rw [ny 22 (by omega), f.2.1 22 (by omega)]), ⟨?_, ?_, fun _ => ⟨?_, ?_⟩⟩⟩
  · rw [ny 1 (by omega), ny 2 (by omega), ny 3 (by omega), ny 4 (by omega), f.2.1 1 (by omega), f.2.1 2 (by omega), f.2.1 3 (by omega), f.2.1 4 (by omega), eC 19 (by omega) (by omega)]
    exact r1 k k0 k1
  · rw [nz 4 (by omega), f.2.2 4 (by omega), fz 8 (by omega)]; exact r5.1
  · rw [n27, e9]
  · rw [n28, h2, e10]
  · rw [n29, h3, e11]
theorem m_sought {C M C' : jM} {v r0 : Int} (hR : rel C M) (hs : s_sought C v r0 C') : jCallP 1 103 [.inr (28, 0), .inl v] M (fun r M' => r = r0 ∧ M' = M) := by
  obtain ⟨hs, -⟩ := hs
  obtain ⟨-, h27, hk⟩ := hR.2.2.2.2
  refine jstart (by decide) rfl (fX10_sought_0 (jc (m_in M v 0 1) (by decide) ⟨fun q => ?_, fun q => ⟨(jif_n hs (fun h => jite_eq.mp q (by omega))).symm, rfl⟩⟩))
  have hv := jite_ne.mp q
  have hs := jif_y hs (by omega)
  rw [h27]
  refine ⟨fun z => ?_, fun z => ⟨(jif_y hs z).symm, rfl⟩⟩
  have hs := jif_n hs z
  obtain ⟨k1, k2⟩ := hk z
  rw [k1, k2, hs]
  exact ⟨fun z2 => ⟨by rw [if_neg z2], rfl⟩, fun z2 => ⟨by rw [if_pos z2], rfl⟩⟩
theorem m_trial {C M C' : jM} {w r0 : Int} (hI : Inv C) (hR : rel C M) (hs : s_trial C w r0 C') : jCallP 6 110 [.inr (28, 0), .inl w] M (fun r M' => r = r0 ∧ fS M M') := by
  have go : (w = 0 ∨ w = 1 ∨ (10 ≤ w ∧ w < 20)) → jWP 6 110 30 [some (.inr (28, 0)), some (.inl w), some (.inl 0), some (.inl 0), some (.inl 0), none, none] [] M (fun r M' => r = r0 ∧ fS M M') := by
    intro hw
    have hr := (jif_y hs hw).1
    have key : ∀ (j n : Nat) (v2 v3 : Int) (N : jM), n + j = 12 → fS M N → (¬ w = 1 → v2 = trN C (C 18 0 8) w n) → (w = 1 → v3 = trN C (C 18 0 8) w n) → (0 ≤ v2 ∧ v2 ≤ n) → (0 ≤ v3 ∧ v3 ≤ n) → jWP 6 110 30 [some (.inr (28, 0)), some (.inl w), some (.inl v2), some (.inl v3), some (.inl (n : Int)), none, none] [] N (fun r M' => r = r0 ∧ fS M M') := by
      intro j
      induction j with
      | zero =>
        intro n v2 v3 N hn hf h2 h3 b2 b3
        have : n = 12 := by omega
        subst this
        exact fX10_trial_30 ⟨fun _ => ⟨fun z => ⟨by rw [h2 z, hr], hf⟩, fun z => ⟨by rw [h3 z, hr], hf⟩⟩, fun z => by exfalso; omega⟩
      | succ j ih =>
        intro n v2 v3 N hn hf h2 h3 b2 b3
        have en : (n : Int) + 1 = ((n + 1 : Nat) : Int) := by omega
        have hRN : rel C N := hR.sc hf (cR_r C)
        have s1 : ∀ h : trA C w n ∧ (w = 1 ∨ trR C n (lkX C n (C 18 0 8)).2.2), trN C (C 18 0 8) w (n + 1) = trN C (C 18 0 8) w n + 1 := fun h => cP_yes (P := fun t => trA C w t ∧ (w = 1 ∨ trR C t (lkX C t (C 18 0 8)).2.2)) h
        have s0 : ∀ h : ¬ (trA C w n ∧ (w = 1 ∨ trR C n (lkX C n (C 18 0 8)).2.2)), trN C (C 18 0 8) w (n + 1) = trN C (C 18 0 8) w n := fun h => cP_no (P := fun t => trA C w t ∧ (w = 1 ∨ trR C t (lkX C t (C 18 0 8)).2.2)) h
        have b8n : 0 ≤ (n : Int) ∧ (n : Int) < jal 28 8 := by rw [jal_28_8]; omega
        have h9 := (hRN.2.1 n (by omega) (by omega)).2.1
        refine fX10_trial_30 ⟨fun z => by exfalso; omega, fun _ => ⟨by rw [jal_28_9]; omega, ?_⟩⟩
        rw [h9, jwr_id (z := (n : Int) + 1) (by omega) (by omega), en]
        refine ⟨fun z => ?_, fun z => ?_⟩
        · have no : ¬ (trA C w n ∧ (w = 1 ∨ trR C n (lkX C n (C 18 0 8)).2.2)) := fun h => by have := h.1.1; omega
          exact ih (n + 1) v2 v3 N (by omega) hf (fun q => by rw [s0 no]; exact h2 q) (fun q => by rw [s0 no]; exact h3 q) (by omega) (by omega)
        · rw [jwr_id (z := v3 + 1) (by omega) (by omega)]
          refine ⟨fun z1 => ?_, fun z1 => ?_⟩
          · have eg : ∀ N', fS M N' → rel C N' := fun N' h => hR.sc h (cR_r C)
            refine jcq (m_likest hI hRN (a := n) (by omega)) (by decide) ?_
            rintro r1 N1 ⟨e1, -, -, f1⟩
            have hf1 := hf.tr f1
            have hR1 := eg N1 hf1
            have l8n := hR1.2.2.1 n (by omega) (by omega)
            have lb : -1 ≤ (lkX C n (C 18 0 8)).2.2 ∧ (lkX C n (C 18 0 8)).2.2 < 12 := lkR_bd _ _ _ _ _ _ (by omega)
            generalize hl : (lkX C n (C 18 0 8)).2.2 = l at e1 lb s1 s0
            have no : ¬ (trA C w n ∧ (w = 1 ∨ trR C n l)) → jWP 6 110 30 [some (.inr (28, 0)), some (.inl w), some (.inl (jwr (v2 + 0))), some (.inl (v3 + 1)), some (.inl (jwr ((n : Int) + 1))), none, none] [] N1 (fun r M' => r = r0 ∧ fS M M') := fun h => by
              rw [jwr_id (z := (n : Int) + 1) (by omega) (by omega), en, jwr_id (by omega) (by omega), Int.add_zero]
              exact ih (n + 1) v2 (v3 + 1) N1 (by omega) hf1 (fun q => by rw [s0 h]; exact h2 q) (fun q => absurd q z1) (by omega) (by omega)
            have yes : (trA C w n ∧ (w = 1 ∨ trR C n l)) → jWP 6 110 30 [some (.inr (28, 0)), some (.inl w), some (.inl (jwr (v2 + 1))), some (.inl (v3 + 1)), some (.inl (jwr ((n : Int) + 1))), none, none] [] N1 (fun r M' => r = r0 ∧ fS M M') := fun h => by
              rw [jwr_id (z := (n : Int) + 1) (by omega) (by omega), en, jwr_id (by omega) (by omega)]
              exact ih (n + 1) (v2 + 1) (v3 + 1) N1 (by omega) hf1 (fun q => by rw [s1 h, h2 q]) (fun q => absurd q z1) (by omega) (by omega)
            have k91 : ∀ s, (¬ s = 0 ↔ trA C w n) → jWP 6 110 91 [some (.inr (28, 0)), some (.inl w), some (.inl v2), some (.inl (v3 + 1)), some (.inl (n : Int)), some (.inl r1), none] [.inl s] N1 (fun r M' => r = r0 ∧ fS M M') := fun s hs' => by
              refine fX10_trial_91 ⟨fun z2 => no (fun h => ?_), fun z2 => ?_⟩
              · rw [e1] at z2
                have := (jno_lt lb.1).mp z2
                have := (h.2.resolve_left z1).1
                omega
              · have l0 : 0 ≤ l := by
                  apply Classical.byContradiction
                  intro q2
                  rw [e1, jno_neg (by omega)] at z2
                  exact absurd z2 (by decide)
                have er : r1 = l := by rw [e1, jno_ge l0]
                rw [er]
                refine ⟨fun z3 => no (fun h => hs'.mpr h.1 z3), fun z3 => ⟨by rw [jal_28_8]; omega, b8n, ?_⟩⟩
                rw [hR1.2.2.1 l l0 lb.2, l8n]
                exact ⟨fun z4 => no (fun h => z4 (h.2.resolve_left z1).2), fun z4 => yes ⟨hs'.mp z3, Or.inr ⟨⟨l0, lb.2⟩, z4⟩⟩⟩
            refine fX10_trial_66 ⟨fun z2 => k91 1 ⟨fun _ => ⟨z, fun h => by omega⟩, fun _ => by decide⟩, fun z2 => ⟨b8n, ?_⟩⟩
            rw [l8n, jwr_id (z := w - 10) (by omega) (by omega)]
            exact ⟨fun z3 => k91 0 ⟨fun q => absurd rfl q, fun q => absurd (q.2 (by omega)) z3⟩, fun z3 => k91 1 ⟨fun _ => ⟨z, fun _ => z3⟩, fun _ => by decide⟩⟩
          · have yes : trA C w n ∧ (w = 1 ∨ trR C n (lkX C n (C 18 0 8)).2.2) := ⟨⟨z, fun h => by omega⟩, Or.inl z1⟩
            have fin : ∀ s, jWP 6 110 91 [some (.inr (28, 0)), some (.inl w), some (.inl v2), some (.inl (v3 + 1)), some (.inl (n : Int)), some (.inl (-6)), none] [.inl s] N (fun r M' => r = r0 ∧ fS M M') := fun s => fX10_trial_91 ⟨fun _ => by
              rw [jwr_id (z := (n : Int) + 1) (by omega) (by omega), en, jwr_id (by omega) (by omega), Int.add_zero]
              exact ih (n + 1) v2 (v3 + 1) N (by omega) hf (fun q => absurd z1 q) (fun q => by rw [s1 yes, h3 q]) (by omega) (by omega), fun z2 => absurd z2 (by decide)⟩
            exact fX10_trial_66 ⟨fun _ => fin 1, fun _ => ⟨b8n, fun _ => fin 0, fun _ => fin 1⟩⟩
    exact key 12 0 0 0 M (by omega) (fS_r M) (fun _ => rfl) (fun _ => rfl) (by omega) (by omega)
  refine jstart (by decide) rfl (fX10_trial_0 (jc (m_in M w 0 1) (by decide) ⟨fun q => go (by have := jite_ne.mp q; omega), fun q => jc (m_in M w 10 19) (by decide) ⟨fun q2 => go (by have := jite_ne.mp q2; omega), fun q2 => ⟨(jif_n hs (fun h => ?_)).1.symm, fS_r M⟩⟩⟩))
  have := jite_eq.mp q
  have := jite_eq.mp q2
  omega
