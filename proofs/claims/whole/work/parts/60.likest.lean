/-! Seeker.likest -/
noncomputable def bwo (C : jM) (a b lv tm wg : Int) : Int := @dite Int (∃ R, best C a b lv tm wg R) (Classical.propDecidable _) (fun h => wth C a b lv wg tm (Classical.choose h)) (fun _ => 0)
theorem bwo_eq {C : jM} {a b lv tm wg : Int} {R : Int → Int} (nb : C b 0 0 ≤ 6) (h : best C a b lv tm wg R) : bwo C a b lv tm wg = wth C a b lv wg tm R := by
  unfold bwo
  rw [dif_pos ⟨R, h⟩, best_one nb (Classical.choose_spec ⟨R, h⟩) h]
noncomputable def lkB (C : jM) (a t : Int) : Int := if ¬ t = a ∧ 0 < C t 0 1 then bnd C a t else -1
def lkR (W : Int → Int) : Nat → (Int → Int) → Int → Int → Int → Int × Int × Int
  | 0, _, h, w, b => (h, w, b)
  | n + 1, B, h, w, b => if gB B 12 = -1 ∨ B (gB B 12) < w ∨ (B (gB B 12) = w ∧ b < gB B 12) then (h, w, b) else if w < W (gB B 12) ∨ (W (gB B 12) = w ∧ gB B 12 < b) then lkR W n (jfu B (gB B 12) (-1)) (h + 1) (W (gB B 12)) (gB B 12) else lkR W n (jfu B (gB B 12) (-1)) (h + 1) w b
theorem lkR_s (W : Int → Int) (n : Nat) (B : Int → Int) (h w b : Int) : lkR W (n + 1) B h w b = if gB B 12 = -1 ∨ B (gB B 12) < w ∨ (B (gB B 12) = w ∧ b < gB B 12) then (h, w, b) else if w < W (gB B 12) ∨ (W (gB B 12) = w ∧ gB B 12 < b) then lkR W n (jfu B (gB B 12) (-1)) (h + 1) (W (gB B 12)) (gB B 12) else lkR W n (jfu B (gB B 12) (-1)) (h + 1) w b := rfl
theorem gB_congr {b b' : Int → Int} : ∀ n : Nat, (∀ t : Int, 0 ≤ t → t < n → b t = b' t) → gB b n = gB b' n
  | 0, _ => rfl
  | n + 1, h => by
    have ih := gB_congr n (fun t t0 t1 => h t t0 (by omega))
    have e : ∀ f : Int → Int, gB f (n + 1) = if f n = -1 then gB f n else if gB f n = -1 then (n : Int) else if f (gB f n) < f n then (n : Int) else gB f n := fun _ => rfl
    have bd := gB_bd b' n
    rw [e, e, ih, h n (by omega) (by omega)]
    by_cases u : gB b' n = -1
    · rw [if_pos u, if_pos u]
    · rw [h (gB b' n) (by omega) (by omega)]
theorem lkR_congr {W : Int → Int} : ∀ (n : Nat) (B B' : Int → Int) (h w b : Int), (∀ t, 0 ≤ t → t < 12 → B t = B' t) → lkR W n B h w b = lkR W n B' h w b
  | 0, _, _, _, _, _, _ => rfl
  | n + 1, B, B', h, w, b, q => by
    have bd := gB_bd B' 12
    have ih : ∀ g h w b, lkR W n (jfu B g (-1)) h w b = lkR W n (jfu B' g (-1)) h w b := fun g h w b => lkR_congr n _ _ h w b (fun t t0 t1 => by
      unfold jfu
      rw [q t t0 t1])
    rw [lkR_s, lkR_s, gB_congr 12 (fun t t0 t1 => q t t0 (by omega)), ih, ih]
    by_cases u : gB B' 12 = -1
    · rw [if_pos (Or.inl u), if_pos (Or.inl u)]
    · rw [q (gB B' 12) (by omega) (by omega)]
/-- what likest leaves as it was -/
def jKl (M M' : jM) : Prop := (∀ x y, ¬ (x = 20 ∨ x = 21 ∨ x = 22 ∨ x = 27) → M' x y = M x y) ∧ (∀ c, 0 ≤ c → c < 100 → M' 21 7 c = 0) ∧ M' 22 0 11 = 0
noncomputable def lkX (M : jM) (a tm : Int) : Int × Int × Int := lkR (fun t => bwo M a t 0 tm 0) 12 (lkB M a) 0 (-1) (-1)
theorem c_likest {M : jM} {a tm : Int} (hI : jOk M) (ha : 0 ≤ a ∧ a < 12) : jCallP 12 162 [.inr (27, 0), .inl a, .inl tm] M (fun r M' => r = (lkX M a tm).2.2 ∧ M' 27 0 3 = (lkX M a tm).1 ∧ M' 27 0 4 = (lkX M a tm).2.1 ∧ jKl M M') := by
  obtain ⟨hL, hG, hz, h11⟩ := hI
  obtain ⟨hGa, hSa⟩ := hG a ha.1 (by omega)
  refine jstart (by decide) rfl (fX6_likest_0 ?_)
  -- the rounds
  have rounds : ∀ (j n : Nat) (N : jM) (b : Int), n + j = 12 → (∀ x y, ¬ (x = 20 ∨ x = 21 ∨ x = 22 ∨ x = 27) → N x y = M x y) → (∀ c, 0 ≤ c → c < 100 → N 21 7 c = 0) → N 22 0 11 = 0 → N 27 0 3 = n →
      jWP 12 162 83 [some (.inr (27, 0)), some (.inl a), some (.inl tm), some (.inl b), some (.inl (n : Int)), none, none] [] N (fun r M' => r = (lkR (fun t => bwo M a t 0 tm 0) j (N 27 3) n (N 27 0 4) b).2.2 ∧ M' 27 0 3 = (lkR (fun t => bwo M a t 0 tm 0) j (N 27 3) n (N 27 0 4) b).1 ∧ M' 27 0 4 = (lkR (fun t => bwo M a t 0 tm 0) j (N 27 3) n (N 27 0 4) b).2.1 ∧ jKl M M') := by
    intro j
    induction j with
    | zero =>
      intro n N b hn f1 f2 f3 f4
      exact fX6_likest_83 ⟨fun _ => ⟨rfl, f4, rfl, f1, f2, f3⟩, fun z => by exfalso; omega⟩
    | succ j ih =>
      intro n N b hn f1 f2 f3 f4
      have bd := gB_bd (N 27 3) 12
      refine fX6_likest_83 ⟨fun z => by exfalso; omega, fun _ => jc (c_greatestBound N) (by decide) ?_⟩
      have out : (gB (N 27 3) 12 = -1 ∨ N 27 3 (gB (N 27 3) 12) < N 27 0 4 ∨ (N 27 3 (gB (N 27 3) 12) = N 27 0 4 ∧ b < gB (N 27 3) 12)) → b = (lkR (fun t => bwo M a t 0 tm 0) (j + 1) (N 27 3) n (N 27 0 4) b).2.2 ∧ N 27 0 3 = (lkR (fun t => bwo M a t 0 tm 0) (j + 1) (N 27 3) n (N 27 0 4) b).1 ∧ N 27 0 4 = (lkR (fun t => bwo M a t 0 tm 0) (j + 1) (N 27 3) n (N 27 0 4) b).2.1 ∧ jKl M N := fun h => by
        rw [lkR_s, if_pos h]
        exact ⟨rfl, f4, rfl, f1, f2, f3⟩
      have inn : ¬ (gB (N 27 3) 12 = -1 ∨ N 27 3 (gB (N 27 3) 12) < N 27 0 4 ∨ (N 27 3 (gB (N 27 3) 12) = N 27 0 4 ∧ b < gB (N 27 3) 12)) → jWP 12 162 139 [some (.inr (27, 0)), some (.inl a), some (.inl tm), some (.inl b), some (.inl (n : Int)), some (.inl (gB (N 27 3) 12)), none] [] N (fun r M' => r = (lkR (fun t => bwo M a t 0 tm 0) (j + 1) (N 27 3) n (N 27 0 4) b).2.2 ∧ M' 27 0 3 = (lkR (fun t => bwo M a t 0 tm 0) (j + 1) (N 27 3) n (N 27 0 4) b).1 ∧ M' 27 0 4 = (lkR (fun t => bwo M a t 0 tm 0) (j + 1) (N 27 3) n (N 27 0 4) b).2.1 ∧ jKl M M') := fun h => by
        rw [lkR_s, if_neg h]
        generalize hg : gB (N 27 3) 12 = g at h bd
        have gb : 0 ≤ g ∧ g < 12 := by omega
        obtain ⟨hGg, -⟩ := hG g gb.1 (by omega)
        refine fX6_likest_139 ⟨⟨gb.1, by rw [show jal 27 3 = 12 from rfl]; exact gb.2⟩, ha, gb, ?_⟩
        rw [jup_ne (M := N) (g := 27) (k := 3) (by simp), f4, jwr_id (by omega) (by omega)]
        generalize hN1 : jup (jup N 27 3 g (-1)) 27 0 3 ((n : Int) + 1) = N1
        have o1 : ∀ x y, ¬ (x = 27 ∧ (y = 0 ∨ y = 3)) → N1 x y = N x y := fun x y h => by rw [← hN1, jup_set, jset_ne (by omega), jup_set, jset_ne (by omega)]
        have o2 : N1 27 3 = jfu (N 27 3) g (-1) := by rw [← hN1, jup_set, jset_ne (by simp), jup_set, jset_eq]
        have o3 : N1 27 0 3 = ((n + 1 : Nat) : Int) := by rw [← hN1, jup_eq]; omega
        have o4 : N1 27 0 4 = N 27 0 4 := by rw [← hN1, jup_ne (by simp), jup_ne (by simp)]
        refine jcq (c_likeness (C := M) (M := N1) (tm := tm) hL hGa hGg hSa (by omega) (by funext y; rw [o1 19 y (by simp), f1 19 y (by simp)]) (by funext y; rw [o1 a y (by omega), f1 a y (by omega)]) (by funext y; rw [o1 g y (by omega), f1 g y (by omega)]) (fun c c0 c1 => by rw [o1 21 7 (by simp)]; exact f2 c c0 c1) (by rw [o1 22 0 (by simp)]; exact f3)) (by decide) ?_
        rintro r2 M2 ⟨R, hK, e2, -, -⟩
        have hw := bwo_eq hGg.1.2.1.1.2 (isL_best hL hGa hGg hK.1)
        rw [← hw] at e2
        obtain ⟨-, hS2, -, -, -, g11, -, k8⟩ := hK
        have p1 : ∀ x y, ¬ (x = 20 ∨ x = 21 ∨ x = 22 ∨ x = 27) → M2 x y = M x y := fun x y h => by rw [k8 x y (by omega), o1 x y (by omega), f1 x y h]
        have p4 : M2 27 0 4 = N 27 0 4 := by rw [k8 27 0 (by simp), o4]
        have p2 : M2 27 3 = jfu (N 27 3) g (-1) := by rw [k8 27 3 (by simp), o2]
        have p3 : M2 27 0 3 = ((n + 1 : Nat) : Int) := by rw [k8 27 0 (by simp), o3]
        have en : (n : Int) + 1 = ((n + 1 : Nat) : Int) := by omega
        have yes : (N 27 0 4 < r2 ∨ (r2 = N 27 0 4 ∧ g < b)) → jWP 12 162 83 [some (.inr (27, 0)), some (.inl a), some (.inl tm), some (.inl g), some (.inl ((n : Int) + 1)), none, none] [] (jup M2 27 0 4 r2) (fun r M' => r = (if N 27 0 4 < bwo M a g 0 tm 0 ∨ (bwo M a g 0 tm 0 = N 27 0 4 ∧ g < b) then lkR (fun t => bwo M a t 0 tm 0) j (jfu (N 27 3) g (-1)) ((n : Int) + 1) (bwo M a g 0 tm 0) g else lkR (fun t => bwo M a t 0 tm 0) j (jfu (N 27 3) g (-1)) ((n : Int) + 1) (N 27 0 4) b).2.2 ∧ M' 27 0 3 = (if N 27 0 4 < bwo M a g 0 tm 0 ∨ (bwo M a g 0 tm 0 = N 27 0 4 ∧ g < b) then lkR (fun t => bwo M a t 0 tm 0) j (jfu (N 27 3) g (-1)) ((n : Int) + 1) (bwo M a g 0 tm 0) g else lkR (fun t => bwo M a t 0 tm 0) j (jfu (N 27 3) g (-1)) ((n : Int) + 1) (N 27 0 4) b).1 ∧ M' 27 0 4 = (if N 27 0 4 < bwo M a g 0 tm 0 ∨ (bwo M a g 0 tm 0 = N 27 0 4 ∧ g < b) then lkR (fun t => bwo M a t 0 tm 0) j (jfu (N 27 3) g (-1)) ((n : Int) + 1) (bwo M a g 0 tm 0) g else lkR (fun t => bwo M a t 0 tm 0) j (jfu (N 27 3) g (-1)) ((n : Int) + 1) (N 27 0 4) b).2.1 ∧ jKl M M') := fun hy => by
          have := ih (n + 1) (jup M2 27 0 4 r2) g (by omega) (fun x y h => by rw [jup_set, jset_ne (by omega), p1 x y h]) (fun c c0 c1 => by rw [jup_set, jset_ne (by simp)]; exact hS2.2.2 c c0 c1) (by rw [jup_ne (by simp)]; exact g11) (by rw [jup_ne (by simp), p3])
          rw [jup_eq, show jup M2 27 0 4 r2 27 3 = jfu (N 27 3) g (-1) by rw [jup_set, jset_ne (by simp), p2]] at this
          rw [if_pos (by rw [← e2]; exact hy), en, ← e2]
          exact this
        have no : ¬ (N 27 0 4 < r2 ∨ (r2 = N 27 0 4 ∧ g < b)) → jWP 12 162 83 [some (.inr (27, 0)), some (.inl a), some (.inl tm), some (.inl b), some (.inl ((n : Int) + 1)), none, none] [] M2 (fun r M' => r = (if N 27 0 4 < bwo M a g 0 tm 0 ∨ (bwo M a g 0 tm 0 = N 27 0 4 ∧ g < b) then lkR (fun t => bwo M a t 0 tm 0) j (jfu (N 27 3) g (-1)) ((n : Int) + 1) (bwo M a g 0 tm 0) g else lkR (fun t => bwo M a t 0 tm 0) j (jfu (N 27 3) g (-1)) ((n : Int) + 1) (N 27 0 4) b).2.2 ∧ M' 27 0 3 = (if N 27 0 4 < bwo M a g 0 tm 0 ∨ (bwo M a g 0 tm 0 = N 27 0 4 ∧ g < b) then lkR (fun t => bwo M a t 0 tm 0) j (jfu (N 27 3) g (-1)) ((n : Int) + 1) (bwo M a g 0 tm 0) g else lkR (fun t => bwo M a t 0 tm 0) j (jfu (N 27 3) g (-1)) ((n : Int) + 1) (N 27 0 4) b).1 ∧ M' 27 0 4 = (if N 27 0 4 < bwo M a g 0 tm 0 ∨ (bwo M a g 0 tm 0 = N 27 0 4 ∧ g < b) then lkR (fun t => bwo M a t 0 tm 0) j (jfu (N 27 3) g (-1)) ((n : Int) + 1) (bwo M a g 0 tm 0) g else lkR (fun t => bwo M a t 0 tm 0) j (jfu (N 27 3) g (-1)) ((n : Int) + 1) (N 27 0 4) b).2.1 ∧ jKl M M') := fun hy => by
          have := ih (n + 1) M2 b (by omega) p1 hS2.2.2 g11 p3
          rw [p4, p2] at this
          rw [if_neg (by rw [← e2]; exact hy), en]
          exact this
        rw [p4]
        exact ⟨fun w => yes (Or.inl w), fun w => ⟨fun w2 => no (by omega), fun w2 => ⟨fun w3 => no (by omega), fun w3 => yes (Or.inr ⟨w2, w3⟩)⟩⟩⟩
      have bj : gB (N 27 3) 12 < jal 27 3 := by rw [show jal 27 3 = 12 from rfl]; exact bd.2
      exact ⟨fun w => out (Or.inl w), fun w => ⟨⟨by omega, bj⟩, fun w2 => out (Or.inr (Or.inl w2)), fun w2 => ⟨⟨by omega, bj⟩, fun w3 => inn (by omega), fun w3 => ⟨fun w4 => inn (by omega), fun w4 => out (Or.inr (Or.inr ⟨w3, w4⟩))⟩⟩⟩⟩
  -- the bounds
  have bounds : ∀ (j n : Nat) (f : Int → Int), n + j = 12 → (∀ t : Int, 0 ≤ t → t < n → f t = lkB M a t) → jWP 12 162 2 [some (.inr (27, 0)), some (.inl a), some (.inl tm), some (.inl (n : Int)), none, none, none] [] (jset M 27 3 f) (fun r M' => r = (lkX M a tm).2.2 ∧ M' 27 0 3 = (lkX M a tm).1 ∧ M' 27 0 4 = (lkX M a tm).2.1 ∧ jKl M M') := by
    intro j
    induction j with
    | zero =>
      intro n f hn hf
      refine fX6_likest_2 ⟨fun _ => ?_, fun z => by exfalso; omega⟩
      have := rounds 12 0 (jup (jup (jset M 27 3 f) 27 0 3 0) 27 0 4 (-1)) (-1) (by omega) (fun x y h => by rw [jup_set, jset_ne (by omega), jup_set, jset_ne (by omega), jset_ne (by omega)]) (fun c c0 c1 => by rw [jup_set, jset_ne (by simp), jup_set, jset_ne (by simp), jset_ne (by simp)]; exact hz c c0 c1) (by rw [jup_ne (by simp), jup_ne (by simp), jset_ne (by simp)]; exact h11) (by rw [jup_ne (by simp), jup_eq]; rfl)
      rw [jup_eq, show jup (jup (jset M 27 3 f) 27 0 3 0) 27 0 4 (-1) 27 3 = f by rw [jup_set, jset_ne (by simp), jup_set, jset_ne (by simp), jset_eq], lkR_congr 12 f (lkB M a) _ _ _ (fun t t0 t1 => hf t t0 (by omega))] at this
      exact this
    | succ j ih =>
      intro n f hn hf
      have en : (n : Int) + 1 = ((n + 1 : Nat) : Int) := by omega
      have hGn := (hG n (by omega) (by omega)).1
      have nx : ∀ v, v = lkB M a n → jWP 12 162 2 [some (.inr (27, 0)), some (.inl a), some (.inl tm), some (.inl (jwr ((n : Int) + 1))), none, none, none] [] (jup (jset M 27 3 f) 27 3 n v) (fun r M' => r = (lkX M a tm).2.2 ∧ M' 27 0 3 = (lkX M a tm).1 ∧ M' 27 0 4 = (lkX M a tm).2.1 ∧ jKl M M') := fun v hv => by
        rw [jwr_id (by omega) (by omega), en, jup_set, jset_set, jset_eq]
        exact ih (n + 1) (jfu f n v) (by omega) (fun t t0 t1 => by
          by_cases u : t = n
          · rw [u, jfu_eq, hv]
          · rw [jfu_ne u]; exact hf t t0 (by omega))
      have bn : 0 ≤ (n : Int) ∧ (n : Int) < jal 27 3 := by rw [show jal 27 3 = 12 from rfl]; omega
      have no : ¬ (¬ (n : Int) = a ∧ 0 < M n 0 1) → jWP 12 162 30 [some (.inr (27, 0)), some (.inl a), some (.inl tm), some (.inl (n : Int)), none, none, none] [.inl 0] (jset M 27 3 f) (fun r M' => r = (lkX M a tm).2.2 ∧ M' 27 0 3 = (lkX M a tm).1 ∧ M' 27 0 4 = (lkX M a tm).2.1 ∧ jKl M M') := fun h => fX6_likest_30 ⟨fun _ => ⟨bn, nx (-1) (by unfold lkB; rw [if_neg h])⟩, fun w => absurd rfl w⟩
      have e0 : ∀ g : Int, 0 ≤ g ∧ g < 12 → (jset M 27 3 f) g = M g := fun g h => by funext y; rw [jset_ne (by omega)]
      refine fX6_likest_2 ⟨fun z => by exfalso; omega, fun _ => ⟨fun z => no (fun h => h.1 z), fun z => ⟨by omega, by omega, fun z2 => no (fun h => ?_), fun z2 => fX6_likest_30 ⟨fun w => absurd w (by decide), fun _ => ⟨ha, by omega, ?_⟩⟩⟩⟩⟩
      · rw [e0 n (by omega)] at z2; omega
      · rw [e0 n (by omega)] at z2
        have hB := c_boundOf (M := jset M 27 3 f) (a := a) (b := n) (by omega) (by omega) (by unfold jNB; rw [e0 a ha]; exact hGa.1.2.1) (by unfold jNB; rw [e0 n (by omega)]; exact hGn.1.2.1) (by unfold jHs; rw [e0 a ha]; exact hGa.2.2.1)
        have eb : bnd (jset M 27 3 f) a n = bnd M a n := by
          have k : ∀ k : Nat, bK (jset M 27 3 f) a n k = bK M a n k := fun k => by
            induction k with
            | zero => rfl
            | succ k ih =>
              have hh : ∀ i : Nat, hgh (jset M 27 3 f) a k i = hgh M a k i := fun i => by
                induction i with
                | zero => rfl
                | succ i ih => unfold hgh; rw [ih, e0 a ha]
              unfold bK
              rw [ih, hh, e0 a ha, e0 n (by omega)]
          have s : ∀ k : Nat, bS (jset M 27 3 f) a n k = bS M a n k := fun k => by
            induction k with
            | zero => rfl
            | succ k ih => unfold bS; rw [ih, e0 a ha, e0 n (by omega)]
          unfold bnd
          rw [k, s]
        refine jc hB (by decide) ⟨bn, ?_⟩
        rw [eb]
        exact nx _ (by unfold lkB; rw [if_pos ⟨z, z2⟩])
  have h := bounds 12 0 (M 27 3) (by omega) (fun t t0 t1 => by omega)
  rw [jset_self] at h
  exact h
