/-! the reference: bits, speaks, giveUp -/
theorem m_bits {M : jM} {v : Int} (hv : jwr v = v) : jCallP 0 96 [.inl v] M (fun r M' => r = bcS v 6 ∧ M' = M) := by
  refine jstart (by decide) rfl (fX10_bits_0 ?_)
  have bd : ∀ n : Nat, 0 ≤ bcS v n ∧ bcS v n ≤ n := fun n => by
    induction n with
    | zero => exact ⟨Int.le_refl _, Int.le_refl _⟩
    | succ n ih =>
      have e : bcS v (n + 1) = bcS v n + (if jiand (jishr v n) 1 = 0 then 0 else 1) := rfl
      rw [e]
      split <;> omega
  have key : ∀ j n : Nat, n + j = 6 → jWP 0 96 4 [some (.inl v), some (.inl (bcS v n)), some (.inl (n : Int))] [] M (fun r M' => r = bcS v 6 ∧ M' = M) := by
    intro j
    induction j with
    | zero =>
      intro n hn
      have : n = 6 := by omega
      subst this
      exact fX10_bits_4 ⟨fun _ => ⟨rfl, rfl⟩, fun z => by exfalso; omega⟩
    | succ j ih =>
      intro n hn
      have hi := ih (n + 1) (by omega)
      have en : (n : Int) + 1 = ((n + 1 : Nat) : Int) := by omega
      have e : bcS v (n + 1) = bcS v n + (if jiand (jishr v n) 1 = 0 then 0 else 1) := rfl
      have t := (isM_self hv).test1 (k := n) (by omega) (by omega)
      have b := bd n
      have e2 : (if jiand (jishr v n) 1 = 0 then (0 : Int) else 1) = jiand (jishr v n) 1 := by
        rcases t with t | t
        · rw [if_pos t, t]
        · rw [if_neg (by omega), t]
      refine fX10_bits_4 ⟨fun z => by exfalso; omega, fun _ => ?_⟩
      rw [jwr_id (z := (n : Int) + 1) (by omega) (by omega), en, jwr_id (by omega) (by omega), ← e2, ← e]
      exact hi
  exact key 6 0 (by omega)
theorem bcS_bd (v : Int) : ∀ n : Nat, 0 ≤ bcS v n ∧ bcS v n ≤ n
  | 0 => ⟨Int.le_refl _, Int.le_refl _⟩
  | n + 1 => by
    have ih := bcS_bd v n
    have e : bcS v (n + 1) = bcS v n + (if jiand (jishr v n) 1 = 0 then 0 else 1) := rfl
    rw [e]
    split <;> omega
theorem gvn_rw {C : jM} {R : Int → Int} {v : Int} (hw : rw1 C 12 13 R) : rw1 C 12 13 (gvn v R) := fun x => by
  have := hw x
  unfold gvn
  split
  · exact this
  · exact Or.inl rfl
theorem m_speaks {C M : jM} {R : Int → Int} {v lv tm : Int} (hk : kd C M) (hv : jwr v = v) (hw : rw1 C 12 13 R) (hR : ∀ x, 0 ≤ x → x < C 12 0 0 → M 28 21 x = nd (R x)) (h18 : M 28 0 18 = lv) (h19 : M 28 0 19 = tm) (hlv : 0 ≤ lv ∧ lv < 3) :
    jCallP 4 97 [.inr (28, 0), .inl v] M (fun r M' => jBl r (speaks C lv tm (gvn v R)) ∧ fS M M') := by
  have hG : gd C 12 13 := ⟨hk.1, hk.2.1, hk.2.2.1, by omega, by omega⟩
  have n1 := hk.2.1.1.2.1.1
  have n2 := hk.2.1.1.2.1.2
  have nb1 := hk.2.2.1.1.2.1.1
  have nb2 := hk.2.2.1.1.2.1.2
  have hw' := gvn_rw (v := v) hw
  have sc : ∀ N : jM, (∀ x y, ¬ (x = 28 ∧ y = 11) → N x y = M x y) → fS M N := fun N f => (fL_11 f).s
  refine jstart (by decide) rfl (fX10_speaks_0 ?_)
  have key : ∀ i, 0 ≤ i → i ≤ 6 → ∀ N : jM, (∀ x, 0 ≤ x → x < i → x < C 12 0 0 → N 28 11 x = nd (gvn v R x)) → (∀ x y, ¬ (x = 28 ∧ y = 11) → N x y = M x y) → jWP 4 97 2 [some (.inr (28, 0)), some (.inl v), some (.inl i), none] [] N (fun r M' => jBl r (speaks C lv tm (gvn v R)) ∧ fS M M') := by
    refine jloop (e := 6) (fun N h f => ?_) (fun i i0 i1 ih N h f => ?_)
    · have hk0 := (sc N f).kd hk
      refine fX10_speaks_2 ⟨fun _ => ?_, fun z => by exfalso; omega⟩
      rw [f 28 0 (by simp), h18, h19]
      refine jcq (m_weigh (R := gvn v R) (lv := lv) (tm := tm) hG hk0.2.2.2 hw' (fun x x0 x1 => h x x0 (by omega) x1) hlv) (by decide) ?_
      rintro r1 N1 ⟨-, an, -, f1⟩
      have f1' := (sc N f).tr f1.s
      refine jcq (m_layGuesses (C := C) (p := gvn v R) (A := ans C 12 13 lv 0 tm (gvn v R)) (f1'.kd hk) ⟨fun x x0 x1 => ⟨by rw [f1.2.1 11 (by decide)]; exact h x x0 (by omega) x1, by have := hw' x; omega⟩, fun i i0 i1 => ⟨(an i i0 i1).1, (an i i0 i1).2.1, by have := (an i i0 i1).2.2; omega⟩, fun i i0 i1 => by omega⟩) (by decide) ?_
      rintro r2 N2 ⟨⟨m1, m2, m3⟩, f2⟩
      have f2' := f1'.tr f2.s
      have hS : speaks C lv tm (gvn v R) = spk C (gvn v R) (ans C 12 13 lv 0 tm (gvn v R)) (gS C (gvn v R) (ans C 12 13 lv 0 tm (gvn v R)) (C 12 0 1).toNat).2 := rfl
      generalize hAA : ans C 12 13 lv 0 tm (gvn v R) = A at m1 m2 m3 hS
      obtain ⟨q1, q2, q3, q4, q5⟩ := gS_bd C (gvn v R) A (C 12 0 1).toNat
      generalize hGG : (gS C (gvn v R) A (C 12 0 1).toNat).2 = G at m1 m3 hS q2 q3 q4 q5
      generalize hcc : (gS C (gvn v R) A (C 12 0 1).toNat).1 = c at m2 q1 q2 q4
      have key2 : ∀ j n : Nat, ((n + j : Nat) : Int) = c → ∀ s, (s = 0 ∨ s = 1) → (s = 1 ↔ ∃ i, (0 ≤ i ∧ i < C 12 0 1) ∧ (0 ≤ G i ∧ G i < n) ∧ agn C (gvn v R) A G i) → jWP 4 97 65 [some (.inr (28, 0)), none, some (.inl s), some (.inl (n : Int))] [] N2 (fun r M' => jBl r (speaks C lv tm (gvn v R)) ∧ fS M M') := by
        intro j
        induction j with
        | zero =>
          intro n hn s hs h
          refine fX10_speaks_65 ⟨fun _ => ⟨hs, ?_, f2'⟩, fun z => by rw [m2] at z; exfalso; omega⟩
          have e : s = 1 ↔ speaks C lv tm (gvn v R) := by
            rw [h, hS]
            exact ⟨fun ⟨i, h1, h2, h3⟩ => ⟨i, h1, h2.1, h3⟩, fun ⟨i, h1, h2, h3⟩ => ⟨i, h1, ⟨h2, by have := (q2 i).2; omega⟩, h3⟩⟩
          exact hs.elim (fun e0 => Or.inr ⟨e0, fun q => by have := e.mpr q; omega⟩) (fun e1 => Or.inl ⟨e1, e.mp e1⟩)
        | succ j ih =>
          intro n hn s hs h
          have en : (n : Int) + 1 = ((n + 1 : Nat) : Int) := by omega
          obtain ⟨T, T0, T1, eT⟩ := q4 n (by omega) (by omega)
          have hT : N2 28 24 n = T := by
            have := m3 T T0 (by omega) (by omega)
            rwa [eT] at this
          refine fX10_speaks_65 ⟨fun z => by rw [m2] at z; exfalso; omega, fun _ => ?_⟩
          rw [jwr_id (by omega) (by omega), en]
          refine ⟨fun z => ih (n + 1) (by omega) 1 (Or.inr rfl) ⟨fun _ => ?_, fun _ => rfl⟩, fun z => ?_⟩
          · obtain ⟨i, h1, h2, h3⟩ := h.mp (by omega)
            exact ⟨i, h1, by omega, h3⟩
          · refine jcq (m_isAgainst (f2'.kd hk) m1 hT T0 (by omega) (by omega)) (by decide) ?_
            rintro r M' ⟨bl, rfl⟩
            refine ⟨fun w => ih (n + 1) (by omega) 0 (Or.inl rfl) ⟨fun q => absurd q (by decide), fun ⟨i, h1, h2, h3⟩ => ?_⟩, fun w => ih (n + 1) (by omega) 1 (Or.inr rfl) ⟨fun _ => ⟨T, by omega, by omega, (jBl_ne bl).mp w⟩, fun _ => rfl⟩⟩
            by_cases u : G i = n
            · have : i = T := q5 i T h2.1 (by omega)
              rw [this] at h3
              exact absurd h3 ((jBl_eq bl).mp w)
            · have := h.mpr ⟨i, h1, by omega, h3⟩
              omega
      exact key2 c.toNat 0 (by omega) 0 (Or.inl rfl) ⟨fun q => absurd q (by decide), fun ⟨i, h1, h2, h3⟩ => by omega⟩
    · have t := (isM_self hv).test1 (k := i) i0 (by omega)
      have b11 : 0 ≤ i ∧ i < jal 28 11 := by rw [jal_28_11]; omega
      have b21 : 0 ≤ i ∧ i < jal 28 21 := by rw [jal_28_21]; omega
      have nx : ∀ u, (i < C 12 0 0 → u = nd (gvn v R i)) → jWP 4 97 2 [some (.inr (28, 0)), some (.inl v), some (.inl (i + 1)), none] [] (jup N 28 11 i u) (fun r M' => jBl r (speaks C lv tm (gvn v R)) ∧ fS M M') := fun u hu => ih _ (fun x x0 x1 x2 => by
        by_cases e : x = i
        · rw [e, jup_eq]; exact hu (by omega)
        · rw [jup_ne (by omega)]; exact h x x0 (by omega) x2) (fun x y q => by rw [jup_set, jset_ne q, f x y q])
      refine fX10_speaks_2 ⟨fun z => by exfalso; omega, fun _ => ?_⟩
      rw [jwr_id (by omega) (by omega), f 28 21 (by simp)]
      exact ⟨fun z => ⟨b21, b11, nx _ (fun hi => by rw [hR i i0 hi]; unfold gvn; rw [if_pos (by omega)])⟩, fun z => ⟨b11, nx 9 (fun hi => by unfold gvn; rw [if_neg (by omega)]; rfl)⟩⟩
  exact key 0 (by omega) (by omega) M (fun x x0 x1 => by omega) (fun _ _ _ => rfl)
/-- with nothing paired nothing is guessed -/
theorem quiet {C : jM} {p : Int → Int} {lv tm : Int} (hG : gd C 12 13) (hp : ∀ x, p x = -1) : ¬ speaks C lv tm p := by
  have hEn := hG.2.1.2.1
  have hC := hG.2.1.2.2.2.2
  have K := hG.2.1.1.2.2.1
  have nb2 := hG.2.2.1.1.2.1.2
  have first : ∀ i, 0 ≤ i → i < C 12 0 1 → 0 ≤ C 12 6 (3 * i) := fun i i0 i1 => by
    have k := K i i0 i1
    have e := hEn i 0 i0 i1 (by omega) (by omega)
    have c := hC i 0 i0 i1 (by omega) (by omega)
    rw [Int.add_zero] at e c
    have := (hG.1 _ k.1 k.2).1
    omega
  have hA : ∀ n : Nat, ∀ k, ansF C 12 13 lv 0 tm p n k = -1 ∨ (n : Int) > C 12 0 1 := by
    intro n
    induction n with
    | zero => intro k; exact Or.inl rfl
    | succ n ih =>
      intro k
      by_cases hn : (n : Int) < C 12 0 1
      · left
        have e : ansF C 12 13 lv 0 tm p (n + 1) = jfu (ansF C 12 13 lv 0 tm p n) n (jfst (cand C 12 13 lv 0 tm p (ansF C 12 13 lv 0 tm p n) n) (C 13 0 1).toNat) := rfl
        have ih' : ∀ k, ansF C 12 13 lv 0 tm p n k = -1 := fun k => (ih k).resolve_right (by omega)
        rw [e]
        by_cases u : k = n
        · rw [u, jfu_eq]
          refine jfst_none (fun j j0 j1 hc => ?_)
          have f := first n (by omega) hn
          have ev := hEn n 1 (by omega) hn (by omega) (by omega)
          have no : ∀ e f', 0 ≤ e → ¬ EA C 13 p (sLS (ansF C 12 13 lv 0 tm p n)) (fun _ => False) e f' := fun e f' e0 h => by
            unfold EA sLS at h
            rcases h with ⟨-, -, h | h⟩ | ⟨h1, h2, h3, h4⟩
            · rw [hp] at h; omega
            · rw [hp] at h; omega
            · rw [ih'] at h3; omega
          rcases hc.1.2 with h | h
          · exact no _ _ f h.1
          · exact no _ _ f h.2.1
        · rw [jfu_ne u]; exact ih' k
      · right; omega
  have hA' : ∀ k, ans C 12 13 lv 0 tm p k = -1 := fun k => (hA (C 12 0 1).toNat k).resolve_right (by have := hG.2.1.1.2.1.2; omega)
  have hg : ∀ n : Nat, (n : Int) ≤ C 12 0 1 → ∀ k, (gS C p (ans C 12 13 lv 0 tm p) n).2 k = -1 := by
    intro n
    induction n with
    | zero => intro _ k; rfl
    | succ n ih =>
      intro hn k
      have ih := ih (by omega)
      have no : ¬ (ans C 12 13 lv 0 tm p n = -1 ∧ isG C p (ans C 12 13 lv 0 tm p) (gS C p (ans C 12 13 lv 0 tm p) n).2 n) := by
        rintro ⟨-, h⟩
        have f := first n (by omega) (by omega)
        have h0 := h 0 (by omega) (by omega)
        rw [Int.add_zero] at h0
        rcases h0 with h0 | h0
        · omega
        · refine h0 ?_
          unfold ovr
          rw [if_neg (by omega)]
          split
          · exact hp _
          · rw [if_pos (hA' _), if_pos (ih _)]
      rw [gS_no no]
      exact ih k
  rintro ⟨i, -, h2, -⟩
  rw [hg (C 12 0 1).toNat (by have := hG.2.1.1.2.1.2; omega)] at h2
  omega
