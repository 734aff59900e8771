/-! weaveCommon -/
def wTh (M S : jM) (a b : Int) (R : Int → Int) (n : Nat) : Prop := S 14 0 0 = cP (fun x => 0 ≤ R x) n ∧ S 14 0 1 = 0 ∧ S 14 0 2 = 0 ∧ (∀ x : Int, 0 ≤ x → x < n → 0 ≤ R x → S 26 6 x = cP (fun x => 0 ≤ R x) x.toNat ∧ S 14 4 (cP (fun x => 0 ≤ R x) x.toNat) = if M a 4 x = M b 4 (R x) then M a 4 x else 0) ∧ (∀ x : Int, 0 ≤ x → x < 6 → ¬ (x < n ∧ 0 ≤ R x) → S 26 6 x = -1) ∧ (∀ i, 0 ≤ i → i < 14 → S 26 7 i = -1) ∧ (∀ z, 0 ≤ z → z < cP (fun x => 0 ≤ R x) n → 0 ≤ S 14 4 z ∧ S 14 4 z < 10) ∧ (∀ x y, ¬ (x = 14 ∧ (y = 0 ∨ y = 4)) → ¬ (x = 26 ∧ (y = 6 ∨ y = 7)) → S x y = M x y)
theorem cP_mono' (P : Int → Prop) : ∀ n m : Nat, n ≤ m → cP P n ≤ cP P m := fun n m h => by
  induction h with
  | refl => exact Int.le_refl _
  | step _ ih => rw [cP_succ]; split <;> omega
theorem cP_lt {P : Int → Prop} {n m : Nat} (h : n < m) (hP : P n) : cP P n < cP P m := by
  have := cP_mono' P (n + 1) m h
  rw [cP_yes hP] at this
  omega
noncomputable def cK (M : jM) (a b : Int) (A : Int → Int) (i : Int) : Int := lab M (meet M (M a 5 i) (M b 5 (A i))).toNat (M a 5 i)
theorem c_weaveCommon {M : jM} {a b : Int} {R A : Int → Int} (hL : jLV M) (ha : 0 ≤ a ∧ a < 14) (hb : 0 ≤ b ∧ b < 14) (hGa : jGood M a) (hGb : jGood M b) (hSa : jSr M a) (hv : vld M a b R) (hR : ∀ x, 0 ≤ x → x < M a 0 0 → M 20 6 x = R x) (hA : ∀ i, 0 ≤ i → i < M a 0 1 → M 20 7 i = A i ∧ -1 ≤ A i ∧ A i < M b 0 1) :
    jCallP 3 172 [.inr (26, 0), .inr (a, 0), .inr (b, 0)] M (fun _ M' => ∃ S, wTh M S a b R (M a 0 0).toNat ∧ jWk S ∧ wOk a (fun i => 0 ≤ A i) (cK M a b A) (fun _ => -1) S ∧ eqo M' (wv a (fun i => 0 ≤ A i) (cK M a b A) (fun _ => -1) S (M a 0 1).toNat)) := by
  have na := hGa.1.2.1
  have nb := hGb.1.2.1
  have na1 := na.1
  have na2 := na.2
  have nb1 := nb.1
  have nb2 := nb.2
  have l4 : ∀ g, 0 ≤ g ∧ g < 18 → jal g 4 = 6 := fun g h => jal_n4 h
  refine jstart (by decide) rfl (fX8_weaveCommon_0 ?_)
  refine jcq (c_clear M) (by decide) ?_
  rintro r1 M1 ⟨z6, z7, f1⟩
  refine ⟨by omega, jcq (c_empty (g := 14) (by omega) 0) (by decide) ?_⟩
  rintro r2 M2 ⟨e0, e1, e2, e4, f2⟩
  -- the ties
  have ties : ∀ S, wTh M S a b R (M a 0 0).toNat → jWP 3 172 113 [some (.inr (26, 0)), some (.inr (a, 0)), some (.inr (b, 0)), some (.inl 0), none, none] [] S (fun _ M' => ∃ S, wTh M S a b R (M a 0 0).toNat ∧ jWk S ∧ wOk a (fun i => 0 ≤ A i) (cK M a b A) (fun _ => -1) S ∧ eqo M' (wv a (fun i => 0 ≤ A i) (cK M a b A) (fun _ => -1) S (M a 0 1).toNat)) := by
    intro S hS
    have hS' := hS
    obtain ⟨s0, s1, s2, s3, s4, s5, s6, s7⟩ := hS
    have e19 : S 19 = M 19 := by funext y; exact s7 19 y (by simp) (by simp)
    have eg : ∀ g, 0 ≤ g ∧ g < 14 → S g = M g := fun g h => by funext y; exact s7 g y (by omega) (by omega)
    have cb := cP_bd (fun x => 0 ≤ R x) (M a 0 0).toNat
    have hW : jWk S := by
      refine ⟨⟨⟨by omega, ⟨by omega, by omega⟩, fun i i0 i1 => by omega, fun i i0 i1 => by omega⟩, fun i q i0 i1 => by omega, fun i i0 i1 => by omega, fun i i0 i1 => by omega, fun i q i0 i1 => by omega⟩, fun i j i0 ij j1 => by omega, fun z z0 z1 => s6 z z0 (by omega), fun x x0 x1 => ?_, fun i i0 i1 => by rw [s5 i i0 i1]; omega⟩
      by_cases u : x < (M a 0 0).toNat ∧ 0 ≤ R x
      · have := cP_lt (P := fun x => 0 ≤ R x) (n := x.toNat) (m := (M a 0 0).toNat) (by omega) (by rw [Int.toNat_of_nonneg x0]; exact u.2)
        have cb2 := cP_bd (fun x => 0 ≤ R x) x.toNat
        rw [(s3 x x0 u.1 u.2).1]
        omega
      · rw [s4 x x0 x1 u]; omega
    have hO : wOk a (fun i => 0 ≤ A i) (cK M a b A) (fun _ => -1) S := by
      refine ⟨ha, good_agr e19 (agr_fx (eg a ha)) (by omega) hGa, fun i i0 i1 hP => ?_⟩
      rw [eg a ha] at i1
      have k := hGa.1.2.2.1 i i0 i1
      have lb := lab_in hL (meet M (M a 5 i) (M b 5 (A i))).toNat (M a 5 i) k.1 k.2
      exact ⟨lb, by rw [e19, eg a ha]; exact lab_ends hL _ _ k.1 k.2, Int.le_refl (-1), (by decide : (-1 : Int) < 10)⟩
    generalize hD : wv a (fun i => 0 ≤ A i) (cK M a b A) (fun _ => -1) S = D
    have key : ∀ (j n : Nat) (N : jM), ((n + j : Nat) : Int) = M a 0 1 → eqo N (D n) → jWP 3 172 113 [some (.inr (26, 0)), some (.inr (a, 0)), some (.inr (b, 0)), some (.inl (n : Int)), none, none] [] N (fun _ M' => ∃ S, wTh M S a b R (M a 0 0).toNat ∧ jWk S ∧ wOk a (fun i => 0 ≤ A i) (cK M a b A) (fun _ => -1) S ∧ eqo M' (wv a (fun i => 0 ≤ A i) (cK M a b A) (fun _ => -1) S (M a 0 1).toNat)) := by
      intro j
      induction j with
      | zero =>
        intro n N hn hN
        have eNa : N a = M a := by
          rw [← eg a ha]
          funext y
          rw [hN a y (by omega), ← hD]
          exact (wv_fr _ _ _ _ _ n).1 a y (by omega) (by omega)
        refine fX8_weaveCommon_113 ⟨by omega, fun _ => ⟨S, hS', hW, hO, ?_⟩, fun z => by rw [eNa] at z; exfalso; omega⟩
        rw [hD, show (M a 0 1).toNat = n by omega]
        exact hN
      | succ j ih =>
        intro n N hn hN
        have en : (n : Int) + 1 = ((n + 1 : Nat) : Int) := by omega
        obtain ⟨w1, w2⟩ := wv_wk hO hW n (by rw [eg a ha]; omega)
        obtain ⟨v1, v2, v3⟩ := wv_fr a (fun i => 0 ≤ A i) (cK M a b A) (fun _ => -1) S n
        have st1 := wv_yes (g := a) (P := fun i => 0 ≤ A i) (K := cK M a b A) (Mo := fun _ => -1) (D := S) (n := n)
        have st2 := wv_no (g := a) (P := fun i => 0 ≤ A i) (K := cK M a b A) (Mo := fun _ => -1) (D := S) (n := n)
        rw [hD] at w1 w2 v1 v2 v3 st1 st2
        have eDg : ∀ g, 0 ≤ g ∧ g < 14 → D n g = M g := fun g h => by rw [← eg g h]; funext y; exact v1 g y (by omega) (by omega)
        have eD19 : D n 19 = M 19 := by rw [← e19]; funext y; exact v1 19 y (by simp) (by simp)
        have eNg : ∀ g, 0 ≤ g ∧ g < 14 → N g = M g := fun g h => by rw [← eDg g h]; funext y; exact hN g y (by omega)
        have eN19 : N 19 = M 19 := by rw [← eD19]; funext y; exact hN 19 y (by simp)
        have eN20 : N 20 = M 20 := by funext y; rw [hN 20 y (by simp), v1 20 y (by simp) (by simp), s7 20 y (by simp) (by simp)]
        obtain ⟨a1, a2, a3⟩ := hA n (by omega) (by omega)
        have no : ¬ (0 ≤ A n ∧ aE (D n) a n) → ∀ N', eqo N' (D n) → jWP 3 172 113 [some (.inr (26, 0)), some (.inr (a, 0)), some (.inr (b, 0)), some (.inl (jwr ((n : Int) + 1))), none, none] [] N' (fun _ M' => ∃ S, wTh M S a b R (M a 0 0).toNat ∧ jWk S ∧ wOk a (fun i => 0 ≤ A i) (cK M a b A) (fun _ => -1) S ∧ eqo M' (wv a (fun i => 0 ≤ A i) (cK M a b A) (fun _ => -1) S (M a 0 1).toNat)) := fun h N' hN' => by
          rw [jwr_id (by omega) (by omega), en]
          exact ih (n + 1) N' (by omega) (by rw [st2 h]; exact hN')
        refine fX8_weaveCommon_113 ⟨by omega, fun z => by rw [eNg a ha] at z; exfalso; omega, fun _ => ⟨⟨by omega, by rw [show jal 20 7 = 14 from rfl]; have := na.2; omega⟩, ?_⟩⟩
        rw [eN20, a1]
        refine ⟨fun z => no (fun h => by omega) N hN, fun z => ?_⟩
        have gNa := good_agr eN19 (agr_fx (eNg a ha)) (by omega) hGa
        refine jcq (c_bringEnds (M := N) (g := a) (i := n) (by omega) gNa.1.2.1 gNa.2.1 ⟨by omega, by rw [eNg a ha]; omega⟩ (fun c c0 c1 => by rw [hN 26 7 (by simp)]; have := w1.2.2.2.2 c c0 c1; have := w1.1.1.2.1.2; omega)) (by decide) ?_
        rintro r1 N1 ⟨bl, f1, br⟩
        have hN1 : eqo N1 (D n) := fun x y h => by rw [f1 x y h, hN x y h]
        have eNE : ∀ e, nE N e = nE (D n) e := nE_fx hN
        have eAE : aE N a n ↔ aE (D n) a n := by
          unfold aE
          rw [eNg a ha, eDg a ha]
          simp only [eNE]
        refine ⟨fun q => no (fun h => (jBl_eq bl).mp q (eAE.mpr h.2)) N1 hN1, fun q => ?_⟩
        have eN1g : ∀ g, 0 ≤ g ∧ g < 14 → N1 g = M g := fun g h => by rw [← eNg g h]; funext y; exact f1 g y (by omega)
        have eN119 : N1 19 = M 19 := by rw [← eN19]; funext y; exact f1 19 y (by simp)
        have hL1 : jLV N1 := by unfold jLV at hL ⊢; rw [eN119]; exact hL
        have kA := hGa.1.2.2.1 n (by omega) (by omega)
        have kB := hGb.1.2.2.1 (A n) z a3
        rw [eN1g a ha, eN1g b hb]
        refine ⟨by omega, ⟨by omega, by rw [jal_n5 (by omega)]; have := na.2; omega⟩, by omega, ⟨z, by rw [jal_n5 (by omega)]; have := nb.2; omega⟩, jc (c_meetingLevel hL1 _ _ kA kB) (by decide) ?_⟩
        rw [eN1g a ha, meet_agr (C := M) eN119]
        have em : (if meet M (M a 5 n) (M b 5 (A n)) < 0 then 0 else meet M (M a 5 n) (M b 5 (A n))) = (((meet M (M a 5 n) (M b 5 (A n))).toNat : Nat) : Int) := by
          split <;> omega
        have mb : (meet M (M a 5 n) (M b 5 (A n))).toNat < 1000 := by
          unfold meet
          split
          · decide
          · split
            · decide
            · split <;> decide
        rw [em]
        refine ⟨by omega, ⟨by omega, by rw [jal_n5 (by omega)]; have := na.2; omega⟩, jc (c_above hL1 _ kA.1 kA.2 _ mb) (by decide) ?_⟩
        rw [lab_agr (C := M) eN119]
        have ck : lab M (meet M (M a 5 n) (M b 5 (A n))).toNat (M a 5 n) = cK M a b A n := rfl
        rw [ck]
        have hk := lab_in hL (meet M (M a 5 n) (M b 5 (A n))).toNat (M a 5 n) kA.1 kA.2
        rw [ck] at hk
        have e14 : N1 14 = D n 14 := by funext y; exact hN1 14 y (by simp)
        have hb14 := good_hb w1.1
        refine jcq (c_findOrPut (M := N1) (m := -1) (by unfold jNB; rw [e14]; exact w1.1.1.2.1) (by unfold jHB; rw [e14]; exact hb14) hk) (by decide) ?_
        rintro r4 N4 ⟨rfl, rfl⟩
        have hbe := bring_eqo (M := N1) (D := D n) (g := a) (i := n) (k := cK M a b A n) (m := -1) hN1 (fun c c0 c1 => by rw [br q c c0 c1, eNE, eNg a ha, eDg a ha])
        refine ⟨⟨by omega, by rw [show jal 26 7 = 14 from rfl]; have := na.2; omega⟩, ?_⟩
        rw [jwr_id (by omega) (by omega), en]
        refine ih (n + 1) _ (by omega) ?_
        rw [st1 ⟨z, eAE.mp ((jBl_ne bl).mp q)⟩]
        exact hbe.2
    exact key (M a 0 1).toNat 0 S (by have := na.2; omega) (by rw [← hD]; exact fun _ _ _ => rfl)
  -- the things
  have key : ∀ (j n : Nat) (N : jM), ((n + j : Nat) : Int) = M a 0 0 → wTh M N a b R n → jWP 3 172 14 [some (.inr (26, 0)), some (.inr (a, 0)), some (.inr (b, 0)), some (.inl (n : Int)), none, none] [] N (fun _ M' => ∃ S, wTh M S a b R (M a 0 0).toNat ∧ jWk S ∧ wOk a (fun i => 0 ≤ A i) (cK M a b A) (fun _ => -1) S ∧ eqo M' (wv a (fun i => 0 ≤ A i) (cK M a b A) (fun _ => -1) S (M a 0 1).toNat)) := by
    intro j
    induction j with
    | zero =>
      intro n N hn hN
      have e : N a = M a := by funext y; exact hN.2.2.2.2.2.2.2 a y (by omega) (by omega)
      refine fX8_weaveCommon_14 ⟨by omega, fun _ => ties N ?_, fun z => by rw [e] at z; exfalso; omega⟩
      rw [show (M a 0 0).toNat = n by omega]
      exact hN
    | succ j ih =>
      intro n N hn hN
      have hNN := hN
      obtain ⟨s0, s1, s2, s3, s4, s5, s6, s7⟩ := hN
      have en : (n : Int) + 1 = ((n + 1 : Nat) : Int) := by omega
      have e : ∀ g, 0 ≤ g ∧ g < 14 → N g = M g := fun g h => by funext y; exact s7 g y (by omega) (by omega)
      have e20 : N 20 = M 20 := by funext y; exact s7 20 y (by simp) (by simp)
      have cb := cP_bd (fun x => 0 ≤ R x) n
      refine fX8_weaveCommon_14 ⟨by omega, fun z => by rw [e a ha] at z; exfalso; omega, fun _ => ⟨⟨by omega, by rw [show jal 20 6 = 6 from rfl]; have := na.1; omega⟩, ?_⟩⟩
      rw [e20, hR n (by omega) (by omega)]
      refine ⟨fun z => ?_, fun z => ?_⟩
      · rw [jwr_id (by omega) (by omega), en]
        have ce : cP (fun x => 0 ≤ R x) (n + 1) = cP (fun x => 0 ≤ R x) n := cP_no (by omega)
        refine ih (n + 1) N (by omega) ⟨by rw [ce, s0], s1, s2, fun x x0 x1 hx => ?_, fun x x0 x1 hx => s4 x x0 x1 (fun h => hx ⟨by omega, h.2⟩), s5, by rw [ce]; exact s6, s7⟩
        by_cases u : x = n
        · rw [u] at hx; omega
        · exact s3 x x0 (by omega) hx
      · have ce : cP (fun x => 0 ≤ R x) (n + 1) = cP (fun x => 0 ≤ R x) n + 1 := cP_yes z
        have vn := hv.1 n
        -- after both writes
        have next : ∀ s, s = (if M a 4 n = M b 4 (R n) then M a 4 n else 0) → jWP 3 172 91 [some (.inr (26, 0)), some (.inr (a, 0)), some (.inr (b, 0)), some (.inl (n : Int)), none, none] [.inl s, .inl (jup N 26 6 n (N 14 0 0) 14 0 0), .inr (14, 4)] (jup N 26 6 n (N 14 0 0)) (fun _ M' => ∃ S, wTh M S a b R (M a 0 0).toNat ∧ jWk S ∧ wOk a (fun i => 0 ≤ A i) (cK M a b A) (fun _ => -1) S ∧ eqo M' (wv a (fun i => 0 ≤ A i) (cK M a b A) (fun _ => -1) S (M a 0 1).toNat)) := by
          intro s hs
          rw [jup_ne (M := N) (a := 14) (by simp), s0]
          refine fX8_weaveCommon_91 ⟨⟨by omega, by rw [show jal 14 4 = 6 from rfl]; have := na.1; omega⟩, by omega, by omega, ?_⟩
          rw [jup_ne (a := 14) (b := 0) (by simp), jup_ne (M := N) (a := 14) (by simp), s0, jwr_id (z := (n : Int) + 1) (by omega) (by omega), en, jwr_id (by omega) (by omega)]
          generalize hN2 : jup (jup (jup N 26 6 n (cP (fun x => 0 ≤ R x) n)) 14 4 (cP (fun x => 0 ≤ R x) n) s) 14 0 0 (cP (fun x => 0 ≤ R x) n + 1) = N2
          have o1 : ∀ x y, ¬ (x = 14 ∧ (y = 0 ∨ y = 4)) → ¬ (x = 26 ∧ y = 6) → N2 x y = N x y := fun x y h h' => by rw [← hN2, jup_set, jset_ne (by omega), jup_set, jset_ne (by omega), jup_set, jset_ne (by omega)]
          have o0 : ∀ c, ¬ c = 0 → N2 14 0 c = N 14 0 c := fun c h => by rw [← hN2, jup_ne (by omega), jup_ne (by simp), jup_ne (by simp)]
          have o00 : N2 14 0 0 = cP (fun x => 0 ≤ R x) n + 1 := by rw [← hN2, jup_eq]
          have o4 : ∀ c, ¬ c = cP (fun x => 0 ≤ R x) n → N2 14 4 c = N 14 4 c := fun c h => by rw [← hN2, jup_ne (by simp), jup_ne (by omega), jup_ne (by simp)]
          have o44 : N2 14 4 (cP (fun x => 0 ≤ R x) n) = s := by rw [← hN2, jup_ne (by simp), jup_eq]
          have o6 : ∀ c : Int, ¬ c = n → N2 26 6 c = N 26 6 c := fun c h => by rw [← hN2, jup_ne (by simp), jup_ne (by simp), jup_ne (by omega)]
          have o66 : N2 26 6 n = cP (fun x => 0 ≤ R x) n := by rw [← hN2, jup_ne (by simp), jup_ne (by simp), jup_eq]
          refine ih (n + 1) N2 (by omega) ⟨by rw [o00, ce], by rw [o0 1 (by omega), s1], by rw [o0 2 (by omega), s2], fun x x0 x1 hx => ?_, fun x x0 x1 hx => ?_, fun i i0 i1 => by rw [o1 26 7 (by simp) (by simp)]; exact s5 i i0 i1, fun z z0 z1 => ?_, fun x y h h' => by rw [o1 x y h (by omega), s7 x y h h']⟩
          · by_cases u : x = n
            · rw [u, o66, show ((n : Int)).toNat = n from rfl, o44]
              exact ⟨rfl, hs⟩
            · have l := cP_lt (P := fun x => 0 ≤ R x) (n := x.toNat) (m := n) (by omega) (by rw [Int.toNat_of_nonneg x0]; exact hx)
              rw [o6 x u, o4 _ (by omega)]
              exact s3 x x0 (by omega) hx
          · rw [o6 x (fun u => hx ⟨by omega, by rw [u]; exact z⟩)]
            exact s4 x x0 x1 (fun h => hx ⟨by omega, h.2⟩)
          · rw [ce] at z1
            by_cases u : z = cP (fun x => 0 ≤ R x) n
            · have := hSa n (by omega) (by omega)
              rw [u, o44, hs]
              split <;> omega
            · rw [o4 z u]; exact s6 z z0 (by omega)
        have l18 : 0 ≤ (n : Int) ∧ (n : Int) < jal a 4 := by rw [l4 a (by omega)]; have := na.1; omega
        refine ⟨by omega, ⟨by omega, by rw [show jal 26 6 = 6 from rfl]; have := na.1; omega⟩, by omega, by omega, by omega, l18, by omega, ⟨z, by rw [l4 b (by omega)]; have := nb.1; omega⟩, ?_⟩
        rw [jup_ne (M := N) (a := a) (by omega), jup_ne (M := N) (a := b) (by omega), e a ha, e b hb]
        exact ⟨fun q => next 0 (by rw [if_neg q]), fun q => ⟨by omega, l18, next _ (by rw [if_pos q])⟩⟩
  refine key (M a 0 0).toNat 0 M2 (by have := na.1; omega) ⟨by rw [e0]; rfl, e1, e2, fun x x0 x1 => by omega, fun x x0 x1 _ => by rw [f2 26 6 (by simp)]; exact z6 x x0 x1, fun i i0 i1 => by rw [f2 26 7 (by simp)]; exact z7 i i0 i1, fun z z0 z1 => ?_, fun x y h h' => by rw [f2 x y h, f1 x y h']⟩
  have : cP (fun x => 0 ≤ R x) 0 = 0 := rfl
  omega
