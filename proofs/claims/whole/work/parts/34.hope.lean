theorem fF_rng {C : jM} {a b : Int} {A : Int → Int} (hA : ∀ i, A i < C b 0 1) (hOb : jMo C b) (m : Int) : -1 ≤ fF C a b A m ∧ fF C a b A m < 10 := by
  unfold fF
  have hsp := jfst_sp (fun i' => 0 ≤ A i' ∧ C a 7 i' = m ∧ 0 ≤ C b 7 (A i')) (C a 0 1).toNat
  generalize jfst (fun i' => 0 ≤ A i' ∧ C a 7 i' = m ∧ 0 ≤ C b 7 (A i')) (C a 0 1).toNat = r at hsp ⊢
  rcases hsp with ⟨h, -⟩ | ⟨r0, r1, ⟨g1, g2, g3⟩, -⟩
  · rw [if_pos h]; omega
  · rw [if_neg (by omega)]
    have := hOb _ g1 (hA _)
    omega
theorem phi_z {W f : Int → Int} (hf : ∀ h, f h < 10) (hW : ∀ c, 0 ≤ c → c < 100 → W c = 0) : ∀ n : Nat, n ≤ 10 → phi W f n = 0
  | 0, _ => rfl
  | n + 1, h => by
    unfold phi
    rw [phi_z hf hW n (by omega)]
    have := hf n
    split
    · rw [hW _ (by omega) (by omega)]; rfl
    · rfl
/-- what is laid of the ties of b -/
noncomputable def gG (C : jM) (b wg v3 v4 v5 j : Int) : Int := if 0 ≤ j ∧ j < C b 0 1 then gn wg (C b 8 j) (jiand v3 (jishl 1 j)) (jiand v4 (jishl 1 j)) (jiand v5 (jishl 1 j)) else 0
theorem gn_bd {wg h o nr an : Int} (h0 : 0 ≤ h ∧ h ≤ 14) : 0 ≤ gn wg h o nr an ∧ gn wg h o nr an ≤ 84 := by
  unfold gn
  split
  · split
    · omega
    · split
      · omega
      · split <;> omega
  · split <;> omega
theorem gG_bd {C : jM} {b wg v3 v4 v5 : Int} (hH : jHs C b) (j : Int) : 0 ≤ gG C b wg v3 v4 v5 j ∧ gG C b wg v3 v4 v5 j ≤ 84 := by
  unfold gG
  split
  · have := hH j (by omega) (by omega)
    exact gn_bd (by omega)
  · omega
theorem uS_bd {C : jM} {b wg v3 v4 v5 : Int} (hH : jHs C b) : ∀ n : Nat, 0 ≤ uS (fun _ => True) (gG C b wg v3 v4 v5) n ∧ uS (fun _ => True) (gG C b wg v3 v4 v5) n ≤ 84 * n
  | 0 => ⟨Int.le_refl _, Int.le_refl _⟩
  | n + 1 => by
    have ih := uS_bd (wg := wg) (v3 := v3) (v4 := v4) (v5 := v5) hH n
    have := gG_bd (wg := wg) (v3 := v3) (v4 := v4) (v5 := v5) hH n
    unfold uS
    rw [if_pos trivial]
    omega
theorem isM_hit {x k : Int} {P : Int → Prop} (h : isM x P) (k0 : 0 ≤ k) (k1 : k < 32) : ¬ jiand x (jishl 1 k) = 0 ↔ P k := by
  rw [(h.and (isM_bit k0 k1)).zero]
  constructor
  · intro q
    by_cases y : P k
    · exact y
    · exact absurd (fun j _ _ z => y (by rw [← z.2]; exact z.1)) q
  · intro y q
    exact q k k0 k1 ⟨y, rfl⟩
set_option maxHeartbeats 4000000 in
theorem c_hope {C M : jM} {a b lv wg tm v : Int} {p : Int → Int} {tk : Int → Prop} (hL : jLV C) (hGa : jGood C a) (hGb : jGood C b) (hR : jRdy C M a b lv tm wg) (hp : ∀ x, 0 ≤ x → x < C a 0 0 → M 20 6 x = p x ∧ -2 ≤ p x ∧ p x < 6) (hv : isM v tk) (hz : ∀ c, 0 ≤ c → c < 100 → M 21 7 c = 0) :
    jCallP 2 116 [.inr (20, 0), .inl v] M (fun r M' => (0 ≤ r ∧ r ≤ 2000) ∧ (∀ p', cmpl C a b p p' tk → wsum C a b wg (ans C a b lv wg tm p') (C a 0 1).toNat ≤ r) ∧ (∀ c, 0 ≤ c → c < 100 → M' 21 7 c = 0) ∧ ∀ x y, ¬ ((x = 20 ∧ (y = 8 ∨ y = 14)) ∨ (x = 21 ∧ (y = 7 ∨ y = 8))) → M' x y = M x y) := by
  obtain ⟨⟨ha, hNa, hKa, hOa⟩, hEa, hHa, -, -⟩ := id hGa
  obtain ⟨⟨hb, hNb, hKb, hOb⟩, hEb, hHb, -, -⟩ := id hGb
  obtain ⟨r1, r2, r3, hT, hC, hH, h19, hMa, hMb⟩ := hR
  have n14a := hNa.2.2
  have n14b := hNb.2.2
  have na0 := hNa.2.1
  have nb0 := hNb.2.1
  have hAbd : ∀ p' i, ans C a b lv wg tm p' i < C b 0 1 := fun p' i => (ansF_bd C a b lv wg tm p' nb0 _ i).2
  refine jstart (by decide) rfl (fX0_hope_0 ?_)
  refine jcq (c_noteFree (C := C) hb hNb r2 hMb hH hv) (by decide) ?_
  rintro r0 M0 ⟨hf0, ff0⟩
  generalize hQ : (fun (r : Int) (M' : jM) => (0 ≤ r ∧ r ≤ 2000) ∧ (∀ p', cmpl C a b p p' tk → wsum C a b wg (ans C a b lv wg tm p') (C a 0 1).toNat ≤ r) ∧ (∀ c, 0 ≤ c → c < 100 → M' 21 7 c = 0) ∧ ∀ x y, ¬ ((x = 20 ∧ (y = 8 ∨ y = 14)) ∨ (x = 21 ∧ (y = 7 ∨ y = 8))) → M' x y = M x y) = Q
  -- the sum over the ties of the other tale
  have last : ∀ (M1 : jM) (v2 v3 v4 v5 : Int), (∀ c, 0 ≤ c → c < 100 → M1 21 7 c = 0) → (∀ x y, ¬ ((x = 20 ∧ (y = 8 ∨ y = 14)) ∨ (x = 21 ∧ (y = 7 ∨ y = 8))) → M1 x y = M x y) → 0 ≤ v2 → v2 ≤ 100000000 → (∀ p', cmpl C a b p p' tk → wsum C a b wg (ans C a b lv wg tm p') (C a 0 1).toNat ≤ v2) →
      isM v5 (fun j => ∃ i, lsF C a b lv wg p tk (C a 0 1).toNat i j) → isM v3 (fun j => ∃ i, lsF C a b lv wg p tk (C a 0 1).toNat i j ∧ meet C (C a 5 i) (C b 5 j) = 0) → isM v4 (fun j => ∃ i, lsF C a b lv wg p tk (C a 0 1).toNat i j ∧ meet C (C a 5 i) (C b 5 j) ≤ 1) →
      jWP 2 116 192 [some (.inr (20, 0)), none, some (.inl v2), some (.inl v3), some (.inl v4), some (.inl v5), some (.inl 0), some (.inl 0), none] [] M1 Q := by
    intro M1 v2 v3 v4 v5 g1 g2 g3 g3' g4 s5 s3 s4
    have e2 : M1 20 0 2 = b := by rw [g2 _ _ (by simp)]; exact r2
    have e3 : M1 20 0 3 = wg := by rw [g2 _ _ (by simp)]; exact r3
    have eb : ∀ y, y < 9 → M1 b y = C b y := fun y hy => by rw [g2 _ _ (by omega), hMb]
    refine jloop (P := fun n => jWP 2 116 192 [some (.inr (20, 0)), none, some (.inl v2), some (.inl v3), some (.inl v4), some (.inl v5), some (.inl (uS (fun _ => True) (gG C b wg v3 v4 v5) n.toNat)), some (.inl n), none] [] M1 Q) (e := C b 0 1) ?_ (fun n n0 n1 ih => ?_) 0 (by omega) nb0
    · have ub := uS_bd (wg := wg) (v3 := v3) (v4 := v4) (v5 := v5) hHb (C b 0 1).toNat
      refine fX0_hope_192 ?_
      rw [e2, eb 0 (by omega)]
      refine ⟨hb, fun _ => ?_, fun q => by exfalso; omega⟩
      rw [← hQ]
      refine ⟨?_, fun p' hc => ?_, g1, g2⟩
      · split <;> omega
      · have w1 := g4 p' hc
        have w2 : wsum C a b wg (ans C a b lv wg tm p') (C a 0 1).toNat ≤ uS (fun _ => True) (gG C b wg v3 v4 v5) (C b 0 1).toNat := by
          refine Int.le_trans (wsum_given (G := gG C b wg v3 v4 v5) nb0 (fun k j hk hj j0 => ?_) (C a 0 1).toNat (by omega)) (uS_le (fun j => (gG_bd hHb j).1) _).2
          have hr := ans_reached (lv := lv) (wg := wg) (tm := tm) hEa hc (C a 0 1).toNat k j (by omega) (by omega) hj j0
          have hh := ans_height (lv := lv) (wg := wg) (tm := tm) hL hGa hGb hc.2 (C a 0 1).toNat k j (by omega) (by omega) hj j0
          have hj1 : j < C b 0 1 := by rw [← hj]; exact hAbd p' k
          have t5 := (isM_hit s5 j0 (by omega)).mpr ⟨k, hr⟩
          have hhb := hHb j j0 hj1
          unfold gG gI gn
          rw [if_neg (show ¬ j = -1 by omega), if_pos (show 0 ≤ j ∧ j < C b 0 1 from ⟨j0, hj1⟩), ← hh]
          by_cases yw : wg = 0
          · rw [if_pos yw, if_pos yw]
            by_cases m0 : meet C (C a 5 k) (C b 5 j) = 0
            · rw [if_pos m0, if_pos ((isM_hit s3 j0 (by omega)).mpr ⟨k, hr, m0⟩)]
              exact Int.le_refl _
            · rw [if_neg m0]
              by_cases m1 : meet C (C a 5 k) (C b 5 j) ≤ 1
              · rw [if_pos m1, if_pos ((isM_hit s4 j0 (by omega)).mpr ⟨k, hr, m1⟩)]
                split <;> omega
              · rw [if_neg m1, if_pos t5]
                split
                · omega
                · split <;> omega
          · rw [if_neg yw, if_neg yw, if_neg t5]
            exact Int.le_refl _
        split
        · exact w2
        · exact w1
    · have hn := hHb n n0 n1
      refine fX0_hope_192 ?_
      rw [e2, eb 0 (by omega), eb 8 (by omega)]
      refine ⟨hb, fun q => by exfalso; omega, fun _ => ⟨hb, ⟨n0, by rw [jal_n8 hb]; omega⟩, ?_⟩⟩
      refine jc (c_gain (by omega) (by omega)) (by decide) ?_
      rw [e3]
      have ub := uS_bd (wg := wg) (v3 := v3) (v4 := v4) (v5 := v5) hHb n.toNat
      have gb := gn_bd (wg := wg) (h := C b 8 n) (o := jiand v3 (jishl 1 n)) (nr := jiand v4 (jishl 1 n)) (an := jiand v5 (jishl 1 n)) (by omega)
      rw [jwr_id (by omega) (by omega), jwr_id (by omega) (by omega)]
      have e : uS (fun _ => True) (gG C b wg v3 v4 v5) (n + 1).toNat = uS (fun _ => True) (gG C b wg v3 v4 v5) n.toNat + gn wg (C b 8 n) (jiand v3 (jishl 1 n)) (jiand v4 (jishl 1 n)) (jiand v5 (jishl 1 n)) := by
        rw [show (n + 1).toNat = n.toNat + 1 by omega]
        show uS _ _ n.toNat + _ = _
        rw [if_pos trivial, Int.toNat_of_nonneg n0]
        unfold gG
        rw [if_pos ⟨n0, n1⟩]
      rw [e] at ih
      exact ih
  -- the ties of a, one by one
  have main : ∀ k (n : Nat), n + k = (C a 0 1).toNat → ∀ (M1 : jM) (v2 v3 v4 v5 : Int), (∀ x y, ¬ ((x = 20 ∧ (y = 8 ∨ y = 14)) ∨ (x = 21 ∧ y = 7)) → M1 x y = M x y) → (∀ pl, 0 ≤ pl → pl < 3 → isM (M1 20 14 pl) (fun j => j < C b 0 1 ∧ 0 ≤ C b 6 (3 * j + pl) ∧ C b 6 (3 * j + pl) < C b 0 0 ∧ ¬ tk (C b 6 (3 * j + pl)))) →
      (∀ i, 0 ≤ i → i < (n : Int) → isM (M1 20 8 i) (lsF C a b lv wg p tk n i)) → (∀ c, 0 ≤ c → c < 100 → 0 ≤ M1 21 7 c ∧ M1 21 7 c ≤ 84 * n) → (M 21 0 2 = 0 → ∀ c, 0 ≤ c → c < 100 → M1 21 7 c = 0) → 0 ≤ v2 → v2 ≤ 84 * n →
      (∀ p', cmpl C a b p p' tk → wsum C a b wg (ans C a b lv wg tm p') n ≤ v2 + phi (M1 21 7) (fF C a b (ans C a b lv wg tm p')) 10) →
      isM v5 (fun j => ∃ i, lsF C a b lv wg p tk n i j) → isM v3 (fun j => ∃ i, lsF C a b lv wg p tk n i j ∧ meet C (C a 5 i) (C b 5 j) = 0) → isM v4 (fun j => ∃ i, lsF C a b lv wg p tk n i j ∧ meet C (C a 5 i) (C b 5 j) ≤ 1) →
      jWP 2 116 18 [some (.inr (20, 0)), none, some (.inl v2), some (.inl v3), some (.inl v4), some (.inl v5), some (.inl (n : Int)), none, none] [] M1 Q := by
    intro k
    induction k with
    | zero =>
      intro n hn M1 v2 v3 v4 v5 g1 g14 g8 gW gz q0 q1 gI' s5 s3 s4
      have e : n = (C a 0 1).toNat := by omega
      subst e
      have e1 : M1 20 0 1 = a := by rw [g1 _ _ (by simp)]; exact r1
      have ea : M1 a 0 1 = C a 0 1 := by rw [g1 _ _ (by omega), hMa]
      have e21 : M1 21 0 2 = M 21 0 2 := by rw [g1 _ _ (by simp)]
      refine fX0_hope_18 ?_
      rw [e1, ea, e21]
      refine ⟨ha, fun _ => ⟨fun q => ?_, fun q => ?_⟩, fun q => by exfalso; omega⟩
      · rw [jwr_id (by omega) (by omega), Int.add_zero]
        refine last M1 v2 v3 v4 v5 (gz q) (fun x y h => g1 x y (fun k => h (k.imp id (fun z => ⟨z.1, Or.inl z.2⟩)))) q0 (by omega) (fun p' hc => ?_) s5 s3 s4
        have := gI' p' hc
        rw [phi_z (fun h => (fF_rng (hAbd p') hOb h).2) (gz q) 10 (by omega)] at this
        omega
      · refine jcq (c_heaviestOrder (B := 1176) (by omega) (fun c c0 c1 => by have := gW c c0 c1; omega)) (by decide) ?_
        rintro rh M2 ⟨k1, k2, k3, k4⟩
        rw [jwr_id (by omega) (by omega)]
        have htm : ¬ tm = 0 := ((jBl_ne hT.2.2.1).mp q).1
        refine last M2 (v2 + rh) v3 v4 v5 k3 (fun x y h => by rw [k4 x y (fun z => h (Or.inr z)), g1 x y (fun k => h (k.imp id (fun z => ⟨z.1, Or.inl z.2⟩)))]) (by omega) (by omega) (fun p' hc => ?_) s5 s3 s4
        have h1 := gI' p' hc
        have h2 := k1 _ (fF_chn (C := C) (a := a) (b := b) (lv := lv) (wg := wg) (tm := tm) (p := p') htm nb0 hOb)
        omega
    | succ k ih =>
      intro n hn M1 v2 v3 v4 v5 g1 g14 g8 gW gz q0 q1 gI' s5 s3 s4
      have hnlt : (n : Int) < C a 0 1 := by omega
      have e1 : M1 20 0 1 = a := by rw [g1 _ _ (by simp)]; exact r1
      have e2 : M1 20 0 2 = b := by rw [g1 _ _ (by simp)]; exact r2
      have e3 : M1 20 0 3 = wg := by rw [g1 _ _ (by simp)]; exact r3
      have ea : ∀ y, y < 9 → M1 a y = C a y := fun y hy => by rw [g1 _ _ (by omega), hMa]
      have eA : M1 a = C a := by funext y; rw [g1 _ _ (by omega), hMa]
      have eB : M1 b = C b := by funext y; rw [g1 _ _ (by omega), hMb]
      have e21 : M1 21 0 2 = M 21 0 2 := by rw [g1 _ _ (by simp)]
      have hC1 : jCmp C M1 a b lv wg n (C b 0 1) := by
        have := hC n (by omega) hnlt
        unfold jCmp at this ⊢
        rw [g1 20 9 (by simp), g1 20 10 (by simp), g1 20 11 (by simp), g1 20 12 (by simp)]
        exact this
      have hH1 : jHav C M1 b := fun q e q0 q1 e0 e1 => by rw [g1 20 13 (by simp)]; exact hH q e q0 q1 e0 e1
      have hE1 : ∀ q, 0 ≤ q → q < 3 → jEnd C M1 b p (lsF C a b lv wg p tk n) tk (C a 6 (3 * n + q)) := by
        intro q q0 q1
        obtain ⟨w0, w1, w2⟩ := hEa n q (by omega) hnlt q0 q1
        have hT6 := hNa.1.2
        refine ⟨⟨w0, by omega, fun x => by have := w1 (by omega); omega⟩, fun x0 x1 => ?_, fun x0 => ⟨g8 _ (by omega) (by omega), fun j hj => ?_⟩⟩
        · obtain ⟨u1, u2, u3⟩ := hp _ x0 (w1 (by omega))
          exact ⟨by rw [g1 20 6 (by simp)]; exact u1, u2, u3, fun _ => g14⟩
        · have := (lsF_cld n _ j hj).1
          exact ⟨this.1, this.2.1⟩
      refine fX0_hope_18 ?_
      rw [e1, ea 0 (by omega)]
      refine ⟨ha, fun q => by exfalso; omega, fun _ => ?_⟩
      refine jcq (c_reachable (C := C) (p := p) (LS := lsF C a b lv wg p tk n) (tk := tk) ha hb hNa hNb ⟨by omega, hnlt⟩ e1 e2 eA eB hC1 hH1 hE1) (by decide) ?_
      rintro m M1' ⟨hm, rfl⟩
      generalize hM2 : jup M1' 20 8 (n : Int) m = M2
      have f2 : ∀ x y, ¬ (x = 20 ∧ y = 8) → M2 x y = M1' x y := fun x y h => by rw [← hM2, jup_set, jset_ne h]
      have f11 : M2 20 11 n = M1' 20 11 n := by rw [f2 _ _ (by simp)]
      have f12 : M2 20 12 n = M1' 20 12 n := by rw [f2 _ _ (by simp)]
      have f21 : M2 21 0 2 = M 21 0 2 := by rw [f2 _ _ (by simp), e21]
      have b14 : (n : Int) < 14 := by omega
      rw [f11, f12, f21]
      have hHn := hHa n (by omega) hnlt
      have hPc : ∀ j, RA C a b lv wg p (lsF C a b lv wg p tk n) tk n j → cld C a b lv wg n j := fun j h => h.1
      -- the sets with one more
      have t5 : isM (jior v5 m) (fun j => ∃ i, lsF C a b lv wg p tk (n + 1) i j) := (s5.or hm).congr (fun j _ _ => ⟨fun x => by
        rcases x with ⟨i, x⟩ | x
        · exact ⟨i, Or.inr ⟨by have := (lsF_cld n i j x).2; omega, x⟩⟩
        · exact ⟨n, Or.inl ⟨rfl, x⟩⟩, fun x => by
        obtain ⟨i, x | x⟩ := x
        · exact Or.inr x.2
        · exact Or.inl ⟨i, x.2⟩⟩)
      have t3 : isM (jior v3 (jiand m (M1' 20 11 n))) (fun j => ∃ i, lsF C a b lv wg p tk (n + 1) i j ∧ meet C (C a 5 i) (C b 5 j) = 0) := (s3.or (hm.and hC1.2.2.1)).congr (fun j _ _ => ⟨fun x => by
        rcases x with ⟨i, x, y⟩ | x
        · exact ⟨i, Or.inr ⟨by have := (lsF_cld n i j x).2; omega, x⟩, y⟩
        · exact ⟨n, Or.inl ⟨rfl, x.1⟩, x.2.1.2⟩, fun x => by
        obtain ⟨i, x | x, y⟩ := x
        · rw [x.1] at y
          exact Or.inr ⟨x.2, ⟨x.2.1, y⟩, x.2.1.2.1⟩
        · exact Or.inl ⟨i, x.2, y⟩⟩)
      have t4 : isM (jior v4 (jiand m (M1' 20 12 n))) (fun j => ∃ i, lsF C a b lv wg p tk (n + 1) i j ∧ meet C (C a 5 i) (C b 5 j) ≤ 1) := (s4.or (hm.and hC1.2.2.2)).congr (fun j _ _ => ⟨fun x => by
        rcases x with ⟨i, x, y⟩ | x
        · exact ⟨i, Or.inr ⟨by have := (lsF_cld n i j x).2; omega, x⟩, y⟩
        · exact ⟨n, Or.inl ⟨rfl, x.1⟩, x.2.1.2⟩, fun x => by
        obtain ⟨i, x | x, y⟩ := x
        · rw [x.1] at y
          exact Or.inr ⟨x.2, ⟨x.2.1, y⟩, x.2.1.2.1⟩
        · exact Or.inl ⟨i, x.2, y⟩⟩)
      have t8 : ∀ M3 : jM, M3 20 8 = M2 20 8 → ∀ i, 0 ≤ i → i < ((n + 1 : Nat) : Int) → isM (M3 20 8 i) (lsF C a b lv wg p tk (n + 1) i) := by
        intro M3 h8 i i0 i1
        rw [h8, ← hM2]
        by_cases y : i = n
        · subst y
          rw [jup_eq]
          exact hm.congr (fun j _ _ => ⟨fun x => Or.inl ⟨rfl, x⟩, fun x => x.elim (fun z => z.2) (fun z => absurd rfl z.1)⟩)
        · rw [jup_ne (by simp [y])]
          exact (g8 i i0 (by omega)).congr (fun j _ _ => ⟨fun x => Or.inr ⟨y, x⟩, fun x => x.elim (fun z => absurd z.1 y) (fun z => z.2)⟩)
      -- what the answer of tie n may weigh
      have ansn : ∀ p', cmpl C a b p p' tk → ans C a b lv wg tm p' n = -1 ∨ (0 ≤ ans C a b lv wg tm p' n ∧ RA C a b lv wg p (lsF C a b lv wg p tk n) tk n (ans C a b lv wg tm p' n)) := by
        intro p' hc
        have bd := ansF_bd C a b lv wg tm p' nb0 (C a 0 1).toNat n
        by_cases y : ans C a b lv wg tm p' n = -1
        · exact Or.inl y
        · have y0 : 0 ≤ ans C a b lv wg tm p' n := by unfold ans at y ⊢; omega
          have hr := ans_reached (lv := lv) (wg := wg) (tm := tm) hEa hc (C a 0 1).toNat n _ (by omega) (by omega) rfl y0
          have hr2 := (lsF_st (C := C) (a := a) (b := b) (lv := lv) (wg := wg) (p := p) (tk := tk) (n + 1) (C a 0 1).toNat n (ansF C a b lv wg tm p' (C a 0 1).toNat n) (by omega) (by omega)).mp hr
          refine Or.inr ⟨y0, ?_⟩
          rcases hr2 with z | z
          · exact z.2
          · exact absurd rfl z.1
      have ws : ∀ p', wsum C a b wg (ans C a b lv wg tm p') (n + 1) = wsum C a b wg (ans C a b lv wg tm p') n + gI C a b wg n (ans C a b lv wg tm p' n) := fun p' => rfl
      have en : (n : Int) + 1 = ((n + 1 : Nat) : Int) := by omega
      -- without order
      have plain : jWP 2 116 117 [some (.inr (20, 0)), none, some (.inl v2), some (.inl (jior v3 (jiand m (M1' 20 11 n)))), some (.inl (jior v4 (jiand m (M1' 20 12 n)))), some (.inl (jior v5 m)), some (.inl (n : Int)), some (.inl m), none] [] M2 Q := by
        have ea2 : M2 a 8 n = C a 8 n := by rw [f2 _ _ (by omega), ea 8 (by omega)]
        have e12 : M2 20 0 1 = a := by rw [f2 _ _ (by simp), e1]
        have e32 : M2 20 0 3 = wg := by rw [f2 _ _ (by simp), e3]
        refine fX0_hope_117 ?_
        rw [e12, ea2, f11, f12]
        refine ⟨ha, ⟨by omega, by rw [jal_n8 ha]; omega⟩, ⟨by omega, by rw [jal_20_11]; omega⟩, ⟨by omega, by rw [jal_20_12]; omega⟩, ?_⟩
        refine jc (c_gain (by omega) (by omega)) (by decide) ?_
        rw [e32]
        have hge := gn_ge hC1 hHn hm hPc n14b
        generalize gn wg (C a 8 n) (jiand m (M1' 20 11 n)) (jiand m (M1' 20 12 n)) m = g at hge ⊢
        rw [jwr_id (by omega) (by omega), jwr_id (by omega) (by omega), en]
        have fW : M2 21 7 = M1' 21 7 := f2 _ _ (by simp)
        refine ih (n + 1) (by omega) M2 (v2 + g) _ _ _ (fun x y h => by rw [f2 x y (fun z => h (Or.inl ⟨z.1, Or.inl z.2⟩)), g1 x y h]) (by rw [f2 20 14 (by simp)]; exact g14) (t8 M2 rfl) (fun c c0 c1 => by rw [fW]; have := gW c c0 c1; omega) (fun q => by rw [fW]; exact gz q) (by omega) (by omega) (fun p' hc => ?_) t5 t3 t4
        rw [ws, fW]
        have h1 := gI' p' hc
        rcases ansn p' hc with y | ⟨y0, y⟩
        · have : gI C a b wg n (ans C a b lv wg tm p' n) = 0 := by unfold gI; rw [if_pos y]
          omega
        · have := hge.2 _ y
          omega
      refine ⟨⟨by omega, by rw [jal_20_8]; omega⟩, ⟨by omega, by rw [jal_20_11]; omega⟩, ⟨by omega, by rw [jal_20_12]; omega⟩, fun _ => plain, fun q => ?_⟩
      have hT2 : jTm C M2 a b tm := by
        unfold jTm at hT ⊢
        rw [f2 21 0 (by simp), f2 21 4 (by simp), f2 21 5 (by simp), g1 21 0 (by simp), g1 21 4 (by simp), g1 21 5 (by simp)]
        exact hT
      have hMa2 : M2 a = C a := by funext y; rw [f2 _ _ (by omega), eA]
      have htm : ¬ tm = 0 := ((jBl_ne hT.2.2.1).mp q).1
      refine jcq (c_isOrdered (C := C) (b := b) (tm := tm) ha hNa hMa2 hT2 ⟨by omega, hnlt⟩ hm) (by decide) ?_
      rintro rO M2' ⟨bO, rfl⟩
      refine ⟨fun _ => plain, fun qO => ?_⟩
      obtain ⟨hmi, hord⟩ := (jBl_ne bO).mp qO
      have hC2 : jCmp C M2' a b lv wg n (C b 0 1) := by
        unfold jCmp at hC1 ⊢
        rw [f2 20 9 (by simp), f2 20 10 (by simp), f2 20 11 (by simp), f2 20 12 (by simp)]
        exact hC1
      have fW : M2' 21 7 = M1' 21 7 := f2 _ _ (by simp)
      refine jcq (c_spread (C := C) (b := b) (lv := lv) (wg := wg) (tm := tm) ⟨ha, hNa, hKa, hOa⟩ hNb hMa2 (by rw [f2 _ _ (by simp), e1]) (by rw [f2 _ _ (by simp), e3]) hT2 hC2 ⟨by omega, hnlt⟩ hHn hmi hm hPc (fun c c0 c1 => by rw [fW]; exact gW c c0 c1)) (by decide) ?_
      rintro rS M3 ⟨u1, u2⟩
      rw [jwr_id (by omega) (by omega), en]
      have oa := hOa n (by omega) hnlt
      have mono : ∀ h t, 0 ≤ h → h < 10 → 0 ≤ t → t < 10 → M1' 21 7 (10 * h + t) ≤ M3 21 7 (10 * h + t) ∧ M3 21 7 (10 * h + t) ≤ M1' 21 7 (10 * h + t) + 84 := fun h t h0 h1 t0 t1 => by
        have := u2 h t h0 h1 t0 t1
        rw [fW] at this
        by_cases y : h = C a 7 n
        · have := (this.2 y).1; omega
        · have := this.1 y; omega
      refine ih (n + 1) (by omega) M3 v2 _ _ _ (fun x y h => by rw [u1 x y (fun z => h (Or.inr z)), f2 x y (fun z => h (Or.inl ⟨z.1, Or.inl z.2⟩)), g1 x y h]) (by rw [u1 20 14 (by simp), f2 20 14 (by simp)]; exact g14) (t8 M3 (u1 20 8 (by simp))) (fun c c0 c1 => ?_) (fun z => absurd z q) (by omega) (by omega) (fun p' hc => ?_) t5 t3 t4
      · have h1 := mono (c / 10) (c % 10) (by omega) (by omega) (by omega) (by omega)
        rw [show 10 * (c / 10) + c % 10 = c by omega] at h1
        have := gW c c0 c1
        omega
      · rw [ws]
        have h1 := gI' p' hc
        have rng := fF_rng (a := a) (hAbd p') hOb
        have mono' : ∀ h : Int, 0 ≤ h → h < 10 → 0 ≤ fF C a b (ans C a b lv wg tm p') h → M1' 21 7 (10 * h + fF C a b (ans C a b lv wg tm p') h) ≤ M3 21 7 (10 * h + fF C a b (ans C a b lv wg tm p') h) := fun h h0 h1 hf => (mono h _ h0 h1 hf (rng h).2).1
        rcases ansn p' hc with y | ⟨y0, y⟩
        · have e0 : gI C a b wg n (ans C a b lv wg tm p' n) = 0 := by unfold gI; rw [if_pos y]
          have := phi_le (W := M1' 21 7) (W' := M3 21 7) (f := fF C a b (ans C a b lv wg tm p')) 10 mono'
          omega
        · have hj1 := hAbd p' n
          have ho := hord _ y0 (by omega) y
          have ef := fF_at (C := C) (a := a) (b := b) (lv := lv) (wg := wg) (tm := tm) (p := p') htm hnlt y0 hmi ho.2.1
          have hg := (u2 (C a 7 n) (C b 7 (ans C a b lv wg tm p' n)) (by omega) oa.2 ho.2.1 ho.2.2).2 rfl
          have hg2 := hg.2 _ y0 hj1 y rfl
          rw [fW] at hg2
          have := phi_add (W := M1' 21 7) (W' := M3 21 7) (f := fF C a b (ans C a b lv wg tm p')) (m := C a 7 n) (g := gI C a b wg n (ans C a b lv wg tm p' n)) (by omega) (by rw [ef]; exact ho.2.1) (by rw [ef]; omega) 10 (by omega) mono'
          omega
  have e21z : M0 21 7 = M 21 7 := ff0 _ _ (by simp)
  refine main (C a 0 1).toNat 0 (by omega) M0 0 0 0 0 (fun x y h => ff0 x y (fun z => h (Or.inl ⟨z.1, Or.inr z.2⟩))) hf0 (fun i i0 i1 => by omega) (fun c c0 c1 => by rw [e21z, hz c c0 c1]; omega) (fun _ c c0 c1 => by rw [e21z]; exact hz c c0 c1) (by omega) (by omega) (fun p' hc => ?_) (isM_0.congr (fun j _ _ => ⟨fun x => x.elim, fun x => by obtain ⟨i, x⟩ := x; exact x⟩)) (isM_0.congr (fun j _ _ => ⟨fun x => x.elim, fun x => by obtain ⟨i, x, -⟩ := x; exact x⟩)) (isM_0.congr (fun j _ _ => ⟨fun x => x.elim, fun x => by obtain ⟨i, x, -⟩ := x; exact x⟩))
  rw [e21z, phi_z (fun h => (fF_rng (hAbd p') hOb h).2) hz 10 (by omega)]
  exact Int.le_refl _
