/-! the reference: series -/
theorem wv_keep {g : Int} {P : Int → Prop} {K Mo : Int → Int} {D : jM} {j : Int} : ∀ n : Nat, (¬ P j ∨ (n : Int) ≤ j) → wv g P K Mo D n 26 7 j = D 26 7 j
  | 0, _ => rfl
  | n + 1, h => by
    have ih := wv_keep (g := g) (P := P) (K := K) (Mo := Mo) (D := D) (j := j) n (by rcases h with h | h; exact Or.inl h; exact Or.inr (by omega))
    by_cases u : P n ∧ aE (wv g P K Mo D n) g n
    · rw [wv_yes u, (brg_26 _ _ _ _ _).1 j (fun e => by
        rcases h with h | h
        · rw [e] at h; exact h u.1
        · omega), ih]
    · rw [wv_no u, ih]
/-- the second half: what is won -/
theorem m_won {C M3 C' W D1 : jM} {a b c d r0 L0 : Int} {R1 R2 F A : Int → Int} {tm : Int} {M : jM} (hI : Inv C) (hR3 : rel C M3) (h28 : f28 M M3) (ha : isT a) (hb : isT b) (hc : isT c) (hd : isT d)
    (h11 : ∀ x, 0 ≤ x → x < C a 0 0 → M3 28 11 x = nd (R2 x)) (hR1 : ∀ x, -1 ≤ R1 x ∧ R1 x < 6) (hR2 : ∀ x, -1 ≤ R2 x ∧ R2 x < 6) (hF : ∀ i, 0 ≤ i → i < C a 0 1 → M3 28 34 i = jno (F i) ∧ -1 ≤ F i) (h33 : ∀ x, 0 ≤ x → x < C a 0 0 → M3 28 33 x = nd (R1 x)) (h12 : ∀ i, 0 ≤ i → i < C a 0 1 → M3 28 12 i = jno (A i) ∧ -1 ≤ A i ∧ A i < C c 0 1)
    (iF : inj F (C a 0 1)) (iR : inj R1 (C a 0 0)) (bX : brX W R1 R2 (C a 0 0)) (bT : brT W F A (D1 26 7) (C a 0 1)) (dB : ∀ j : Int, 0 ≤ j → j < 14 → -1 ≤ D1 26 7 j ∧ D1 26 7 j < 14) (hW : jWk W) (hO : wOk b (fun j => ¬ cmeN F (C a 0 1) j) (C b 5) (C b 7) W) (eWb : W b = C b) (eW19 : W 19 = C 19)
    (hL0 : isM L0 (cmeN F (C a 0 1)))
    (hfull : noRoom (wv b (fun j => ¬ cmeN F (C a 0 1) j) (C b 5) (C b 7) W) b (fun j => ¬ cmeN F (C a 0 1) j) (C b 0 1) → -4 = r0 ∧ cR C C')
    (hdone : ¬ noRoom (wv b (fun j => ¬ cmeN F (C a 0 1) j) (C b 5) (C b 7) W) b (fun j => ¬ cmeN F (C a 0 1) j) (C b 0 1) → agr (wv b (fun j => ¬ cmeN F (C a 0 1) j) (C b 5) (C b 7) W (C b 0 1).toNat) C' 14 d ∧ C' d 0 2 = W 14 0 2 ∧ r0 = wv b (fun j => ¬ cmeN F (C a 0 1) j) (C b 5) (C b 7) W (C b 0 1).toNat 14 0 1 ∧ ∀ x y, ¬ (x = d ∨ x = 14 ∨ (20 ≤ x ∧ x ≤ 22) ∨ x = 26) → C' x y = C x y)
    (N0 : jM) (hf0 : fC M3 N0) (ho0 : o14 M3 N0) (k33 : N0 28 33 = M3 28 33) (k34 : N0 28 34 = M3 28 34) (h35 : ∀ k, 0 ≤ k → k < C c 0 1 → N0 28 35 k = jno (D1 26 7 k)) (hw0 : rT W N0 14) (hlab : N0 28 8 14 = W 14 0 2) :
    jWP 5 108 522 [some (.inr (28, 0)), some (.inl a), some (.inl b), none, some (.inl d), some (.inl L0), none, some (.inl 0), none, none, none, none, none] [] N0 (fun r M' => r = r0 ∧ rel C' M' ∧ f28 M M') := by
  have hGa := hI.G ha.1 (show a < 14 by omega)
  have hGb := hI.G hb.1 (show b < 14 by omega)
  have na2 := hGa.1.2.1.2
  have nb1 := hGb.1.2.1.1
  have nb2 := hGb.1.2.1.2
  have nc2 := (hI.N hc.1 (show c < 14 by omega)).2
  generalize hP : (fun j => ¬ cmeN F (C a 0 1) j) = P at *
  have pi : ∀ j, P j ↔ ¬ cmeN F (C a 0 1) j := fun j => by rw [← hP]
  generalize hE : wv b P (C b 5) (C b 7) W = E at *
  generalize hQ : (fun (r : Int) (M' : jM) => r = r0 ∧ rel C' M' ∧ f28 M M') = Q
  have Ewk : ∀ n : Nat, (n : Int) ≤ C b 0 1 → jWk (E n) := fun n hn => by rw [← hE]; exact (wv_wk hO hW n (by rw [eWb]; exact hn)).1
  have Efr : ∀ n, wFr W (E n) := fun n => by rw [← hE]; exact wv_fr b P (C b 5) (C b 7) W n
  have Eb : ∀ n, E n b = C b := fun n => by rw [← eWb]; funext y; exact (Efr n).1 b y (by omega) (by omega)
  have E19 : ∀ n, E n 19 = C 19 := fun n => by rw [← eW19]; funext y; exact (Efr n).1 19 y (by simp) (by simp)
  have E66 : ∀ n, E n 26 6 = W 26 6 := fun n => (Efr n).1 26 6 (by simp) (by simp)
  have Eke : ∀ (n : Nat) (j : Int), (¬ P j ∨ (n : Int) ≤ j) → E n 26 7 j = W 26 7 j := fun n j h => by rw [← hE]; exact wv_keep n h
  have st1 : ∀ n : Nat, P n ∧ aE (E n) b n → E (n + 1) = brg (E n) b n (C b 5 n) (C b 7 n) := fun n h => by rw [← hE] at h ⊢; exact wv_yes h
  have st2 : ∀ n : Nat, ¬ (P n ∧ aE (E n) b n) → E (n + 1) = E n := fun n h => by rw [← hE] at h ⊢; exact wv_no h
  have main : ∀ (j n : Nat) (N : jM), ((n + j : Nat) : Int) = C b 0 1 → fC M3 N → o14 M3 N → N 28 33 = M3 28 33 → N 28 34 = M3 28 34 → (∀ k, 0 ≤ k → k < C c 0 1 → N 28 35 k = jno (D1 26 7 k)) → rT (E n) N 14 → N 28 8 14 = W 14 0 2 → mWon N (E n) F (C a 0 1) n → (∀ m : Nat, m < n → ¬ (P m ∧ aE (E m) b m ∧ E (m + 1) 26 7 m = -1)) → jWP 5 108 522 [some (.inr (28, 0)), some (.inl a), some (.inl b), none, some (.inl d), some (.inl L0), none, some (.inl (n : Int)), none, none, none, none, none] [] N Q := by
    intro j
    induction j with
    | zero =>
      intro n N hn hf ho k1 k2 k3 hw hl hwn hno
      have hRN := hR3.made hI hf ho
      have eN : (C b 0 1).toNat = n := by omega
      obtain ⟨ag, lb, er, fr⟩ := hdone (fun ⟨m, m1, m2⟩ => hno m (by omega) m2)
      rw [eN] at ag er
      refine fX10_series_522 ⟨by rw [jal_28_9]; omega, fun _ => jcq (m_become (t := d) (u := 14) (by omega) (by omega) (by omega)) (by decide) ?_, fun z => by rw [(hRN.2.1 b hb.1 (by omega)).2.1] at z; exfalso; omega⟩
      rintro r3 M4 ⟨b6, b9, b8, b7, b10, o3⟩
      refine ⟨by rw [jal_28_9]; omega, ?_⟩
      rw [← hQ]
      refine ⟨by rw [b9, hw.2.1, er], o3.re hd hI hRN fr (rT_agr (Ewk n (by omega)).1.1.2.1 ag hw b6 b9 b7 b10) ?_, (h28.tr hf.1).tr o3.2.1⟩
      rw [b8, hl, lb]
    | succ j ih =>
      intro n N hn hf ho k1 k2 k3 hw hl hwn hno
      have en : (n : Int) + 1 = ((n + 1 : Nat) : Int) := by omega
      have hRN := hR3.made hI hf ho
      have b36 : 0 ≤ (n : Int) ∧ (n : Int) < jal 28 36 := by rw [jal_28_36]; omega
      generalize hN1 : jup N 28 36 n (-6) = N1
      have y1 : ∀ y, ¬ y = 36 → N1 28 y = N 28 y := fun y h => by rw [← hN1, jup_set, jset_ne (by omega)]
      have hf1 : fC M3 N1 := by rw [← hN1]; exact hf.tr (fC_x (by omega))
      have ho1 : o14 M3 N1 := by rw [← hN1]; exact ho.tr (o14_x (by omega))
      have hR1' := hR3.made hI hf1 ho1
      have hw1 : rT (E n) N1 14 := hw.fx rfl (fun y hy => y1 y (by omega))
      have Ta := hR1'.2.1 a ha.1 (by omega)
      have Tb := hR1'.2.1 b hb.1 (by omega)
      have w := Ewk n (by omega)
      have w7 := w.2.2.2.2
      have n14 := w.1.1.2.1.2
      have KB := hGb.1.2.2.1 n (by omega) (by omega)
      have pk := (hR1'.1 _ KB.1 KB.2).1
      have hEs := fun q q0 q1 => hGb.2.1 n q (by omega) (by omega) q0 q1
      have hCs := fun q q0 q1 => hGb.2.2.2.2 n q (by omega) (by omega) q0 q1
      obtain ⟨⟨l1, l3⟩, -⟩ := hI.L _ KB.1 KB.2
      obtain ⟨q0, q1, q2, q3, q4, -⟩ := Tb.2.2.2 n (by omega) (by omega)
      have wn1 : mWon N1 (E n) F (C a 0 1) n := fun i i0 i1 => by
        have := hwn i i0 i1
        rw [← hN1, jup_ne (by omega)]
        exact this
      have im : ∀ q, 0 ≤ q → q < 3 → 0 ≤ C b 6 (3 * n + q) → jCallP 0 107 [.inr (28, 0), .inl a, .inl (C b 6 (3 * n + q))] N1 (fun r M' => r = jno (nE (E n) (C b 6 (3 * n + q))) ∧ M' = N1) := fun q qq0 qq1 h0 => by
        have es := hEs q qq0 qq1
        refine m_inMade (C := C) (W := W) (D := E n) (D1 := D1) (n := n) (R1 := R1) (R2 := R2) (F := F) (A := A) hGa (by omega) Ta (fun x x0 x1 => by rw [y1 33 (by decide), k1]; exact h33 x x0 x1) (fun x x0 x1 => by rw [hf1.2 11 (by omega) (by omega)]; exact h11 x x0 x1) hR1 hR2 (fun i i0 i1 => by rw [y1 34 (by decide), k2]; exact hF i i0 i1) (fun i i0 i1 => by rw [hf1.2 12 (by omega) (by omega)]; have := h12 i i0 i1; exact ⟨this.1, by omega, by omega⟩) (fun k kk0 ⟨i, ii, e⟩ => ?_) iF bX bT iR (E66 n) (fun j j0 j1 hc => Eke n j (Or.inl (fun q => (pi j).mp q hc))) (fun j j0 j1 => by have := w7 j j0 j1; omega) wn1 (by omega) ⟨h0, fun h => by have := es.2.1 h; omega, es.2.2⟩
        have ak := (h12 i ii.1 ii.2).2.2
        rw [y1 35 (by decide), k3 k kk0 (by omega)]
        have := dB k kk0 (by omega)
        exact ⟨rfl, by omega, by omega⟩
      have bI : ∀ q, 0 ≤ q → q ≤ 4 → 0 ≤ 84 * b + 6 * (n : Int) + q ∧ 84 * b + 6 * (n : Int) + q < jal 28 10 := fun q _ _ => by rw [jal_28_10]; omega
      have bI0 : 0 ≤ 84 * b + 6 * (n : Int) ∧ 84 * b + 6 * (n : Int) < jal 28 10 := by rw [jal_28_10]; omega
      have wI : ∀ q, 0 ≤ q → q ≤ 4 → jwr (84 * b + 6 * (n : Int) + q) = 84 * b + 6 * n + q := fun q _ _ => jwr_id (by omega) (by omega)
      have bK : 0 ≤ C b 5 n ∧ C b 5 n < jal 28 1 := by rw [jal_28_1]; exact KB
      -- nothing is put
      have skip : ¬ (P n ∧ aE (E n) b n) → jWP 5 108 522 [some (.inr (28, 0)), some (.inl a), some (.inl b), none, some (.inl d), some (.inl L0), none, some (.inl (jwr ((n : Int) + 1))), none, none, none, none, none] [] N1 Q := fun h => by
        rw [jwr_id (by omega) (by omega), en]
        refine ih (n + 1) N1 (by omega) hf1 ho1 (by rw [y1 33 (by decide), k1]) (by rw [y1 34 (by decide), k2]) (fun k kk0 kk1 => by rw [y1 35 (by decide)]; exact k3 k kk0 kk1) (by rw [st2 n h]; exact hw1) (by rw [y1 8 (by decide), hl]) (fun i i0 i1 => ?_) (fun m hm q => ?_)
        · rw [st2 n h]
          by_cases u : i = n
          · rw [u, ← hN1, jup_eq]
            refine ⟨fun _ => rfl, fun hc => ?_⟩
            rw [Eke n n (Or.inr (Int.le_refl _)), bT.2 n (by omega) (by omega) (fun i i0 i1 h1 h2 => hc ⟨i, i0, i1, by omega, h2⟩)]
            rfl
          · exact wn1 i i0 (by omega)
        · by_cases u : m = n
          · rw [u] at q; exact h ⟨q.1, q.2.1⟩
          · exact hno m (by omega) q
      -- the tie is put
      have put : P n ∧ aE (E n) b n → jWP 5 108 625 [some (.inr (28, 0)), some (.inl a), some (.inl b), none, some (.inl d), some (.inl L0), none, some (.inl (n : Int)), some (.inl (84 * b + 6 * (n : Int))), some (.inl 1), none, none, none] [] N1 Q := by
        intro hpa
        have hGE : jGood (E n) b := good_agr (E19 n) (agr_fx (Eb n)) (by omega) hGb
        have nk : ∀ q, 0 ≤ q → q < 3 → eOk (E n) 14 (C b 5 n) (nE (E n) (C b 6 (3 * n + q))) q := fun q qq0 qq1 => by
          have := nE_ok (D := E n) (g := b) (i := n) (k := C b 5 n) (q := q) w hGE.2.1 hGE.2.2.2.2 ⟨hGE.1.2.1.1.2, hGE.1.2.1.2.2⟩ (by rw [Eb]; omega) (by rw [Eb]) hpa.2 ⟨qq0, qq1⟩
          rw [Eb] at this
          exact this
        have o0 := nk 0 (by omega) (by omega)
        have im0 := im 0 (by omega) (by omega)
        have c0 := hCs 0 (by omega) (by omega)
        have s0 := hEs 0 (by omega) (by omega)
        rw [Int.add_zero] at o0 im0 c0 s0
        have o1 := nk 1 (by omega) (by omega)
        have o2 := nk 2 (by omega) (by omega)
        have hnone : ∀ q, 0 ≤ q → q < 3 → C b 6 (3 * n + q) = -1 → jno (nE (E n) (C b 6 (3 * n + q))) = -6 := fun q qq0 qq1 e => by
          rw [e]
          rfl
        obtain ⟨f1, f2, f3⟩ := brg_26 (E n) b n (C b 5 n) (C b 7 n)
        rw [← st1 n hpa, Eb] at f2 f3
        rw [← st1 n hpa] at f1
        generalize hx : nE (E n) (C b 6 (3 * n)) = x at *
        generalize hy : nE (E n) (C b 6 (3 * n + 1)) = y at *
        generalize hz : nE (E n) (C b 6 (3 * n + 2)) = z at *
        have hLE : jLV (E n) := by have := hI.L; unfold jLV at this ⊢; rw [E19]; exact this
        have rLE : rL (E n) N1 := fun k k0 k1 => by rw [E19]; exact hR1'.1 k k0 k1
        -- it is added
        have k757 : (¬ fnd (E n) 14 (C b 5 n) x y z = -1 ∨ E n 14 0 1 < 14) → jWP 5 108 757 [some (.inr (28, 0)), some (.inl a), some (.inl b), none, some (.inl d), some (.inl L0), none, some (.inl (n : Int)), some (.inl (84 * b + 6 * (n : Int))), none, some (.inl (jno x)), some (.inl (jno y)), some (.inl (jno z))] [] N1 Q := fun hroom => by
          refine fX10_series_757 ⟨bI0, ?_⟩
          rw [wI 4 (by omega) (by omega), q0, q4]
          refine ⟨bI 4 (by omega) (by omega), jcq (m_add (m := C b 7 n) hLE rLE hw1 w.1 KB o0 o1 o2 hroom) (by decide) ?_⟩
          rintro r M4 ⟨e1, e2, o4, l4⟩
          rw [jwr_id (by omega) (by omega), en]
          refine ⟨b36, ?_⟩
          have y4 : ∀ y, ¬ (6 ≤ y ∧ y ≤ 10) → ¬ y = 36 → jup M4 28 36 n r 28 y = N1 28 y := fun y h h' => by rw [jup_set, jset_ne (by omega)]; exact o4.1 y h
          refine ih (n + 1) _ (by omega) ((hf1.tr o4.c).tr (fC_x (by omega))) ((ho1.tr o4.o).tr (o14_x (by omega))) (by rw [y4 33 (by omega) (by decide), y1 33 (by decide), k1]) (by rw [y4 34 (by omega) (by decide), y1 34 (by decide), k2]) (fun k kk0 kk1 => by rw [y4 35 (by omega) (by decide), y1 35 (by decide)]; exact k3 k kk0 kk1) ?_ (by rw [jup_ne (by simp), l4, y1 8 (by decide), hl]) (fun i i0 i1 => ?_) (fun m hm q => ?_)
          · have : rT (E (n + 1)) M4 14 := by
              unfold rT at e2 ⊢
              rw [f3]
              exact e2
            exact this.fx rfl (fun y hy => by rw [jup_set, jset_ne (by omega)])
          · by_cases u : i = n
            · rw [u, jup_eq]
              refine ⟨fun hc => absurd hc ((pi n).mp hpa.1), fun _ => ?_⟩
              rw [e1, f2, jno_ge]
              have fb := jfst_bd (mtie (E n) 14 (C b 5 n) x y z) (E n 14 0 1).toNat
              unfold fopN
              split
              · rename_i h
                unfold fnd at h ⊢
                omega
              · rename_i h
                rw [if_pos (hroom.resolve_left h)]
                exact n14.1
            · have := wn1 i i0 (by omega)
              rw [jup_ne (by omega), o4.1 36 (by omega), f1 i u]
              exact this
          · by_cases u : m = n
            · rw [u] at q
              have q3 := q.2.2
              have fb := jfst_bd (mtie (E n) 14 (C b 5 n) x y z) (E n 14 0 1).toNat
              rw [f2] at q3
              unfold fopN at q3
              split at q3
              · rename_i h; exact h q3
              · rename_i h
                rw [if_pos (hroom.resolve_left h)] at q3
                omega
            · exact hno m (by omega) q
        have qq : ∀ v q, eOk (E n) 14 (C b 5 n) v q → eQ (E n 19 1 (C b 5 n)) q v (jno v) := fun v q h => ⟨fun _ => em_ov h.1, fun w => h.2.2.2.mpr w⟩
        have k718 : jWP 5 108 718 [some (.inr (28, 0)), some (.inl a), some (.inl b), none, some (.inl d), some (.inl L0), none, some (.inl (n : Int)), some (.inl (84 * b + 6 * (n : Int))), none, some (.inl (jno x)), some (.inl (jno y)), none] [.inl (jno z)] N1 Q := by
          refine fX10_series_718 ⟨by rw [jal_28_9]; omega, ?_⟩
          rw [hw1.2.1, q0]
          refine ⟨fun h => k757 (Or.inr (by omega)), fun h => ⟨bI0, jc (m_tieWith hLE rLE hw1 w.1 (by omega) KB (qq x 0 o0) (qq y 1 o1) (qq z 2 o2)) (by decide) ⟨fun h2 => k757 (Or.inl (fun e => ?_)), fun h2 => ?_⟩⟩⟩
          · rw [e] at h2; exact absurd h2 (by decide)
          · have fb := jfst_bd (mtie (E n) 14 (C b 5 n) x y z) (E n 14 0 1).toNat
            have e : fnd (E n) 14 (C b 5 n) x y z = -1 := (jno_lt (show -1 ≤ fnd (E n) 14 (C b 5 n) x y z from fb.1)).mp h2
            have nr : E (n + 1) 26 7 n = -1 := by
              rw [f2]
              unfold fopN
              rw [if_neg (fun q => q e), if_neg (by omega)]
            obtain ⟨er, cr⟩ := hfull ⟨n, by omega, hpa.1, hpa.2, nr⟩
            rw [← hQ]
            exact ⟨er, hR1'.sc (fS_r N1) cr, h28.tr hf1.1⟩
        have k681 : jWP 5 108 681 [some (.inr (28, 0)), some (.inl a), some (.inl b), none, some (.inl d), some (.inl L0), none, some (.inl (n : Int)), some (.inl (84 * b + 6 * (n : Int))), none, some (.inl (jno x)), none, none] [.inl (jno y)] N1 Q := by
          have im2 := im 2 (by omega) (by omega)
          rw [hz] at im2
          refine fX10_series_681 ⟨bI0, ?_⟩
          rw [q0, pk]
          refine ⟨bK, fun h => ?_, fun h => ?_⟩
          · have := hnone 2 (by omega) (by omega) ((hCs 2 (by omega) (by omega)).mpr h)
            rw [hz] at this
            rw [← this]
            exact k718
          · have e2 : 0 ≤ C b 6 (3 * n + 2) := by have := hCs 2 (by omega) (by omega); have := hEs 2 (by omega) (by omega); omega
            rw [wI 3 (by omega) (by omega), q3, jno_ge e2]
            exact ⟨bI 3 (by omega) (by omega), jc (im2 e2) (by decide) k718⟩
        have e0 : 0 ≤ C b 6 (3 * n) := by omega
        refine fX10_series_625 ⟨fun h => absurd h (by decide), fun _ => ?_⟩
        rw [wI 1 (by omega) (by omega), q1, jno_ge e0]
        refine ⟨bI 1 (by omega) (by omega), jc (im0 e0) (by decide) ?_⟩
        rw [q0, pk]
        have im1 := im 1 (by omega) (by omega)
        rw [hy] at im1
        refine ⟨bI0, bK, fun h => ?_, fun h => ?_⟩
        · have := hnone 1 (by omega) (by omega) ((hCs 1 (by omega) (by omega)).mpr h)
          rw [hy] at this
          rw [← this]
          exact k681
        · have e1 : 0 ≤ C b 6 (3 * n + 1) := by have := hCs 1 (by omega) (by omega); have := hEs 1 (by omega) (by omega); omega
          rw [wI 2 (by omega) (by omega), q2, jno_ge e1]
          exact ⟨bI 2 (by omega) (by omega), jc (im1 e1) (by decide) k681⟩
      -- whether all ends are there
      have k570 : ∀ q : Int, 0 ≤ q → q ≤ C 19 1 (C b 5 n) → ∀ v, (v = 0 ∨ v = 1) → (v = 1 ↔ (P n ∧ ∀ u, 0 ≤ u → u < q → ¬ nE (E n) (C b 6 (3 * n + u)) = -1)) → jWP 5 108 570 [some (.inr (28, 0)), some (.inl a), some (.inl b), none, some (.inl d), some (.inl L0), none, some (.inl (n : Int)), some (.inl (84 * b + 6 * (n : Int))), some (.inl v), some (.inl q), none, none] [] N1 Q := by
        have fin : ∀ v q, (v = 0 ∨ v = 1) → (v = 1 ↔ (P n ∧ ∀ u, 0 ≤ u → u < q → ¬ nE (E n) (C b 6 (3 * n + u)) = -1)) → (v = 0 ∨ C 19 1 (C b 5 n) ≤ q) → q ≤ C 19 1 (C b 5 n) → jWP 5 108 625 [some (.inr (28, 0)), some (.inl a), some (.inl b), none, some (.inl d), some (.inl L0), none, some (.inl (n : Int)), some (.inl (84 * b + 6 * (n : Int))), some (.inl v), none, none, none] [] N1 Q := fun v q hv h hq hq2 => by
          by_cases u : v = 1
          · rw [u]
            have hh := h.mp u
            refine put ⟨hh.1, fun p p0 p1 => ?_⟩
            rw [Eb]
            by_cases u2 : p < q
            · exact Or.inr (hh.2 p p0 u2)
            · exact Or.inl ((hCs p p0 p1).mpr (by omega))
          · have v0 : v = 0 := by omega
            refine fX10_series_625 ⟨fun _ => skip (fun hpa => u (h.mpr ⟨hpa.1, fun p p0 p1 => ?_⟩)), fun z => absurd v0 z⟩
            have := hpa.2 p p0 (by omega)
            rw [Eb] at this
            rcases this with e | e
            · have := (hCs p p0 (by omega)).mp e
              omega
            · exact e
        refine jloop (e := C 19 1 (C b 5 n)) (fun v hv h => ?_) (fun q qq0 qq1 ih2 v hv h => ?_)
        · refine fX10_series_570 ⟨bI0, ?_⟩
          rw [q0, pk]
          exact ⟨bK, fun _ => fin v _ hv h (Or.inr (Int.le_refl _)) (Int.le_refl _), fun z => by exfalso; omega⟩
        · have sq : N1 28 10 (84 * b + 6 * (n : Int) + 1 + q) = jno (C b 6 (3 * n + q)) := by
            have cs : q = 0 ∨ q = 1 ∨ q = 2 := by omega
            rcases cs with e | e | e
            · rw [e, Int.add_zero, Int.add_zero, q1]
            · rw [e, show (84 * b + 6 * (n : Int) + 1 + 1 : Int) = 84 * b + 6 * n + 2 by omega, q2]
            · rw [e, show (84 * b + 6 * (n : Int) + 1 + 2 : Int) = 84 * b + 6 * n + 3 by omega, q3]
          have e0 : 0 ≤ C b 6 (3 * n + q) := by have := hCs q qq0 (by omega); have := hEs q qq0 (by omega); omega
          refine fX10_series_570 ⟨bI0, ?_⟩
          rw [q0, pk, wI 1 (by omega) (by omega), jwr_id (z := 84 * b + 6 * (n : Int) + 1 + q) (by omega) (by omega), jwr_id (z := q + 1) (by omega) (by omega), sq, jno_ge e0]
          refine ⟨bK, fun z => by exfalso; omega, fun _ => ⟨fun z => fin v q hv h (Or.inl z) (by omega), fun z => ⟨by rw [jal_28_10]; omega, jc (im q qq0 (by omega) e0) (by decide) ?_⟩⟩⟩
          have hh := h.mp (by omega)
          have nel : -1 ≤ nE (E n) (C b 6 (3 * n + q)) := by
            unfold nE
            have := w.2.2.2.1
            rw [if_neg (by omega)]
            by_cases u : C b 6 (3 * n + q) < 6
            · rw [if_pos u]; exact (this _ e0 u).1
            · rw [if_neg u]
              split
              · have := w7 (C b 6 (3 * n + q) - 10) (by omega) (by omega); omega
              · omega
          refine ⟨fun z2 => ih2 0 (Or.inl rfl) ⟨fun q => absurd q (by decide), fun hh2 => absurd ((jno_lt nel).mp z2) (hh2.2 q qq0 (by omega))⟩, fun z2 => ih2 1 (Or.inr rfl) ⟨fun _ => ⟨hh.1, fun u u0 u1 => ?_⟩, fun _ => rfl⟩⟩
          by_cases e : u = q
          · rw [e]
            intro e2
            rw [e2] at z2
            exact absurd z2 (by decide)
          · exact hh.2 u u0 (by omega)
      refine fX10_series_522 ⟨by rw [jal_28_9]; omega, fun z => by rw [(hRN.2.1 b hb.1 (by omega)).2.1] at z; exfalso; omega, fun _ => ⟨b36, ?_⟩⟩
      rw [hN1]
      refine jc (m_at N1 (t := b) (e := n) (by omega) (by omega)) (by decide) ?_
      rw [hL0.test (by omega) (by omega)]
      exact ⟨fun z => k570 0 (by omega) (by omega) 0 (Or.inl rfl) ⟨fun q => absurd q (by decide), fun hh => absurd ((pi n).mp hh.1) z⟩, fun z => k570 0 (by omega) (by omega) 1 (Or.inr rfl) ⟨fun _ => ⟨(pi n).mpr z, fun u u0 u1 => by omega⟩, fun _ => rfl⟩⟩
  have e0 : E 0 = W := by rw [← hE]; rfl
  exact main (C b 0 1).toNat 0 N0 (by omega) hf0 ho0 k33 k34 h35 (by rw [e0]; exact hw0) hlab (fun i i0 i1 => by omega) (fun m hm => by omega)
