/-! bridge, putWon -/
def inj (f : Int → Int) (n : Int) : Prop := ∀ i j, 0 ≤ i → i < n → 0 ≤ j → j < n → 0 ≤ f i → f i = f j → i = j
def brX (N : jM) (FP P : Int → Int) (n : Int) : Prop := (∀ x, 0 ≤ x → x < n → 0 ≤ FP x → N 26 6 (FP x) = P x) ∧ ∀ y, 0 ≤ y → y < 6 → (∀ x, 0 ≤ x → x < n → ¬ FP x = y) → N 26 6 y = -1
def brT (N : jM) (F A L : Int → Int) (n : Int) : Prop := (∀ i, 0 ≤ i → i < n → 0 ≤ F i → 0 ≤ A i → N 26 7 (F i) = L (A i)) ∧ ∀ j, 0 ≤ j → j < 14 → (∀ i, 0 ≤ i → i < n → 0 ≤ A i → ¬ F i = j) → N 26 7 j = -1
theorem c_bridge {M : jM} {a : Int} {FP P F A : Int → Int} (ha : 0 ≤ a ∧ a < 14) (hNa : jNB M a) (hFP : ∀ x, 0 ≤ x → x < M a 0 0 → M 26 4 x = FP x ∧ FP x < 6) (hP : ∀ x, 0 ≤ x → x < M a 0 0 → M 20 6 x = P x) (hF : ∀ i, 0 ≤ i → i < M a 0 1 → M 26 5 i = F i ∧ F i < 14) (hA : ∀ i, 0 ≤ i → i < M a 0 1 → M 20 7 i = A i ∧ A i < 14) (i1 : inj FP (M a 0 0)) (i2 : inj F (M a 0 1)) :
    jCallP 1 175 [.inr (26, 0), .inr (a, 0)] M (fun _ M' => brX M' FP P (M a 0 0) ∧ brT M' F A (M 26 8) (M a 0 1) ∧ ∀ x y, ¬ (x = 26 ∧ (y = 6 ∨ y = 7)) → M' x y = M x y) := by
  have n1 := hNa.1
  have n2 := hNa.2
  refine jstart (by decide) rfl (fX8_bridge_0 ?_)
  refine jcq (c_clear M) (by decide) ?_
  rintro r1 M1 ⟨z6, z7, f1⟩
  have k2 : ∀ i, 0 ≤ i → i ≤ M a 0 1 → ∀ N : jM, brX N FP P (M a 0 0) → brT N F A (M 26 8) i → (∀ x y, ¬ (x = 26 ∧ (y = 6 ∨ y = 7)) → N x y = M x y) → jWP 1 175 51 [some (.inr (26, 0)), some (.inr (a, 0)), some (.inl i)] [] N (fun _ M' => brX M' FP P (M a 0 0) ∧ brT M' F A (M 26 8) (M a 0 1) ∧ ∀ x y, ¬ (x = 26 ∧ (y = 6 ∨ y = 7)) → M' x y = M x y) := by
    refine jloop (e := M a 0 1) (fun N hX hT f => ?_) (fun i i0 i1' ih N hX hT f => ?_)
    · exact fX8_bridge_51 ⟨by omega, fun _ => ⟨hX, hT, f⟩, fun z => by rw [f a 0 (by omega)] at z; exfalso; omega⟩
    · have skip : ¬ (0 ≤ F i ∧ 0 ≤ A i) → jWP 1 175 51 [some (.inr (26, 0)), some (.inr (a, 0)), some (.inl (jwr (i + 1)))] [] N (fun _ M' => brX M' FP P (M a 0 0) ∧ brT M' F A (M 26 8) (M a 0 1) ∧ ∀ x y, ¬ (x = 26 ∧ (y = 6 ∨ y = 7)) → M' x y = M x y) := fun h => by
        rw [jwr_id (by omega) (by omega)]
        refine ih N hX ⟨fun k k0 k1 h1 h2 => ?_, fun j j0 j1 hj => hT.2 j j0 j1 (fun k k0 k1 => hj k k0 (by omega))⟩ f
        by_cases u : k = i
        · rw [u] at h1 h2; exact absurd ⟨h1, h2⟩ h
        · exact hT.1 k k0 (by omega) h1 h2
      refine fX8_bridge_51 ⟨by omega, fun z => by rw [f a 0 (by omega)] at z; exfalso; omega, fun _ => ⟨⟨i0, by rw [show jal 26 5 = 14 from rfl]; omega⟩, ?_⟩⟩
      rw [f 26 5 (by simp), (hF i i0 i1').1]
      refine ⟨fun z => skip (fun h => by omega), fun z => ⟨⟨i0, by rw [show jal 20 7 = 14 from rfl]; omega⟩, ?_⟩⟩
      rw [f 20 7 (by simp), (hA i i0 i1').1, f 26 8 (by simp)]
      refine ⟨fun z2 => skip (fun h => by omega), fun z2 => ⟨⟨i0, by rw [show jal 26 5 = 14 from rfl]; omega⟩, ⟨i0, by rw [show jal 20 7 = 14 from rfl]; omega⟩, ⟨z2, (hA i i0 i1').2⟩, ⟨z, (hF i i0 i1').2⟩, ?_⟩⟩
      rw [jwr_id (by omega) (by omega)]
      refine ih _ ⟨fun x x0 x1 h => by rw [jup_ne (by simp)]; exact hX.1 x x0 x1 h, fun y y0 y1 h => by rw [jup_ne (by simp)]; exact hX.2 y y0 y1 h⟩ ⟨fun k k0 k1 h1 h2 => ?_, fun j j0 j1 hj => ?_⟩ (fun x y h => by rw [jup_set, jset_ne (by omega), f x y h])
      · by_cases u : k = i
        · rw [u, jup_eq]
        · rw [jup_ne (by have := i2 k i k0 (by omega) i0 i1' h1; omega)]
          exact hT.1 k k0 (by omega) h1 h2
      · rw [jup_ne (by have := hj i i0 (by omega) z2; omega)]
        exact hT.2 j j0 j1 (fun k k0 k1 => hj k k0 (by omega))
  have k1 : ∀ i, 0 ≤ i → i ≤ M a 0 0 → ∀ N : jM, brX N FP P i → (∀ c, 0 ≤ c → c < 14 → N 26 7 c = -1) → (∀ x y, ¬ (x = 26 ∧ (y = 6 ∨ y = 7)) → N x y = M x y) → jWP 1 175 6 [some (.inr (26, 0)), some (.inr (a, 0)), some (.inl i)] [] N (fun _ M' => brX M' FP P (M a 0 0) ∧ brT M' F A (M 26 8) (M a 0 1) ∧ ∀ x y, ¬ (x = 26 ∧ (y = 6 ∨ y = 7)) → M' x y = M x y) := by
    refine jloop (e := M a 0 0) (fun N hX h7 f => ?_) (fun i i0 i1' ih N hX h7 f => ?_)
    · exact fX8_bridge_6 ⟨by omega, fun _ => k2 0 (by omega) (by omega) N hX ⟨fun k k0 k1 => by omega, fun j j0 j1 _ => h7 j j0 j1⟩ f, fun z => by rw [f a 0 (by omega)] at z; exfalso; omega⟩
    · refine fX8_bridge_6 ⟨by omega, fun z => by rw [f a 0 (by omega)] at z; exfalso; omega, fun _ => ⟨⟨i0, by rw [show jal 26 4 = 6 from rfl]; omega⟩, ?_⟩⟩
      rw [f 26 4 (by simp), (hFP i i0 i1').1, f 20 6 (by simp), hP i i0 i1', jwr_id (by omega) (by omega)]
      refine ⟨fun z => ih N ⟨fun x x0 x1 h => ?_, fun y y0 y1 h => hX.2 y y0 y1 (fun x x0 x1 => h x x0 (by omega))⟩ h7 f, fun z => ⟨⟨i0, by rw [show jal 26 4 = 6 from rfl]; omega⟩, ⟨i0, by rw [show jal 20 6 = 6 from rfl]; omega⟩, ⟨z, (hFP i i0 i1').2⟩, ih _ ⟨fun x x0 x1 h => ?_, fun y y0 y1 h => ?_⟩ (fun c c0 c1 => by rw [jup_ne (by simp)]; exact h7 c c0 c1) (fun x y h => by rw [jup_set, jset_ne (by omega), f x y h])⟩⟩
      · by_cases u : x = i
        · rw [u] at h; omega
        · exact hX.1 x x0 (by omega) h
      · by_cases u : x = i
        · rw [u, jup_eq]
        · rw [jup_ne (by have := i1 x i x0 (by omega) i0 i1' h; omega)]
          exact hX.1 x x0 (by omega) h
      · rw [jup_ne (by have := h i i0 (by omega); omega)]
        exact hX.2 y y0 y1 (fun x x0 x1 => h x x0 (by omega))
  exact k1 0 (by omega) (by omega) M1 ⟨fun x x0 x1 => by omega, fun y y0 y1 _ => z6 y y0 y1⟩ z7 f1
def cmeN (F : Int → Int) (n j : Int) : Prop := ∃ i, 0 ≤ i ∧ i < n ∧ 0 ≤ F i ∧ F i = j
/-- there is no room for what is won -/
def noRoom (D : Nat → jM) (b : Int) (P : Int → Prop) (n : Int) : Prop := ∃ m : Nat, (m : Int) < n ∧ P m ∧ aE (D m) b m ∧ D (m + 1) 26 7 m = -1
theorem c_putWon {M : jM} {a b : Int} {F : Int → Int} (ha : 0 ≤ a ∧ a < 14) (hb : 0 ≤ b ∧ b < 14) (hNa : jNB M a) (hF : ∀ i, 0 ≤ i → i < M a 0 1 → M 26 5 i = F i ∧ F i < 14) (hW : jWk M) (hO : wOk b (fun j => ¬ cmeN F (M a 0 1) j) (M b 5) (M b 7) M) :
    jCallP 3 176 [.inr (26, 0), .inr (a, 0), .inr (b, 0)] M (fun r M' => jBl r (¬ noRoom (wv b (fun j => ¬ cmeN F (M a 0 1) j) (M b 5) (M b 7) M) b (fun j => ¬ cmeN F (M a 0 1) j) (M b 0 1)) ∧ (¬ r = 0 → eqo M' (wv b (fun j => ¬ cmeN F (M a 0 1) j) (M b 5) (M b 7) M (M b 0 1).toNat)) ∧ ∀ x y, ¬ (x = 14 ∨ x = 26) → M' x y = M x y) := by
  have na := hNa.2
  have nb2 := hO.2.1.1.2.1.2
  generalize hP : (fun j => ¬ cmeN F (M a 0 1) j) = P at hO
  have pi : ∀ k, P k ↔ ¬ cmeN F (M a 0 1) k := fun k => by rw [← hP]
  refine jstart (by decide) rfl (fX8_putWon_0 ?_)
  generalize hD : wv b P (M b 5) (M b 7) M = D
  generalize hQ : (fun (r : Int) (M' : jM) => jBl r (¬ noRoom D b P (M b 0 1)) ∧ (¬ r = 0 → eqo M' (D (M b 0 1).toNat)) ∧ ∀ x y, ¬ (x = 14 ∨ x = 26) → M' x y = M x y) = Q
  have ties : ∀ L, isM L (cmeN F (M a 0 1)) → ∀ (j n : Nat) (N : jM), ((n + j : Nat) : Int) = M b 0 1 → eqo N (D n) → (∀ m : Nat, m < n → ¬ (P m ∧ aE (D m) b m ∧ D (m + 1) 26 7 m = -1)) → jWP 3 176 49 [some (.inr (26, 0)), none, some (.inr (b, 0)), some (.inl L), some (.inl (n : Int))] [] N Q := by
    intro L hLs j
    induction j with
    | zero =>
      intro n N hn hN hno
      have fr := (wv_fr b P (M b 5) (M b 7) M n).1
      rw [hD] at fr
      have eNb : N b = M b := by funext y; rw [hN b y (by omega), fr b y (by omega) (by omega)]
      refine fX8_putWon_49 ⟨by omega, fun _ => ⟨Or.inr rfl, ?_⟩, fun z => by rw [eNb] at z; exfalso; omega⟩
      rw [← hQ]
      refine ⟨Or.inl ⟨rfl, fun ⟨m, m1, m2⟩ => hno m (by omega) m2⟩, fun _ => by rw [show (M b 0 1).toNat = n by omega]; exact hN, fun x y h => by rw [hN x y (by omega), fr x y (by omega) (by omega)]⟩
    | succ j ih =>
      intro n N hn hN hno
      have en : (n : Int) + 1 = ((n + 1 : Nat) : Int) := by omega
      obtain ⟨w1, w2⟩ := wv_wk hO hW n (by omega)
      have v1 := (wv_fr b P (M b 5) (M b 7) M n).1
      have v1' := (wv_fr b P (M b 5) (M b 7) M (n + 1)).1
      have st1 := wv_yes (g := b) (P := P) (K := M b 5) (Mo := M b 7) (D := M) (n := n)
      have st2 := wv_no (g := b) (P := P) (K := M b 5) (Mo := M b 7) (D := M) (n := n)
      rw [hD] at w1 w2 v1 v1' st1 st2
      have eDb : D n b = M b := by funext y; exact v1 b y (by omega) (by omega)
      have eD19 : D n 19 = M 19 := by funext y; exact v1 19 y (by simp) (by simp)
      have eNb : N b = M b := by rw [← eDb]; funext y; exact hN b y (by omega)
      have eN19 : N 19 = M 19 := by rw [← eD19]; funext y; exact hN 19 y (by simp)
      have no : ¬ (P n ∧ aE (D n) b n) → ∀ N', eqo N' (D n) → jWP 3 176 49 [some (.inr (26, 0)), none, some (.inr (b, 0)), some (.inl L), some (.inl (jwr ((n : Int) + 1)))] [] N' Q := fun h N' hN' => by
        rw [jwr_id (by omega) (by omega), en]
        refine ih (n + 1) N' (by omega) (by rw [st2 h]; exact hN') (fun m hm q => ?_)
        by_cases u : m = n
        · rw [u] at q; exact h ⟨q.1, q.2.1⟩
        · exact hno m (by omega) q
      refine fX8_putWon_49 ⟨by omega, fun z => by rw [eNb] at z; exfalso; omega, fun _ => ⟨fun z => no (fun h => z ((hLs.test (by omega) (by omega)).mpr ((pi n).mp h.1))) N hN, fun z => ?_⟩⟩
      have hPn : P n := (pi n).mpr ((hLs.test (by omega) (by omega)).mp z)
      have hGb := hO.2.1
      have gNb := good_agr eN19 (agr_fx eNb) (by omega) hGb
      refine jcq (c_bringEnds (M := N) (g := b) (i := n) (by omega) gNb.1.2.1 gNb.2.1 ⟨by omega, by rw [eNb]; omega⟩ (fun c c0 c1 => by rw [hN 26 7 (by simp)]; have := w1.2.2.2.2 c c0 c1; have := w1.1.1.2.1.2; omega)) (by decide) ?_
      rintro r1 N1 ⟨bl, f1, br⟩
      have hN1 : eqo N1 (D n) := fun x y h => by rw [f1 x y h, hN x y h]
      have eNE : ∀ e, nE N e = nE (D n) e := nE_fx hN
      have eAE : aE N b n ↔ aE (D n) b n := by
        unfold aE
        rw [eNb, eDb]
        simp only [eNE]
      refine ⟨fun q => no (fun h => (jBl_eq bl).mp q (eAE.mpr h.2)) N1 hN1, fun q => ?_⟩
      have eN1b : N1 b = M b := by rw [← eNb]; funext y; exact f1 b y (by omega)
      rw [eN1b]
      have e14 : N1 14 = D n 14 := by funext y; exact hN1 14 y (by simp)
      have hb14 := good_hb w1.1
      refine ⟨by omega, ⟨by omega, by rw [jal_n5 (by omega)]; omega⟩, by omega, ⟨by omega, by rw [jal_n7 (by omega)]; omega⟩, ?_⟩
      refine jcq (c_findOrPut (M := N1) (by unfold jNB; rw [e14]; exact w1.1.1.2.1) (by unfold jHB; rw [e14]; exact hb14) (hGb.1.2.2.1 n (by omega) (by omega))) (by decide) ?_
      rintro r4 N4 ⟨rfl, rfl⟩
      have hbe := bring_eqo (M := N1) (D := D n) (g := b) (i := n) (k := M b 5 n) (m := M b 7 n) hN1 (fun x x0 x1 => by rw [br q x x0 x1, eNE, eNb, eDb])
      have b7 : 0 ≤ (n : Int) ∧ (n : Int) < jal 26 7 := by rw [show jal 26 7 = 14 from rfl]; omega
      have yes := st1 ⟨hPn, eAE.mp ((jBl_ne bl).mp q)⟩
      refine ⟨b7, b7, ?_⟩
      rw [jup_eq, hbe.1]
      have hbe2 := hbe.2
      rw [hbe.1] at hbe2
      rw [← yes] at hbe2 ⊢
      refine ⟨fun w => ?_, fun w => ⟨Or.inl rfl, ?_⟩⟩
      · rw [jwr_id (by omega) (by omega), en]
        refine ih (n + 1) _ (by omega) hbe2 (fun m hm q' => ?_)
        by_cases u : m = n
        · rw [u] at q'; exact w q'.2.2
        · exact hno m (by omega) q'
      · rw [← hQ]
        exact ⟨Or.inr ⟨rfl, fun h => h ⟨n, by omega, hPn, eAE.mp ((jBl_ne bl).mp q), w⟩⟩, fun h => absurd rfl h, fun x y h => by rw [hbe2 x y (by omega), v1' x y (by omega) (by omega)]⟩
  have come : ∀ i, 0 ≤ i → i ≤ M a 0 1 → ∀ L, isM L (cmeN F i) → jWP 3 176 5 [some (.inr (26, 0)), some (.inr (a, 0)), some (.inr (b, 0)), some (.inl L), some (.inl i)] [] M Q := by
    refine jloop (e := M a 0 1) (fun L hLs => ?_) (fun i i0 i1 ih L hLs => ?_)
    · exact fX8_putWon_5 ⟨by omega, fun _ => ties L hLs (M b 0 1).toNat 0 M (by omega) (by rw [← hD]; exact fun _ _ _ => rfl) (fun m hm => by omega), fun z => by exfalso; omega⟩
    · have b5 : 0 ≤ i ∧ i < jal 26 5 := by rw [show jal 26 5 = 14 from rfl]; omega
      obtain ⟨eF, hF1⟩ := hF i i0 i1
      refine fX8_putWon_5 ⟨by omega, fun z => by exfalso; omega, fun _ => ⟨b5, ?_⟩⟩
      rw [eF, jwr_id (by omega) (by omega)]
      refine ⟨fun z => ih _ ((hLs.or isM_0).congr (fun j j0 j1 => ⟨fun q => ?_, fun q => ?_⟩)), fun z => ⟨b5, ih _ ((hLs.or (isM_bit (k := F i) (by omega) (by omega))).congr (fun j j0 j1 => ⟨fun q => ?_, fun q => ?_⟩))⟩⟩
      · rcases q with ⟨k, k0, k1, k2⟩ | q
        · exact ⟨k, k0, by omega, k2⟩
        · exact q.elim
      · obtain ⟨k, k0, k1, k2, k3⟩ := q
        by_cases u : k = i
        · rw [u] at k2; omega
        · exact Or.inl ⟨k, k0, by omega, k2, k3⟩
      · rcases q with ⟨k, k0, k1, k2⟩ | q
        · exact ⟨k, k0, by omega, k2⟩
        · exact ⟨i, i0, by omega, z, q.symm⟩
      · obtain ⟨k, k0, k1, k2, k3⟩ := q
        by_cases u : k = i
        · exact Or.inr (by rw [← k3, u])
        · exact Or.inl ⟨k, k0, by omega, k2, k3⟩
  exact come 0 (by omega) (by omega) 0 (isM_0.congr (fun j j0 j1 => ⟨fun q => q.elim, fun ⟨k, k0, k1, _⟩ => by omega⟩))
