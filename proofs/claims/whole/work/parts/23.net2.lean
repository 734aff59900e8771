/-! counting loops -/
def cntI (f : Int → Int) (k : Int) : Nat → Int
  | 0 => 0
  | n + 1 => cntI f k n + if f n = k then 1 else 0
def cI (f : Int → Int) (k n : Int) : Int := cntI f k n.toNat
theorem cI_0 (f : Int → Int) (k : Int) : cI f k 0 = 0 := rfl
theorem cI_s {f : Int → Int} {k n : Int} (h : 0 ≤ n) : cI f k (n + 1) = cI f k n + if f n = k then 1 else 0 := by
  unfold cI
  rw [show (n + 1).toNat = n.toNat + 1 by omega]
  show cntI f k n.toNat + (if f (n.toNat : Int) = k then 1 else 0) = _
  rw [Int.toNat_of_nonneg h]
theorem cI_bd (f : Int → Int) (k : Int) : ∀ n : Nat, 0 ≤ cntI f k n ∧ cntI f k n ≤ n
  | 0 => ⟨Int.le_refl 0, Int.le_refl 0⟩
  | n + 1 => by
    have ih := cI_bd f k n
    unfold cntI
    split <;> omega
theorem cI_bd' (f : Int → Int) (k : Int) {n : Int} (h : 0 ≤ n) : 0 ≤ cI f k n ∧ cI f k n ≤ n := by
  have := cI_bd f k n.toNat
  unfold cI
  omega
theorem c_countOfKind {M : jM} {g : Int} (hg : 0 ≤ g ∧ g < 18) (hN : jNB M g) (k : Int) : jCallP 0 148 [.inr (g, 0), .inl k] M (fun r M' => r = cI (M g 5) k (M g 0 1) ∧ M' = M) := by
  refine jstart (by decide) rfl (fX4_countOfKind_0 ?_)
  obtain ⟨hT, hE⟩ := hN
  refine jloop (P := fun i => jWP 0 148 4 [some (.inr (g, 0)), some (.inl k), some (.inl (cI (M g 5) k i)), some (.inl i)] [] M _) (e := M g 0 1) ?_ ?_ 0 (by omega) hE.1
  · exact fX4_countOfKind_4 ⟨hg, fun _ => ⟨rfl, rfl⟩, fun q => by exfalso; omega⟩
  · intro i h0 h1 ih
    have hb := cI_bd' (M g 5) k h0
    rw [cI_s h0] at ih
    refine fX4_countOfKind_4 ⟨hg, fun q => by exfalso; omega, fun _ => ⟨hg, ⟨h0, by rw [jal_n5 hg]; omega⟩, fun e => ?_, fun e => ?_⟩⟩
    · rw [if_neg e, Int.add_zero] at ih
      rw [jwr_id (by omega) (by omega)]
      exact ih
    · rw [if_pos e] at ih
      rw [jwr_id (by omega) (by omega), jwr_id (by omega) (by omega)]
      exact ih
def cntN (f : Int → Int) (n : Int) : Int := n - cI f (-1) n
theorem c_countOfMoments {M : jM} {g : Int} (hg : 0 ≤ g ∧ g < 18) (hN : jNB M g) : jCallP 0 149 [.inr (g, 0)] M (fun r M' => r = cntN (M g 7) (M g 0 1) ∧ M' = M) := by
  refine jstart (by decide) rfl (fX4_countOfMoments_0 ?_)
  obtain ⟨hT, hE⟩ := hN
  refine jloop (P := fun i => jWP 0 149 4 [some (.inr (g, 0)), some (.inl (cntN (M g 7) i)), some (.inl i)] [] M _) (e := M g 0 1) ?_ ?_ 0 (by omega) hE.1
  · exact fX4_countOfMoments_4 ⟨hg, fun _ => ⟨rfl, rfl⟩, fun q => by exfalso; omega⟩
  · intro i h0 h1 ih
    have hb := cI_bd' (M g 7) (-1) h0
    unfold cntN at ih ⊢
    rw [cI_s h0] at ih
    refine fX4_countOfMoments_4 ⟨hg, fun q => by exfalso; omega, fun _ => ⟨hg, ⟨h0, by rw [jal_n7 hg]; omega⟩, fun e => ?_, fun e => ?_⟩⟩
    · rw [if_pos e] at ih
      rw [jwr_id (by omega) (by omega), show i - cI (M g 7) (-1) i = i + 1 - (cI (M g 7) (-1) i + 1) by omega]
      exact ih
    · rw [if_neg e, Int.add_zero] at ih
      rw [jwr_id (by omega) (by omega), jwr_id (by omega) (by omega), show i - cI (M g 7) (-1) i + 1 = i + 1 - cI (M g 7) (-1) i by omega]
      exact ih
/-- the greatest of the first n values, 0 at least -/
def gmx (f : Int → Int) : Nat → Int
  | 0 => 0
  | n + 1 => jmx (gmx f n) (f n)
theorem c_greatestHeight {M : jM} {g : Int} (hg : 0 ≤ g ∧ g < 18) (hN : jNB M g) : jCallP 0 147 [.inr (g, 0)] M (fun r M' => r = gmx (M g 8) (M g 0 1).toNat ∧ M' = M) := by
  refine jstart (by decide) rfl (fX4_greatestHeight_0 ?_)
  obtain ⟨hT, hE⟩ := hN
  refine jloop (P := fun i => jWP 0 147 4 [some (.inr (g, 0)), some (.inl (gmx (M g 8) i.toNat)), some (.inl i)] [] M _) (e := M g 0 1) ?_ ?_ 0 (by omega) hE.1
  · exact fX4_greatestHeight_4 ⟨hg, fun _ => ⟨rfl, rfl⟩, fun q => by exfalso; omega⟩
  · intro i h0 h1 ih
    refine fX4_greatestHeight_4 ⟨hg, fun q => by exfalso; omega, fun _ => ⟨hg, ⟨h0, by rw [jal_n8 hg]; omega⟩, ?_⟩⟩
    rw [jwr_id (by omega) (by omega)]
    rw [show (i + 1).toNat = i.toNat + 1 by omega] at ih
    have e : gmx (M g 8) (i.toNat + 1) = if gmx (M g 8) i.toNat < M g 8 i then M g 8 i else gmx (M g 8) i.toNat := by
      show jmx _ (M g 8 (i.toNat : Int)) = _
      rw [Int.toNat_of_nonneg h0]
      rfl
    rw [e] at ih
    exact ih
/-- a net is emptied -/
def jEmptied (M M' : jM) (g n : Int) : Prop := M' g 0 0 = n ∧ M' g 0 1 = 0 ∧ M' g 0 2 = 0 ∧ (∀ c, 0 ≤ c → c < 6 → M' g 4 c = 0) ∧ ∀ a b, ¬ (a = g ∧ (b = 0 ∨ b = 4)) → M' a b = M a b
theorem c_empty {M : jM} {g : Int} (hg : 0 ≤ g ∧ g < 18) (n : Int) : jCallP 0 140 [.inr (g, 0), .inl n] M (fun _ M' => jEmptied M M' g n) := by
  refine jstart (by decide) rfl (fX4_empty_0 ⟨hg, hg, hg, ?_⟩)
  have key : ∀ i, 0 ≤ i → i ≤ 6 → ∀ M1 : jM, M1 g 0 0 = n → M1 g 0 1 = 0 → M1 g 0 2 = 0 → (∀ c, 0 ≤ c → c < i → M1 g 4 c = 0) → (∀ a b, ¬ (a = g ∧ (b = 0 ∨ b = 4)) → M1 a b = M a b) → jWP 0 140 17 [some (.inr (g, 0)), none, some (.inl i)] [] M1 (fun _ M' => jEmptied M M' g n) := by
    refine jloop (e := 6) (fun M1 h0 h1 h2 h4 hf => ?_) (fun i i0 i1 ih M1 h0 h1 h2 h4 hf => ?_)
    · exact fX4_empty_17 ⟨fun _ => ⟨h0, h1, h2, h4, hf⟩, fun q => by exfalso; omega⟩
    · refine fX4_empty_17 ⟨fun q => by exfalso; omega, fun _ => ⟨hg, ⟨i0, by rw [jal_n4 hg]; exact i1⟩, ?_⟩⟩
      rw [jwr_id (by omega) (by omega)]
      refine ih _ (by rw [jup_ne (by simp)]; exact h0) (by rw [jup_ne (by simp)]; exact h1) (by rw [jup_ne (by simp)]; exact h2) (fun c c0 c1 => ?_) (fun a b hab => ?_)
      · by_cases hc : c = i
        · rw [hc, jup_eq]
        · rw [jup_ne (by simp [hc])]; exact h4 c c0 (by omega)
      · rw [jup_set, jset_ne (fun q => hab ⟨q.1, Or.inr q.2⟩)]
        exact hf a b hab
  refine key 0 (by omega) (by omega) _ ?_ ?_ ?_ (fun c c0 c1 => by omega) (fun a b hab => ?_)
  · rw [jup_ne (by simp), jup_ne (by simp), jup_eq]
  · rw [jup_ne (by simp), jup_eq]
  · rw [jup_eq]
  · rw [jup_set, jset_ne (fun q => hab ⟨q.1, Or.inl q.2⟩), jup_set, jset_ne (fun q => hab ⟨q.1, Or.inl q.2⟩), jup_set, jset_ne (fun q => hab ⟨q.1, Or.inl q.2⟩)]
/-- a net becomes what another is -/
def jBecame (M M' : jM) (g h : Int) : Prop := (∀ c, 0 ≤ c → c < 3 → M' g 0 c = M h 0 c) ∧ (∀ c, 0 ≤ c → c < 6 → M' g 4 c = M h 4 c) ∧ (∀ c, 0 ≤ c → c < 14 → M' g 5 c = M h 5 c) ∧ (∀ c, 0 ≤ c → c < 42 → M' g 6 c = M h 6 c) ∧ (∀ c, 0 ≤ c → c < 14 → M' g 7 c = M h 7 c) ∧ (∀ c, 0 ≤ c → c < 14 → M' g 8 c = M h 8 c) ∧
  ∀ a b, ¬ (a = g ∧ (b = 0 ∨ b = 4 ∨ b = 5 ∨ b = 6 ∨ b = 7 ∨ b = 8)) → M' a b = M a b
theorem jcp_ne {M : jM} {g g' : Int} {k k' : Nat} {sp dp n : Int} {a : Int} {b : Nat} (h : ¬ (a = g' ∧ b = k')) : jcp M g k sp g' k' dp n a b = M a b := by
  funext c
  unfold jcp
  rw [if_neg (fun q => h ⟨q.1, q.2.1⟩)]
theorem jcp_eq {M : jM} {g g' : Int} {k k' : Nat} {n c : Int} (h0 : 0 ≤ c) (h1 : c < n) : jcp M g k 0 g' k' 0 n g' k' c = M g k c := by
  unfold jcp
  rw [if_pos ⟨rfl, rfl, h0, by omega⟩]
  congr 1
  omega
theorem c_become {M : jM} {g h : Int} (hg : 0 ≤ g ∧ g < 18) (hh : 0 ≤ h ∧ h < 18) : jCallP 0 141 [.inr (g, 0), .inr (h, 0)] M (fun _ M' => jBecame M M' g h) := by
  refine jstart (by decide) rfl (fX4_become_0 ?_)
  have b4 : 0 + 6 ≤ jal h 4 ∧ 0 + 6 ≤ jal g 4 := by rw [jal_n4 hg, jal_n4 hh]; omega
  have b5 : 0 + 14 ≤ jal h 5 ∧ 0 + 14 ≤ jal g 5 := by rw [jal_n5 hg, jal_n5 hh]; omega
  have b6 : 0 + 42 ≤ jal h 6 ∧ 0 + 42 ≤ jal g 6 := by rw [jal_n6 hg, jal_n6 hh]; omega
  have b7 : 0 + 14 ≤ jal h 7 ∧ 0 + 14 ≤ jal g 7 := by rw [jal_n7 hg, jal_n7 hh]; omega
  have b8 : 0 + 14 ≤ jal h 8 ∧ 0 + 14 ≤ jal g 8 := by rw [jal_n8 hg, jal_n8 hh]; omega
  refine ⟨hh, hg, hh, hg, hh, hg, hh, hg, ⟨by omega, by omega, by omega, b4⟩, hh, hg, ⟨by omega, by omega, by omega, b5⟩, hh, hg, ⟨by omega, by omega, by omega, b6⟩, hh, hg, ⟨by omega, by omega, by omega, b7⟩, hh, hg, ⟨by omega, by omega, by omega, b8⟩, ?_⟩
  -- the three numbers first
  have e0 : jup M g 0 0 (M h 0 0) h 0 1 = M h 0 1 := jup_ne (by simp)
  have e1 : jup (jup M g 0 0 (M h 0 0)) g 0 1 (M h 0 1) h 0 2 = M h 0 2 := by rw [jup_ne (by simp), jup_ne (by simp)]
  rw [e0, e1]
  generalize hM1 : jup (jup (jup M g 0 0 (M h 0 0)) g 0 1 (M h 0 1)) g 0 2 (M h 0 2) = M1
  have f1 : ∀ a b, ¬ (a = g ∧ b = 0) → M1 a b = M a b := fun a b hab => by rw [← hM1, jup_set, jset_ne hab, jup_set, jset_ne hab, jup_set, jset_ne hab]
  have n0 : M1 g 0 0 = M h 0 0 ∧ M1 g 0 1 = M h 0 1 ∧ M1 g 0 2 = M h 0 2 := by
    rw [← hM1]
    refine ⟨?_, ?_, jup_eq _ _ _ _ _⟩
    · rw [jup_ne (by simp), jup_ne (by simp), jup_eq]
    · rw [jup_ne (by simp), jup_eq]
  refine ⟨fun c c0 c1 => ?_, fun c c0 c1 => ?_, fun c c0 c1 => ?_, fun c c0 c1 => ?_, fun c c0 c1 => ?_, fun c c0 c1 => ?_, fun a b hab => ?_⟩
  · rw [jcp_ne (by simp), jcp_ne (by simp), jcp_ne (by simp), jcp_ne (by simp), jcp_ne (by simp)]
    rcases (show c = 0 ∨ c = 1 ∨ c = 2 by omega) with rfl | rfl | rfl
    · exact n0.1
    · exact n0.2.1
    · exact n0.2.2
  · rw [jcp_ne (by simp), jcp_ne (by simp), jcp_ne (by simp), jcp_ne (by simp), jcp_eq c0 c1, f1 _ _ (by simp)]
  · rw [jcp_ne (by simp), jcp_ne (by simp), jcp_ne (by simp), jcp_eq c0 c1, jcp_ne (by simp), f1 _ _ (by simp)]
  · rw [jcp_ne (by simp), jcp_ne (by simp), jcp_eq c0 c1, jcp_ne (by simp), jcp_ne (by simp), f1 _ _ (by simp)]
  · rw [jcp_ne (by simp), jcp_eq c0 c1, jcp_ne (by simp), jcp_ne (by simp), jcp_ne (by simp), f1 _ _ (by simp)]
  · rw [jcp_eq c0 c1, jcp_ne (by simp), jcp_ne (by simp), jcp_ne (by simp), jcp_ne (by simp), f1 _ _ (by simp)]
  · rw [jcp_ne (fun q => hab ⟨q.1, by simp [q.2]⟩), jcp_ne (fun q => hab ⟨q.1, by simp [q.2]⟩), jcp_ne (fun q => hab ⟨q.1, by simp [q.2]⟩), jcp_ne (fun q => hab ⟨q.1, by simp [q.2]⟩), jcp_ne (fun q => hab ⟨q.1, by simp [q.2]⟩), f1 a b (fun q => hab ⟨q.1, Or.inl q.2⟩)]
/-! ties of a kind in all tales -/
def jNBs (M : jM) : Prop := ∀ g, 0 ≤ g → g < 14 → jNB M g
def tolN (M : jM) (k : Int) : Nat → Int
  | 0 => 0
  | t + 1 => tolN M k t + cI (M t 5) k (M t 0 1)
def tol (M : jM) (k : Int) : Int := tolN M k 12
theorem tolN_bd {M : jM} (hN : jNBs M) (k : Int) : ∀ t : Nat, t ≤ 12 → 0 ≤ tolN M k t ∧ tolN M k t ≤ 14 * t
  | 0, _ => ⟨Int.le_refl 0, Int.le_refl 0⟩
  | t + 1, h => by
    have ih := tolN_bd hN k t (by omega)
    have hb := hN t (by omega) (by omega)
    have := cI_bd' (M t 5) k hb.2.1
    unfold tolN
    have h14 := hb.2.2
    omega
theorem c_tiesToldOf {M : jM} (hN : jNBs M) (k : Int) : jCallP 1 35 [.inr (18, 0), .inl k] M (fun r M' => r = tol M k ∧ M' = M) := by
  refine jstart (by decide) rfl (fX9_tiesToldOf_0 ?_)
  refine jloop (P := fun i => jWP 1 35 4 [some (.inr (18, 0)), some (.inl k), some (.inl (tolN M k i.toNat)), some (.inl i)] [] M _) (e := 12) ?_ ?_ 0 (by omega) (by omega)
  · exact fX9_tiesToldOf_4 ⟨fun _ => ⟨rfl, rfl⟩, fun q => by exfalso; omega⟩
  · intro i h0 h1 ih
    have hb := hN i h0 (by omega)
    refine fX9_tiesToldOf_4 ⟨fun q => by exfalso; omega, fun _ => ⟨⟨h0, h1⟩, ⟨h0, by omega⟩, ?_⟩⟩
    refine jc (c_countOfKind ⟨h0, by omega⟩ hb k) (by decide) ?_
    have b1 := tolN_bd hN k i.toNat (by omega)
    have b2 := cI_bd' (M i 5) k hb.2.1
    have b3 := hb.2.2
    rw [jwr_id (by omega) (by omega), jwr_id (by omega) (by omega)]
    rw [show (i + 1).toNat = i.toNat + 1 by omega] at ih
    have e : tolN M k (i.toNat + 1) = tolN M k i.toNat + cI (M i 5) k (M i 0 1) := by
      show _ + cI (M (i.toNat : Int) 5) k (M (i.toNat : Int) 0 1) = _
      rw [Int.toNat_of_nonneg h0]
    rw [e] at ih
    exact ih
def used (M : jM) (k : Int) : Prop := 0 < tol M k + cI (M 12 5) k (M 12 0 1) + cI (M 13 5) k (M 13 0 1)
theorem c_isInUse {M : jM} (hN : jNBs M) (k : Int) : jCallP 2 36 [.inr (18, 0), .inl k] M (fun r M' => jBl r (used M k) ∧ M' = M) := by
  refine jstart (by decide) rfl (fX9_isInUse_0 ?_)
  have n12 := hN 12 (by omega) (by omega)
  have n13 := hN 13 (by omega) (by omega)
  have b1 := tolN_bd hN k 12 (by omega)
  have b2 := cI_bd' (M 12 5) k n12.2.1
  have b3 := cI_bd' (M 13 5) k n13.2.1
  have b4 := n12.2.2
  have b5 := n13.2.2
  refine jc (c_tiesToldOf hN k) (by decide) ⟨by omega, ?_⟩
  refine jc (c_countOfKind (by omega) n12 k) (by decide) ⟨by omega, ?_⟩
  refine jc (c_countOfKind (by omega) n13 k) (by decide) ?_
  unfold used tol
  rw [jwr_id (z := tolN M k 12 + cI (M 12 5) k (M 12 0 1)) (by omega) (by omega), jwr_id (by omega) (by omega)]
  exact ⟨fun q => ⟨Or.inl rfl, Or.inr ⟨rfl, by omega⟩, rfl⟩, fun q => ⟨Or.inr rfl, Or.inl ⟨rfl, q⟩, rfl⟩⟩
/-! opposites -/
theorem c_loosen {M : jM} (hL : jLV M) (k : Int) (hk : 0 ≤ k ∧ k < 16) : jCallP 0 137 [.inr (19, 0), .inl k] M (fun _ M' => M' = if M 19 4 k = -1 then M else jup (jup M 19 4 (M 19 4 k) (-1)) 19 4 k (-1)) := by
  refine jstart (by decide) rfl (fX3_loosen_0 ?_)
  obtain ⟨-, -, -, -, ho, -⟩ := hL k hk.1 hk.2
  refine ⟨by rw [jal_19_4]; exact hk, fun e => by rw [if_pos e], fun e => ⟨by rw [jal_19_4]; omega, by rw [jal_19_4]; exact hk, by rw [if_neg e]⟩⟩
