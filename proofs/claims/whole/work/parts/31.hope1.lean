/-! the parts of the bound -/
theorem c_noteFree {C M : jM} {b v : Int} {tk : Int → Prop} (hb : 0 ≤ b ∧ b < 18) (hNb : jNB C b) (ht : M 20 0 2 = b) (hMb : M b = C b) (hh : jHav C M b) (hv : isM v tk) :
    jCallP 0 117 [.inr (20, 0), .inl v] M (fun _ M' => (∀ pl, 0 ≤ pl → pl < 3 → isM (M' 20 14 pl) (fun j => j < C b 0 1 ∧ 0 ≤ C b 6 (3 * j + pl) ∧ C b 6 (3 * j + pl) < C b 0 0 ∧ ¬ tk (C b 6 (3 * j + pl)))) ∧ ∀ x y, ¬ (x = 20 ∧ y = 14) → M' x y = M x y) := by
  have n6 := hNb.1.2
  refine jstart (by decide) rfl (fX0_noteFree_0 ?_)
  refine (show ∀ n, 0 ≤ n → n ≤ 3 → ∀ M1 : jM, (∀ pl, 0 ≤ pl → pl < n → isM (M1 20 14 pl) (fun j => j < C b 0 1 ∧ 0 ≤ C b 6 (3 * j + pl) ∧ C b 6 (3 * j + pl) < C b 0 0 ∧ ¬ tk (C b 6 (3 * j + pl)))) → (∀ x y, ¬ (x = 20 ∧ y = 14) → M1 x y = M x y) → jWP 0 117 2 [some (.inr (20, 0)), some (.inl v), some (.inl n), none, none] [] M1 (fun _ M' => (∀ pl, 0 ≤ pl → pl < 3 → isM (M' 20 14 pl) (fun j => j < C b 0 1 ∧ 0 ≤ C b 6 (3 * j + pl) ∧ C b 6 (3 * j + pl) < C b 0 0 ∧ ¬ tk (C b 6 (3 * j + pl)))) ∧ ∀ x y, ¬ (x = 20 ∧ y = 14) → M' x y = M x y) from ?_) 0 (by omega) (by omega) M (fun pl p0 p1 => by omega) (fun _ _ _ => rfl)
  refine jloop (e := 3) (fun M1 h1 h2 => ?_) (fun n n0 n1 ih M1 h1 h2 => ?_)
  · exact fX0_noteFree_2 ⟨fun _ => ⟨h1, h2⟩, fun q => by exfalso; omega⟩
  · refine fX0_noteFree_2 ⟨fun q => by exfalso; omega, fun _ => ?_⟩
    have e2 : M1 20 0 2 = b := by rw [h2 _ _ (by simp)]; exact ht
    have eb : M1 b 0 0 = C b 0 0 := by rw [h2 _ _ (by simp), hMb]
    have w24 : jwr (n * 24) = 24 * n := by rw [jwr_id (by omega) (by omega)]; omega
    refine (show ∀ y, 0 ≤ y → y ≤ C b 0 0 → ∀ u : Int, isM u (fun j => j < C b 0 1 ∧ 0 ≤ C b 6 (3 * j + n) ∧ C b 6 (3 * j + n) < y ∧ ¬ tk (C b 6 (3 * j + n))) → jWP 0 117 12 [some (.inr (20, 0)), some (.inl v), some (.inl n), some (.inl u), some (.inl y)] [] M1 _ from ?_) 0 (by omega) hNb.1.1 0 (isM_0.congr (fun j _ _ => ⟨fun q => q.elim, fun q => by omega⟩))
    refine jloop (e := C b 0 0) (fun u hu => ?_) (fun y y0 y1 ih2 u hu => ?_)
    · refine fX0_noteFree_12 ?_
      rw [e2, eb]
      refine ⟨hb, fun _ => ⟨⟨n0, by rw [jal_20_14]; exact n1⟩, ?_⟩, fun q => by exfalso; omega⟩
      rw [jwr_id (by omega) (by omega)]
      refine ih _ (fun pl p0 p1 => ?_) (fun x z h => by rw [jup_set, jset_ne h]; exact h2 x z h)
      by_cases hp : pl = n
      · subst hp
        rw [jup_eq]
        exact hu
      · rw [jup_ne (by simp [hp])]; exact h1 pl p0 (by omega)
    · have hyM : M1 20 13 (24 * n + y) = M 20 13 (24 * n + y) := by rw [h2 _ _ (by simp)]
      have hs := hh n y n0 n1 y0 (by omega)
      refine fX0_noteFree_12 ?_
      have w : jwr (jwr (n * 24) + y) = 24 * n + y := by rw [w24, jwr_id (by omega) (by omega)]
      rw [e2, eb, w, hyM, jwr_id (z := y + 1) (by omega) (by omega)]
      refine ⟨hb, fun q => by exfalso; omega, fun _ => ⟨fun q => ih2 u (hu.congr (fun j _ _ => ⟨fun x => ⟨x.1, x.2.1, by omega, x.2.2.2⟩, fun x => ⟨x.1, x.2.1, ?_, x.2.2.2⟩⟩)), fun q => ⟨⟨by omega, by rw [jal_20_13]; omega⟩, ih2 _ ((hu.or hs).congr (fun j _ _ => ⟨fun x => ?_, fun x => ?_⟩))⟩⟩⟩
      · by_cases e : C b 6 (3 * j + n) = y
        · rw [e] at x
          exact absurd ((hv.test y0 (by omega)).mpr x.2.2.2) q
        · omega
      · rcases x with x | x
        · exact ⟨x.1, x.2.1, by omega, x.2.2.2⟩
        · refine ⟨x.1, by omega, by omega, ?_⟩
          rw [x.2]
          exact (hv.test y0 (by omega)).mp q
      · by_cases e : C b 6 (3 * j + n) = y
        · exact Or.inr ⟨x.1, e⟩
        · exact Or.inl ⟨x.1, x.2.1, by omega, x.2.2.2⟩
theorem c_isOrdered {C M : jM} {a b tm i v : Int} {P : Int → Prop} (ha : 0 ≤ a ∧ a < 18) (hNa : jNB C a) (hMa : M a = C a) (hT : jTm C M a b tm) (hi : 0 ≤ i ∧ i < C a 0 1) (hv : isM v P) :
    jCallP 0 169 [.inr (21, 0), .inl i, .inl v] M (fun r M' => jBl r (¬ C a 7 i = -1 ∧ ∀ j, 0 ≤ j → j < 32 → P j → j < C b 0 1 ∧ 0 ≤ C b 7 j ∧ C b 7 j < 10) ∧ M' = M) := by
  obtain ⟨h0, h1, h2, h3, h5⟩ := hT
  have n14a := hNa.2.2
  refine jstart (by decide) rfl (fX7_isOrdered_0 ?_)
  rw [h0, hMa]
  refine ⟨ha, ⟨hi.1, by rw [jal_n7 ha]; omega⟩, fun q => ⟨Or.inl rfl, Or.inr ⟨rfl, fun k => k.1 q⟩, rfl⟩, fun q => ⟨fun q2 => ⟨Or.inl rfl, Or.inr ⟨rfl, fun k => q2 ((hv.and h5.not).zero.mpr (fun j j0 j1 x => x.2 (k.2 j j0 j1 x.1)))⟩, rfl⟩, fun q2 => ⟨Or.inr rfl, Or.inl ⟨rfl, q, fun j j0 j1 x => ?_⟩, rfl⟩⟩⟩
  have := (hv.and h5.not).zero.mp q2 j j0 j1
  by_cases y : j < C b 0 1 ∧ 0 ≤ C b 7 j ∧ C b 7 j < 10
  · exact y
  · exact absurd ⟨x, y⟩ this
theorem c_add {C M : jM} {a b tm i m g : Int} (ha : 0 ≤ a ∧ a < 18) (hNa : jNB C a) (hOa : jMo C a) (hMa : M a = C a) (hT : jTm C M a b tm) (hi : 0 ≤ i ∧ i < C a 0 1) (hm : 0 ≤ m ∧ m < 10) (hmi : ¬ C a 7 i = -1)
    (hg : 0 ≤ g ∧ g ≤ 100) (hw : 0 ≤ M 21 7 (10 * C a 7 i + m) ∧ M 21 7 (10 * C a 7 i + m) ≤ 100000) :
    jCallP 0 170 [.inr (21, 0), .inl i, .inl m, .inl g] M (fun _ M' => M' = jup M 21 7 (10 * C a 7 i + m) (M 21 7 (10 * C a 7 i + m) + g)) := by
  have n14a := hNa.2.2
  have oa := hOa i hi.1 hi.2
  refine jstart (by decide) rfl (fX7_add_0 ?_)
  have w : jwr (jwr (C a 7 i * 10) + m) = 10 * C a 7 i + m := by rw [jwr_id (z := C a 7 i * 10) (by omega) (by omega), jwr_id (by omega) (by omega)]; omega
  rw [hT.1, hMa, w]
  have b7 : 0 ≤ 10 * C a 7 i + m ∧ 10 * C a 7 i + m < jal 21 7 := by rw [jal_21_7]; omega
  refine ⟨ha, ⟨hi.1, by rw [jal_n7 ha]; omega⟩, fun q => absurd q hmi, fun _ => ⟨b7, b7, ?_⟩⟩
  rw [jwr_id (by omega) (by omega)]
/-- what tie i may weigh with moment m -/
def gMo (C : jM) (a b wg i : Int) (P : Int → Prop) (m g : Int) : Prop :=
  (0 ≤ g ∧ g ≤ 84) ∧ ∀ j, 0 ≤ j → j < C b 0 1 → P j → C b 7 j = m → gI C a b wg i j ≤ g
/-- a set's gain is not less than each member's -/
theorem gn_ge {C M : jM} {a b lv wg i s : Int} {P : Int → Prop} (hC : jCmp C M a b lv wg i (C b 0 1)) (hH : 1 ≤ C a 8 i ∧ C a 8 i ≤ 14) (hs : isM s P) (hP : ∀ j, P j → cld C a b lv wg i j) (n14 : C b 0 1 ≤ 14) :
    (0 ≤ gn wg (C a 8 i) (jiand s (M 20 11 i)) (jiand s (M 20 12 i)) s ∧ gn wg (C a 8 i) (jiand s (M 20 11 i)) (jiand s (M 20 12 i)) s ≤ 84) ∧ ∀ j, P j → gI C a b wg i j ≤ gn wg (C a 8 i) (jiand s (M 20 11 i)) (jiand s (M 20 12 i)) s := by
  unfold gn gI
  refine ⟨?_, fun j hj => ?_⟩
  · split
    · split
      · omega
      · split
        · omega
        · split <;> omega
    · split <;> omega
  · have hc := hP j hj
    have hj0 := hc.1
    have hj1 := hc.2.1
    have ns : ¬ s = 0 := fun k => hs.zero.mp k j hj0 (by omega) hj
    rw [if_neg (show ¬ j = -1 by omega), if_neg ns]
    by_cases yw : wg = 0
    · rw [if_pos yw, if_pos yw]
      by_cases m0 : meet C (C a 5 i) (C b 5 j) = 0
      · have n1 : ¬ jiand s (M 20 11 i) = 0 := fun k => (hs.and hC.2.2.1).zero.mp k j hj0 (by omega) ⟨hj, ⟨hc, m0⟩, hj1⟩
        rw [if_pos m0, if_pos n1]
        omega
      · rw [if_neg m0]
        by_cases m1 : meet C (C a 5 i) (C b 5 j) ≤ 1
        · have n1 : ¬ jiand s (M 20 12 i) = 0 := fun k => (hs.and hC.2.2.2).zero.mp k j hj0 (by omega) ⟨hj, ⟨hc, m1⟩, hj1⟩
          rw [if_pos m1, if_pos n1]
          split <;> omega
        · rw [if_neg m1]
          split
          · omega
          · split <;> omega
    · rw [if_neg yw, if_neg yw]
      omega
theorem gn_0 (wg h : Int) (x y : Int) (hx : x = 0) (hy : y = 0) : gn wg h x y 0 = 0 := by
  subst hx; subst hy
  unfold gn
  split
  · rw [if_neg (fun k => k rfl), if_neg (fun k => k rfl), if_neg (fun k => k rfl)]; omega
  · rw [if_pos rfl]
set_option maxHeartbeats 1000000 in
theorem c_spread {C M : jM} {a b lv wg tm i v : Int} {P : Int → Prop} (hTa : jTl C a) (hNb : jNB C b) (hMa : M a = C a) (h1 : M 20 0 1 = a) (h3 : M 20 0 3 = wg) (hT : jTm C M a b tm) (hC : jCmp C M a b lv wg i (C b 0 1)) (hi : 0 ≤ i ∧ i < C a 0 1) (hH : 1 ≤ C a 8 i ∧ C a 8 i ≤ 14)
    (hmi : ¬ C a 7 i = -1) (hv : isM v P) (hP : ∀ j, P j → cld C a b lv wg i j) (hw : ∀ c, 0 ≤ c → c < 100 → 0 ≤ M 21 7 c ∧ M 21 7 c ≤ 84 * i) :
    jCallP 1 122 [.inr (20, 0), .inl i, .inl v] M (fun _ M' => (∀ x y, ¬ (x = 21 ∧ y = 7) → M' x y = M x y) ∧ (∀ h m, 0 ≤ h → h < 10 → 0 ≤ m → m < 10 → (¬ h = C a 7 i → M' 21 7 (10 * h + m) = M 21 7 (10 * h + m)) ∧ (h = C a 7 i → gMo C a b wg i P m (M' 21 7 (10 * h + m) - M 21 7 (10 * h + m))))) := by
  obtain ⟨ha, hNa, hKa, hOa⟩ := hTa
  have n14a := hNa.2.2
  have oa := hOa i hi.1 hi.2
  refine jstart (by decide) rfl (fX0_spread_0 ?_)
  refine (show ∀ n, 0 ≤ n → n ≤ 10 → ∀ M1 : jM, (∀ x y, ¬ (x = 21 ∧ y = 7) → M1 x y = M x y) → (∀ h m, 0 ≤ h → h < 10 → 0 ≤ m → m < 10 → (¬ (h = C a 7 i ∧ m < n) → M1 21 7 (10 * h + m) = M 21 7 (10 * h + m)) ∧ (h = C a 7 i ∧ m < n → gMo C a b wg i P m (M1 21 7 (10 * h + m) - M 21 7 (10 * h + m)))) →
      jWP 1 122 2 [some (.inr (20, 0)), some (.inl i), some (.inl v), some (.inl n), none] [] M1 (fun _ M' => (∀ x y, ¬ (x = 21 ∧ y = 7) → M' x y = M x y) ∧ (∀ h m, 0 ≤ h → h < 10 → 0 ≤ m → m < 10 → (¬ h = C a 7 i → M' 21 7 (10 * h + m) = M 21 7 (10 * h + m)) ∧ (h = C a 7 i → gMo C a b wg i P m (M' 21 7 (10 * h + m) - M 21 7 (10 * h + m))))) from ?_) 0 (by omega) (by omega) M (fun _ _ _ => rfl) (fun h m _ _ _ _ => ⟨fun _ => rfl, fun q => by omega⟩)
  refine jloop (e := 10) (fun M1 g1 g2 => ?_) (fun n n0 n1 ih M1 g1 g2 => ?_)
  · exact fX0_spread_2 ⟨fun _ => ⟨g1, fun h m a0 a1 a2 a3 => ⟨fun q => (g2 h m a0 a1 a2 a3).1 (fun k => q k.1), fun q => (g2 h m a0 a1 a2 a3).2 ⟨q, a3⟩⟩⟩, fun q => by exfalso; omega⟩
  · have f1 : M1 20 0 1 = a := by rw [g1 _ _ (by simp)]; exact h1
    have f3 : M1 20 0 3 = wg := by rw [g1 _ _ (by simp)]; exact h3
    have fa : M1 a = C a := by funext y; rw [g1 _ _ (by omega), hMa]
    have f4 : M1 21 4 n = M 21 4 n := by rw [g1 _ _ (by simp)]
    have f11 : M1 20 11 i = M 20 11 i := by rw [g1 _ _ (by simp)]
    have f12 : M1 20 12 i = M 20 12 i := by rw [g1 _ _ (by simp)]
    have hat := (hT.2.2.2.1 n n0 n1).1
    have hset := hv.and hat
    have old : M1 21 7 (10 * C a 7 i + n) = M 21 7 (10 * C a 7 i + n) := (g2 (C a 7 i) n (by omega) oa.2 n0 n1).1 (fun k => by omega)
    refine fX0_spread_2 ⟨fun q => by exfalso; omega, fun _ => ⟨⟨n0, by rw [jal_21_4]; exact n1⟩, ?_⟩⟩
    rw [f4, jwr_id (z := n + 1) (by omega) (by omega)]
    refine ⟨fun q => ih M1 g1 (fun h m a0 a1 a2 a3 => ⟨fun k => (g2 h m a0 a1 a2 a3).1 (fun x => k ⟨x.1, by omega⟩), fun k => ?_⟩), fun q => ?_⟩
    · by_cases hm : m = n
      · rw [k.1, hm, old, Int.sub_self]
        refine ⟨⟨by omega, by omega⟩, fun j j0 j1 hj hjm => absurd ⟨hj, j1, hjm⟩ (hset.zero.mp q j j0 (by have := hNb.2.2; omega))⟩
      · exact (g2 h m a0 a1 a2 a3).2 ⟨k.1, by omega⟩
    · rw [f1, fa, f11, f12]
      have b14 : i < 14 := by omega
      refine ⟨ha, ⟨hi.1, by rw [jal_n8 ha]; omega⟩, ⟨hi.1, by rw [jal_20_11]; omega⟩, ⟨hi.1, by rw [jal_20_12]; omega⟩, ?_⟩
      refine jc (c_gain (by omega) (by omega)) (by decide) ?_
      rw [f3]
      have hge := gn_ge hC hH hset (fun j hj => hP j hj.1) hNb.2.2
      generalize gn wg (C a 8 i) (jiand (jiand v (M 21 4 n)) (M 20 11 i)) (jiand (jiand v (M 21 4 n)) (M 20 12 i)) (jiand v (M 21 4 n)) = g at hge ⊢
      have hT1 : jTm C M1 a b tm := by
        unfold jTm at hT ⊢
        rw [g1 21 0 (by simp), g1 21 4 (by simp), g1 21 5 (by simp)]
        exact hT
      have hwo := hw (10 * C a 7 i + n) (by omega) (by omega)
      refine jcv (c_add (C := C) (b := b) (tm := tm) ha hNa hOa fa hT1 hi ⟨n0, n1⟩ hmi (by omega) (by rw [old]; omega)) (by decide) (fun _ => ?_)
      refine ih _ (fun x y h => by rw [jup_set, jset_ne h]; exact g1 x y h) (fun h m a0 a1 a2 a3 => ⟨fun k => ?_, fun k => ?_⟩)
      · rw [jup_ne (by
          rintro ⟨-, -, x⟩
          exact k (by omega))]
        exact (g2 h m a0 a1 a2 a3).1 (fun x => k ⟨x.1, by omega⟩)
      · by_cases hm : m = n
        · rw [k.1, hm, jup_eq, old]
          rw [show M 21 7 (10 * C a 7 i + n) + g - M 21 7 (10 * C a 7 i + n) = g by omega]
          exact ⟨hge.1, fun j j0 j1 hj hjm => hge.2 j ⟨hj, j1, hjm⟩⟩
        · rw [jup_ne (by
            rintro ⟨-, -, x⟩
            omega)]
          exact (g2 h m a0 a1 a2 a3).2 ⟨k.1, by omega⟩
