/-! WHAT THE CONSTRUCTORS LEAVE, as a world of the small machine -/
def kM0 : jM := fun g k i =>
  if k = 0 then (if g = 18 then (if i = 11 then -6 else 0) else if g = 20 then (if i = 1 ∨ i = 2 then 15 else 0) else if g = 21 then (if i = 0 ∨ i = 1 then 16 else 0)
    else if g = 22 then (if i = 2 ∨ i = 3 then 17 else if i = 4 then 1 else if i = 8 ∨ i = 9 ∨ i = 13 then -1 else 0) else if g = 27 then (if i = 4 then -1 else 0) else 0)
  else if g = 19 then (if k = 1 then 2 else if k = 3 ∨ k = 4 then -1 else 0) else if g = 28 then (if k = 1 then 2 else if k = 3 ∨ k = 4 then -6 else 0) else 0
theorem kM0_bd (g : Int) (k : Nat) (i : Int) : -6 ≤ kM0 g k i ∧ kM0 g k i ≤ 17 := by
  unfold kM0
  repeat' split
  all_goals omega
theorem kM0_RM : jRM kM0 := fun g k i => by
  have := kM0_bd g k i
  exact jwr_id (by omega) (by omega)
theorem kM0_z {t : Int} (h : t < 18 ∨ 23 ≤ t ∧ t < 27) (k : Nat) (i : Int) : kM0 t k i = 0 := by
  unfold kM0
  split
  · rw [if_neg (by omega), if_neg (by omega), if_neg (by omega), if_neg (by omega), if_neg (by omega)]
  · rw [if_neg (by omega), if_neg (by omega)]
theorem kM0_191 (k : Int) : kM0 19 1 k = 2 := rfl
theorem kM0_192 (k : Int) : kM0 19 2 k = 0 := rfl
theorem kM0_193 (k : Int) : kM0 19 3 k = -1 := rfl
theorem kM0_194 (k : Int) : kM0 19 4 k = -1 := rfl
theorem kM0_L : jLV kM0 := fun k k0 k1 => by
  rw [kM0_191, kM0_192, kM0_193, kM0_194]
  exact ⟨by omega, by omega, fun _ => rfl, by omega, by omega, fun h => by omega, fun h => by omega⟩
theorem kM0_lch : ∀ n : Nat, lch kM0 n (-1) = -1
  | 0 => rfl
  | n + 1 => if_pos rfl
theorem kM0_A : jAC kM0 := fun k k0 k1 => by
  show (if k = -1 then -1 else lch kM0 15 (kM0 19 3 k)) = -1
  rw [if_neg (by omega), kM0_193, kM0_lch]
theorem kM0_G {t : Int} (h0 : 0 ≤ t) (h1 : t < 14) : jGood kM0 t ∧ jSr kM0 t ∧ jUq kM0 t := by
  have e : ∀ k i, kM0 t k i = 0 := fun k i => kM0_z (by omega) k i
  have n1 : ∀ i : Int, 0 ≤ i → ¬ i < kM0 t 0 1 := fun i i0 => by rw [e]; omega
  have n0 : ∀ i : Int, 0 ≤ i → ¬ i < kM0 t 0 0 := fun i i0 => by rw [e]; omega
  refine ⟨⟨⟨⟨h0, by omega⟩, ⟨by rw [e]; omega, by rw [e]; omega⟩, fun i i0 i1 => absurd i1 (n1 i i0), fun i i0 i1 => absurd i1 (n1 i i0)⟩, fun i q i0 i1 => absurd i1 (n1 i i0), fun i i0 i1 => absurd i1 (n1 i i0), fun i i0 i1 => absurd i1 (n1 i i0), fun i q i0 i1 => absurd i1 (n1 i i0)⟩, fun i i0 i1 => absurd i1 (n0 i i0), fun i j i0 i1 i2 => absurd i2 (n1 j (by omega))⟩
theorem kM0_I : Inv kM0 := by
  refine ⟨⟨kM0_L, fun g g0 g1 => ⟨(kM0_G g0 g1).1, (kM0_G g0 g1).2.1⟩, fun c _ _ => rfl, rfl⟩, kM0_A, fun t t0 t1 => (kM0_G t0 t1).2.2, Or.inl rfl, Or.inl rfl, Or.inl rfl, fun _ => ⟨rfl, rfl⟩, fun q => absurd rfl q⟩
theorem kM0_R : rel kM0 kM0 := by
  have e : ∀ t k i, 0 ≤ t → t < 14 → kM0 t k i = 0 := fun t k i h0 h1 => kM0_z (by omega) k i
  refine ⟨fun k k0 k1 => ⟨rfl, rfl, rfl, rfl⟩, fun t t0 t1 => ⟨by rw [e t 0 0 t0 t1]; rfl, by rw [e t 0 1 t0 t1]; rfl, fun x x0 x1 => ?_, fun i i0 i1 => ?_⟩, fun t t0 t1 => by rw [e t 0 2 t0 (by omega)]; rfl, ⟨rfl, fun q => absurd rfl q⟩, ⟨rfl, rfl, fun q => absurd rfl q⟩⟩
  · rw [e t 0 0 t0 t1] at x1; omega
  · rw [e t 0 1 t0 t1] at i1; omega
section WORLD
variable (cI cZ cN : ClassId) (ad : Int → Nat → Nat)
def kPhi (q : Int × Nat) : Nat × va_E := (ad q.1 q.2, jCe cI cZ cN ad kM0 q)
def kNl (n : Int) : List (Int × Nat) := [(n, 0), (n, 4), (n, 5), (n, 6), (n, 7), (n, 8)]
theorem k_0 : jI 0 = 0 := rfl
theorem k_1 : jI 1 = 1 := by decide +kernel
theorem k_2 : jI 2 = 2 := by decide +kernel
theorem k_m1 : jI (-1) = -1 := by decide +kernel
theorem k_m6 : jI (-6) = -6 := by decide +kernel
theorem kw_net {n : Int} (h : 0 ≤ n ∧ n < 18) : kNet cI (ad n 0) (ad n) = (kNl n).map (kPhi cI cZ cN ad) := by
  have h4 := jCl_net h
  have ha : ∀ k m, (jTyp.getD 4 []).find? (fun a => a.1 == k) = some (k, 1, m) → jAr n k = (1, m) := fun k m hk => by
    unfold jAr
    rw [h4, hk]
  have hz : ∀ k i, kM0 n k i = 0 := fun k i => kM0_z (by omega) k i
  have hc : ∀ k m, ¬ k = 0 → (jTyp.getD 4 []).find? (fun a => a.1 == k) = some (k, 1, m) → jCe cI cZ cN ad kM0 (n, k) = kZ cI m := fun k m hk0 hk => by
    unfold jCe kZ
    rw [if_neg hk0, ha k m hk, if_pos rfl]
    have : (fun j : Nat => jI (kM0 n k j)) = fun _ => 0 := funext fun j => by rw [hz]; rfl
    dsimp only
    rw [this]
  have h0 : jCe cI cZ cN ad kM0 (n, 0) = .inr (4, [.int 0, .int 0, .int 0, .ref (ad n 4), .ref (ad n 5), .ref (ad n 6), .ref (ad n 7), .ref (ad n 8)]) := by
    unfold jCe jFl
    rw [if_pos rfl, h4]
    simp only [jft, List.getD_cons_succ, List.getD_cons_zero, List.mapIdx_cons, List.mapIdx_nil, jfc_net h, hz]
    rfl
  unfold kNet kNl kPhi
  simp only [List.map_cons, List.map_nil]
  rw [h0, hc 4 6 (by decide) rfl, hc 5 14 (by decide) rfl, hc 6 42 (by decide) rfl, hc 7 14 (by decide) rfl, hc 8 14 (by decide) rfl]
theorem kw_19 : kLa cI cZ (ad 19 0) (ad 19) = [((19 : Int), 0), (19, 1), (19, 2), (19, 3), (19, 4)].map (kPhi cI cZ cN ad) := by
  unfold kLa kK
  rw [← k_2, ← k_m1]
  rfl
theorem kw_25 : kGs cI (ad 25 0) (ad 12 0) (ad 20 6) (ad 20 7) (ad 25) = [((25 : Int), 0), (25, 5), (25, 6)].map (kPhi cI cZ cN ad) := rfl
def kl21 : List (Int × Nat) := [(21, 4), (21, 5), (21, 7), (21, 8)]
theorem kw_21 : kTm cI (ad 21 0) (ad 16 0) (ad 16) (ad 21) = (((21 : Int), 0) :: (kNl 16 ++ kl21)).map (kPhi cI cZ cN ad) := by
  rw [List.map_cons, List.map_append, ← kw_net cI cZ cN ad (n := 16) (by omega)]
  rfl
def kl20 : List (Int × Nat) := [(20, 6), (20, 7), (20, 8), (20, 9), (20, 10), (20, 11), (20, 12), (20, 13), (20, 14)]
theorem kw_20 : kAnR cI (ad 15 0) (ad 21 0) (ad 16 0) (ad 15) (ad 16) (ad 21) (ad 20) = (kNl 15 ++ (((21 : Int), 0) :: (kNl 16 ++ kl21)) ++ kl20).map (kPhi cI cZ cN ad) := by
  rw [List.map_append, List.map_append, ← kw_net cI cZ cN ad (n := 15) (by omega), ← kw_21]
  unfold kAnR
  simp only [List.append_assoc]
  rfl
def kfA : List Value := [.ref (ad 19 0), .ref (ad 15 0), .ref (ad 15 0), .int 0, .ref (ad 21 0), .ref (ad 20 6), .ref (ad 20 7), .ref (ad 20 8), .ref (ad 20 9), .ref (ad 20 10), .ref (ad 20 11), .ref (ad 20 12), .ref (ad 20 13), .ref (ad 20 14)]
theorem kw_22 : kSe cI (ad 22 0) (ad 20 0) (ad 20 6) (ad 17 0) (kfA ad) (ad 17) (ad 22) = (((22 : Int), 0) :: (([((20 : Int), 0)] ++ kNl 17 ++ [(22, 6)]) ++ [(22, 11)])).map (kPhi cI cZ cN ad) := by
  rw [List.map_cons, List.map_append, List.map_append, List.map_append, ← kw_net cI cZ cN ad (n := 17) (by omega)]
  unfold kSe
  rw [← k_m1, ← k_1]
  rfl
theorem kw_23 : kKe cI (ad 23 0) (ad 12 0) (ad 13 0) (ad 24 0) (ad 12) (ad 13) (ad 23) (ad 24) = (((23 : Int), 0) :: ((((kNl 13 ++ kNl 12) ++ [(23, 6)]) ++ [(23, 7)]) ++ [((24 : Int), 0), (24, 5), (24, 6)])).map (kPhi cI cZ cN ad) := by
  rw [List.map_cons, List.map_append, List.map_append, List.map_append, List.map_append, ← kw_net cI cZ cN ad (n := 13) (by omega), ← kw_net cI cZ cN ad (n := 12) (by omega)]
  rfl
theorem kw_26 : kWe cI (ad 26 0) (ad 19 0) (ad 20 0) (ad 14 0) (ad 14) (ad 26) = (((26 : Int), 0) :: ((((((kNl 14 ++ [(26, 4)]) ++ [(26, 5)]) ++ [(26, 6)]) ++ [(26, 7)]) ++ [(26, 8)]) ++ [(26, 9)])).map (kPhi cI cZ cN ad) := by
  rw [List.map_cons, List.map_append, List.map_append, List.map_append, List.map_append, List.map_append, List.map_append, ← kw_net cI cZ cN ad (n := 14) (by omega)]
  rfl
theorem kw_27 : kSk cI (ad 27 0) (ad 18 2) (ad 22 0) (ad 27) = [((27 : Int), 0), (27, 3)].map (kPhi cI cZ cN ad) := by
  unfold kSk
  rw [← k_m1]
  rfl
def kL28 : List (Int × Nat) := ((28 : Int), 0) :: (jTyp.getD 10 []).map (fun a => ((28 : Int), a.1))
theorem kw_28a (k m : Nat) (v : Int) (hk0 : ¬ k = 0) (ha : jAr 28 k = (1, m)) (hv : ∀ i, kM0 28 k i = v) : jCe cI cZ cN ad kM0 (28, k) = kK cI m (jI v) := by
  unfold jCe kK
  rw [if_neg hk0, ha, if_pos rfl]
  have : (fun j : Nat => jI (kM0 28 k j)) = fun _ => jI v := funext fun j => by rw [hv]
  dsimp only
  rw [this]
theorem kw_28b : jCe cI cZ cN ad kM0 (28, 2) = kZ cZ 16 := by
  unfold jCe kZ
  rw [if_neg (by decide), show jAr 28 2 = (2, 16) from rfl, if_neg (by decide), if_pos rfl]
  have : (fun j : Nat => jI (kM0 28 2 j)) = fun _ => 0 := funext fun j => by rw [show kM0 28 2 j = 0 from rfl]; rfl
  dsimp only
  rw [this]
theorem kw_28i (i : Int) : kM0 28 0 i = 0 := rfl
theorem kw_28h : jCe cI cZ cN ad kM0 (28, 0) = .inr (10, [.ref (ad 28 1), .ref (ad 28 2), .ref (ad 28 3), .ref (ad 28 4), .int 0, .ref (ad 28 6), .ref (ad 28 7), .ref (ad 28 8), .ref (ad 28 9), .ref (ad 28 10), .ref (ad 28 11), .ref (ad 28 12), .int 0, .ref (ad 28 14), .int 0, .int 0, .int 0, .int 0, .int 0, .int 0, .ref (ad 28 21), .ref (ad 28 22), .int 0, .ref (ad 28 24), .ref (ad 28 25), .int 0, .int 0, .int 0, .int 0, .int 0, .ref (ad 28 31), .ref (ad 28 32), .ref (ad 28 33), .ref (ad 28 34), .ref (ad 28 35), .ref (ad 28 36)]) := by
  unfold jCe jFl
  rw [if_pos rfl, show jCl 28 = 10 from rfl]
  simp only [jft, List.getD_cons_succ, List.getD_cons_zero, List.mapIdx_cons, List.mapIdx_nil, kw_28i]
  rfl
def kk28 : List Nat := [1, 2, 3, 4, 6, 7, 8, 9, 10, 11, 12, 14, 21, 22, 24, 25, 31, 32, 33, 34, 35, 36]
theorem kL28_eq : kL28 = ((28 : Int), 0) :: kk28.map (fun k => ((28 : Int), k)) := rfl
theorem kw_28 : kMo cI cZ (ad 28 0) (ad 28) = kL28.map (kPhi cI cZ cN ad) := by
  rw [kL28_eq]
  unfold kMo kPhi kk28
  simp only [List.map_cons, List.map_nil]
  rw [kw_28h, kw_28b, kw_28a cI cZ cN ad 1 16 2 (by decide) rfl (fun _ => rfl), kw_28a cI cZ cN ad 3 16 (-6) (by decide) rfl (fun _ => rfl), kw_28a cI cZ cN ad 4 16 (-6) (by decide) rfl (fun _ => rfl), kw_28a cI cZ cN ad 6 15 0 (by decide) rfl (fun _ => rfl), kw_28a cI cZ cN ad 7 90 0 (by decide) rfl (fun _ => rfl), kw_28a cI cZ cN ad 8 15 0 (by decide) rfl (fun _ => rfl), kw_28a cI cZ cN ad 9 15 0 (by decide) rfl (fun _ => rfl), kw_28a cI cZ cN ad 10 1260 0 (by decide) rfl (fun _ => rfl), kw_28a cI cZ cN ad 11 6 0 (by decide) rfl (fun _ => rfl), kw_28a cI cZ cN ad 12 14 0 (by decide) rfl (fun _ => rfl), kw_28a cI cZ cN ad 14 6 0 (by decide) rfl (fun _ => rfl), kw_28a cI cZ cN ad 21 6 0 (by decide) rfl (fun _ => rfl), kw_28a cI cZ cN ad 22 14 0 (by decide) rfl (fun _ => rfl), kw_28a cI cZ cN ad 24 14 0 (by decide) rfl (fun _ => rfl), kw_28a cI cZ cN ad 25 14 0 (by decide) rfl (fun _ => rfl), kw_28a cI cZ cN ad 31 6 0 (by decide) rfl (fun _ => rfl), kw_28a cI cZ cN ad 32 14 0 (by decide) rfl (fun _ => rfl), kw_28a cI cZ cN ad 33 6 0 (by decide) rfl (fun _ => rfl), kw_28a cI cZ cN ad 34 14 0 (by decide) rfl (fun _ => rfl), kw_28a cI cZ cN ad 35 14 0 (by decide) rfl (fun _ => rfl), kw_28a cI cZ cN ad 36 14 0 (by decide) rfl (fun _ => rfl), k_2, k_m6]
  rfl
theorem kw_18 : ((ad 18 0, .inr (9, [.ref (ad 19 0), .ref (ad 18 2), .ref (ad 20 0), .ref (ad 22 0), .ref (ad 23 0), .ref (ad 25 0), .ref (ad 26 0), .ref (ad 27 0), .int 0, .int 0, .int 0, .int (-6)])) : Nat × va_E) = kPhi cI cZ cN ad (18, 0) := by
  rw [← k_m6]
  rfl
theorem kw_tal : ((ad 18 2, kQQ cN 12 (fun j : Nat => ad (j : Int) 0)) : Nat × va_E) = kPhi cI cZ cN ad (18, 2) := rfl
def klN : List (Int × Nat) := (List.range 12).flatMap (fun j : Nat => kNl (j : Int))
theorem kw_nets : kNets cI (fun j : Nat => ad (j : Int) 0) (fun j : Nat => ad (j : Int)) 12 = klN.map (kPhi cI cZ cN ad) := by
  unfold kNets klN
  rw [List.map_flatMap]
  apply k_fm
  intro j hj
  have := List.mem_range.mp hj
  exact kw_net cI cZ cN ad (by omega)
end WORLD
