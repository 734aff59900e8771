/-! THE WORLD THAT THE CONSTRUCTORS LEAVE is the small machine's world kM0 -/
section WORLD2
variable (cI cZ cN : ClassId) (ad : Int → Nat → Nat)
def kq19 : List (Int × Nat) := [((19 : Int), 0), (19, 1), (19, 2), (19, 3), (19, 4)]
def kq25 : List (Int × Nat) := [((25 : Int), 0), (25, 5), (25, 6)]
def kq20 : List (Int × Nat) := kNl 15 ++ (((21 : Int), 0) :: (kNl 16 ++ kl21)) ++ kl20
def kq22 : List (Int × Nat) := ((22 : Int), 0) :: (([((20 : Int), 0)] ++ kNl 17 ++ [(22, 6)]) ++ [(22, 11)])
def kq23 : List (Int × Nat) := ((23 : Int), 0) :: ((((kNl 13 ++ kNl 12) ++ [(23, 6)]) ++ [(23, 7)]) ++ [((24 : Int), 0), (24, 5), (24, 6)])
def kq26 : List (Int × Nat) := ((26 : Int), 0) :: ((((((kNl 14 ++ [(26, 4)]) ++ [(26, 5)]) ++ [(26, 6)]) ++ [(26, 7)]) ++ [(26, 8)]) ++ [(26, 9)])
def kq27 : List (Int × Nat) := [((27 : Int), 0), (27, 3)]
def kqs : List (Int × Nat) := ((18 : Int), 2) :: ((((18 : Int), 0) :: (((((((kq19 ++ kq20) ++ kq22) ++ kq23) ++ klN) ++ kq25) ++ kq26) ++ kq27)) ++ kL28)
theorem kqs_perm : kqs.Perm jCs := List.isPerm_iff.mp (by decide +kernel)
theorem k_pm7 (h t : Nat × va_E) (A B C E F G I J K : va_W) : ((h :: ((((((((A ++ B) ++ C) ++ E) ++ [t]) ++ F) ++ G) ++ I) ++ J)) ++ K).Perm (t :: ((h :: (((((((A ++ B) ++ C) ++ E) ++ F) ++ G) ++ I) ++ J)) ++ K)) := by
  have := List.perm_middle (a := t) (l₁ := h :: (A ++ (B ++ (C ++ E)))) (l₂ := F ++ (G ++ (I ++ (J ++ K))))
  simpa only [List.append_assoc, List.cons_append, List.nil_append] using this
theorem kw_map : (((ad 18 2, kQQ cN 12 (fun j : Nat => ad (j : Int) 0)) : Nat × va_E) :: ((((ad 18 0, .inr (9, [.ref (ad 19 0), .ref (ad 18 2), .ref (ad 20 0), .ref (ad 22 0), .ref (ad 23 0), .ref (ad 25 0), .ref (ad 26 0), .ref (ad 27 0), .int 0, .int 0, .int 0, .int (-6)])) : Nat × va_E) :: (((((((kLa cI cZ (ad 19 0) (ad 19) ++ kAnR cI (ad 15 0) (ad 21 0) (ad 16 0) (ad 15) (ad 16) (ad 21) (ad 20)) ++ kSe cI (ad 22 0) (ad 20 0) (ad 20 6) (ad 17 0) (kfA ad) (ad 17) (ad 22)) ++ kKe cI (ad 23 0) (ad 12 0) (ad 13 0) (ad 24 0) (ad 12) (ad 13) (ad 23) (ad 24)) ++ kNets cI (fun j : Nat => ad (j : Int) 0) (fun j : Nat => ad (j : Int)) 12) ++ kGs cI (ad 25 0) (ad 12 0) (ad 20 6) (ad 20 7) (ad 25)) ++ kWe cI (ad 26 0) (ad 19 0) (ad 20 0) (ad 14 0) (ad 14) (ad 26)) ++ kSk cI (ad 27 0) (ad 18 2) (ad 22 0) (ad 27))) ++ kMo cI cZ (ad 28 0) (ad 28))) = kqs.map (kPhi cI cZ cN ad) := by
  unfold kqs
  rw [List.map_cons, List.map_append, List.map_cons, List.map_append, List.map_append, List.map_append, List.map_append, List.map_append, List.map_append, List.map_append]
  have e19 : kq19.map (kPhi cI cZ cN ad) = _ := (kw_19 cI cZ cN ad).symm
  have e20 : kq20.map (kPhi cI cZ cN ad) = _ := (kw_20 cI cZ cN ad).symm
  have e22 : kq22.map (kPhi cI cZ cN ad) = _ := (kw_22 cI cZ cN ad).symm
  have e23 : kq23.map (kPhi cI cZ cN ad) = _ := (kw_23 cI cZ cN ad).symm
  have e25 : kq25.map (kPhi cI cZ cN ad) = _ := (kw_25 cI cZ cN ad).symm
  have e26 : kq26.map (kPhi cI cZ cN ad) = _ := (kw_26 cI cZ cN ad).symm
  have e27 : kq27.map (kPhi cI cZ cN ad) = _ := (kw_27 cI cZ cN ad).symm
  rw [e19, e20, e22, e23, e25, e26, e27, ← kw_nets cI cZ cN ad, ← kw_28 cI cZ cN ad, ← kw_18 cI cZ cN ad, ← kw_tal cI cZ cN ad]
end WORLD2
theorem kw_all {A : Nat → Prop} {cI cZ cN : ClassId} {D : va_G} {s : State} {ad : Int → Nat → Nat} {H : Heap} {locs : List Loc} (h : kWd A cI cZ cN D s (kLT cI cZ cN ad ++ kMo cI cZ (ad 28 0) (ad 28)) H locs) : kWd A cI cZ cN D s (jW cI cZ cN ad kM0) H locs := by
  have h1 := h.perm (k_pm7 _ _ _ _ _ _ _ _ _ _ _)
  have h2 := h1.toQQ (q0 := 0) (f := fun j : Nat => ad (j : Int) 0) rfl
  have h3 : kWd A cI cZ cN D s (kqs.map (kPhi cI cZ cN ad)) H locs := by
    rw [← kw_map]
    exact h2
  exact h3.perm (kqs_perm.map _)
/-! WHAT THE TABLES SAY AT THE LAW'S ENTRY -/
theorem lw_nest : ∀ w ∈ knl.map (fun x => Jvm.Cond.methodLinkNest x.1 x.2.1 x.2.2 "LikeTales"), w ∈ lw_tbl := jin_of [(1, 59), (1, 126), (1, 131), (1, 216), (2, 27), (2, 90), (2, 100)] rfl
theorem lw_over : ∀ w ∈ [Jvm.Cond.arrayOver (.object RX4)], w ∈ lw_tbl := jin_of [(2, 89)] rfl
theorem lw_kN {s : State} {args : Array Value} (hts : ∀ w ∈ lw_tbl, w.before args s = true) : kN s :=
  ⟨fun x hx => va_Nw.of rfl (hts _ (lw_nest _ (List.mem_map.mpr ⟨x, hx, rfl⟩))), va_AO.of (hts _ (lw_over _ List.mem_cons_self))⟩
theorem lw_arrI {s : State} {args : Array Value} (h : (Jvm.Cond.arrayClass .int).before args s = true) : ∃ cA, ArrOfT s cA .int ∧ va_RA s cA .int := by
  obtain ⟨cA, kA, comp, h1, h2, h3⟩ := Cond.arrayClass_spec h
  exact ⟨cA, fun n z => ⟨fun k h => (by cases h), kA, h2, comp, h3⟩, h1⟩
theorem lw_arrZ {s : State} {args : Array Value} (h : (Jvm.Cond.arrayClass .boolean).before args s = true) : ∃ cA, ArrOfT s cA .boolean ∧ va_RA s cA .boolean := by
  obtain ⟨cA, kA, comp, h1, h2, h3⟩ := Cond.arrayClass_spec h
  exact ⟨cA, fun n z => ⟨fun k h => (by cases h), kA, h2, comp, h3⟩, h1⟩
theorem lw_cls {s : State} {args : Array Value} (hts : ∀ w ∈ wsL_law, w.before args s = true) : ∀ ci, ci < 11 → ∃ q : ClassId × (Nat → Nat), u_Kn s (jcn ci) (jT_ ci) (jN ci) q.1 q.2 := by
  have go : ∀ ci n, ci < 11 → Jvm.Cond.instantiable (jcn ci) n ∈ wsL_law → ∃ q : ClassId × (Nat → Nat), u_Kn s (jcn ci) (jT_ ci) (jN ci) q.1 q.2 := by
    intro ci n hc hw
    obtain ⟨cC, iS, h⟩ := u_known (n := n) hts (jcl_ok ci hc).2.1 (hts _ hw)
    exact ⟨(cC, iS), h⟩
  intro ci h
  match ci, h with
  | 0, h => exact go 0 14 h (jw_mem (p := 20) rfl)
  | 1, h => exact go 1 6 h (jw_mem (p := 77) rfl)
  | 2, h => exact go 2 8 h (jw_mem (p := 66) rfl)
  | 3, h => exact go 3 4 h (jw_mem (p := 17) rfl)
  | 4, h => exact go 4 8 h (jw_mem (p := 69) rfl)
  | 5, h => exact go 5 14 h (jw_mem (p := 23) rfl)
  | 6, h => exact go 6 5 h (jw_mem (p := 128) rfl)
  | 7, h => exact go 7 8 h (jw_mem (p := 150) rfl)
  | 8, h => exact go 8 9 h (jw_mem (p := 84) rfl)
  | 9, h => exact go 9 12 h (jw_mem (p := 1) rfl)
  | 10, h => exact go 10 36 h (jw_mem (p := 4) rfl)
  | n + 11, h => omega
theorem lw_K {s : State} {args : Array Value} (hts : ∀ w ∈ wsL_law, w.before args s = true) (ho : va_AO RX4 s) : ∃ (D : va_G) (cI cZ cN : ClassId), va_K D vwCl (jTy cI cZ cN) s := by
  obtain ⟨cI, hI⟩ := lw_arrI (hts _ (jw_mem (p := 135) rfl))
  obtain ⟨cZ, hZ⟩ := lw_arrZ (hts _ (jw_mem (p := 137) rfl))
  obtain ⟨comp, cN, kA, h1, h2, h3, h4, h5⟩ := Cond.arrayOver_spec ho
  have hcl : ∀ ci, ∃ q : ClassId × (Nat → Nat), ci < 11 → u_Kn s (jcn ci) (jT_ ci) (jN ci) q.1 q.2 := fun ci => by
    by_cases h : ci < 11
    · obtain ⟨q, hq⟩ := lw_cls hts ci h
      exact ⟨q, fun _ => hq⟩
    · exact ⟨(cI, fun _ => 0), fun z => absurd z h⟩
  refine ⟨(fun c => (Classical.choose (hcl c)).1, fun c => (Classical.choose (hcl c)).2), cI, cZ, cN, fun c q hq => ?_, fun k q hq => ?_⟩
  · have hc : c < 11 := (List.getElem?_eq_some_iff.mp hq).1
    have h := Classical.choose_spec (hcl c) hc
    rw [(jcl_ok c hc).1] at hq
    cases hq
    exact h
  · match k, hq with
    | 0, hq => cases hq; exact hI
    | 1, hq => cases hq; exact hZ
    | 2, hq => cases hq; exact ⟨fun N z => ⟨fun k h => (by cases h), kA, h3, comp, h4⟩, kA, comp, h3, h4, h1, h5⟩
    | k + 3, hq => simp [jTy] at hq
