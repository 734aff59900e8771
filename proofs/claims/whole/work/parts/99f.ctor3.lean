/-! loops of the constructors -/
theorem k_arr_ext {cA : ClassId} {n : Nat} {f g : Nat → Value} (h : ∀ j, j < n → f j = g j) : arrV cA n f = arrV cA n g := by
  unfold arrV
  have e : (fun j : Fin n => f j.val) = fun j : Fin n => g j.val := funext fun j => h j.val j.isLt
  rw [e]
theorem k_cell_i {cA : ClassId} {n : Nat} {f g : Nat → Int32} (h : ∀ j, j < n → f j = g j) : vp_cell cA (n, Sum.inl f) = vp_cell cA (n, Sum.inl g) := by
  show arrV cA n (fun j => .int (f j)) = arrV cA n (fun j => .int (g j))
  exact k_arr_ext fun j hj => by rw [h j hj]
theorem k_cell_q {cA : ClassId} {n : Nat} {f g : Nat → Option Nat} (h : ∀ j, j < n → f j = g j) : vp_cell cA (n, Sum.inr (Sum.inr (Sum.inr (Sum.inr f)))) = vp_cell cA (n, Sum.inr (Sum.inr (Sum.inr (Sum.inr g)))) := by
  rw [vp_cell_q, vp_cell_q]
  exact k_arr_ext fun j hj => by rw [h j hj]
theorem kWd.cell {A : Nat → Prop} {cI cZ cN : ClassId} {D : va_G} {s : State} {ws : va_W} {H : Heap} {locs : List Loc} {q0 a : Nat} {cA : ClassId} {x y : vp_A} (hW : kWd A cI cZ cN D s ws H locs) (he : ws[q0]? = some (a, .inl (cA, x))) (hxy : vp_cell cA x = vp_cell cA y) : kWd A cI cZ cN D s (ws.set q0 (a, .inl (cA, y))) H locs := by
  obtain ⟨hP, hD, hR⟩ := hW
  refine ⟨hP.set hD he ?_ (fun _ _ => rfl), hD.set he, hR⟩
  have h := hP q0 _ he
  show H[a]? = some (vp_cell cA y)
  rw [← hxy]
  exact h
def kF (cI : ClassId) (n : Nat) (v : Int32) (i : Nat) : va_E := Sum.inl (cI, (n, Sum.inl (fun j : Nat => if j < i then v else 0)))
def kK (cI : ClassId) (n : Nat) (v : Int32) : va_E := Sum.inl (cI, (n, Sum.inl (fun _ : Nat => v)))
def kQ (cN : ClassId) (n : Nat) (f : Nat → Nat) (i : Nat) : va_E := Sum.inl (cN, (n, Sum.inr (Sum.inr (Sum.inr (Sum.inr (fun j : Nat => if j < i then some (f j) else none))))))
def kQQ (cN : ClassId) (n : Nat) (f : Nat → Nat) : va_E := Sum.inl (cN, (n, Sum.inr (Sum.inr (Sum.inr (Sum.inr (fun j : Nat => some (f j)))))))
theorem kWd.toF {A : Nat → Prop} {cI cZ cN : ClassId} {D : va_G} {s : State} {ws : va_W} {H : Heap} {locs : List Loc} (q0 : Nat) {a n : Nat} (v : Int32) (hW : kWd A cI cZ cN D s ws H locs) (he : ws[q0]? = some (a, kZ cI n)) : kWd A cI cZ cN D s (ws.set q0 (a, kF cI n v 0)) H locs :=
  hW.cell he (k_cell_i fun j _ => (if_neg (Nat.not_lt_zero j)).symm)
theorem kWd.toK {A : Nat → Prop} {cI cZ cN : ClassId} {D : va_G} {s : State} {ws : va_W} {H : Heap} {locs : List Loc} (q0 : Nat) {a n : Nat} {v : Int32} (hW : kWd A cI cZ cN D s ws H locs) (he : ws[q0]? = some (a, kF cI n v n)) : kWd A cI cZ cN D s (ws.set q0 (a, kK cI n v)) H locs :=
  hW.cell he (k_cell_i fun j h => if_pos h)
theorem kWd.toQ {A : Nat → Prop} {cI cZ cN : ClassId} {D : va_G} {s : State} {ws : va_W} {H : Heap} {locs : List Loc} (q0 : Nat) {a n : Nat} (f : Nat → Nat) (hW : kWd A cI cZ cN D s ws H locs) (he : ws[q0]? = some (a, .inl (cN, n, .inr (.inr (.inr (.inr (fun _ => none))))))) : kWd A cI cZ cN D s (ws.set q0 (a, kQ cN n f 0)) H locs :=
  hW.cell he (k_cell_q fun j _ => (if_neg (Nat.not_lt_zero j)).symm)
theorem kWd.toQQ {A : Nat → Prop} {cI cZ cN : ClassId} {D : va_G} {s : State} {ws : va_W} {H : Heap} {locs : List Loc} (q0 : Nat) {a n : Nat} {f : Nat → Nat} (hW : kWd A cI cZ cN D s ws H locs) (he : ws[q0]? = some (a, kQ cN n f n)) : kWd A cI cZ cN D s (ws.set q0 (a, kQQ cN n f)) H locs :=
  hW.cell he (k_cell_q fun j h => if_pos h)
section CTOR2
variable {p : Program} {l : Launch} {e : Env} {R : Room} {s : State} {m : MethodId} {args : Array Value} {below : List Frame} {meth : Method} {c : Code} {cI cZ cN : ClassId} {D : va_G} {A : Nat → Prop} {H : Heap} {locs : List Loc} {ls : Array Slot} {Z : State → Prop} {own : String} {bc : ByteArray} {mL pc cells slots : Nat} {rest : List Value} {ws : va_W}
theorem k_iastF {q0 a n i : Nat} {v : Int32} (hC : kCx own bc mL p s m args c) (hW : kWd A cI cZ cN D s ws H locs) (he : ws[q0]? = some (a, kF cI n v i)) (hi : i < n) (hn : n < 2 ^ 31) (hdg : decode bc pc = .ok (.iastore, 1))
    (k : ∀ H1 locs1, kWd A cI cZ cN D s (ws.set q0 (a, kF cI n v (i + 1))) H1 locs1 → W p l e R s m args below meth c H1 locs1 cells slots Z (F0 m (pc + 1) ls rest)) : W p l e R s m args below meth c H locs cells slots Z (F0 m pc ls (.int v :: .int (nI i) :: .ref a :: rest)) := by
  refine k_iast hC hW he (vp_in_nI hi hn) hdg (fun H1 locs1 hW1 => k H1 locs1 ?_)
  have e1 : upd (fun j : Nat => if j < i then v else 0) (nI i).toNatClampNeg v = fun j : Nat => if j < i + 1 then v else 0 := by
    funext j
    rw [nI_clamp (by omega)]
    unfold upd
    dsimp only
    by_cases h1 : j = i
    · rw [if_pos h1, if_pos (by omega)]
    · by_cases h2 : j < i
      · rw [if_neg h1, if_pos h2, if_pos (by omega)]
      · rw [if_neg h1, if_neg h2, if_neg (by omega)]
  rw [e1] at hW1
  exact hW1
theorem k_astqF {q0 qk a n i v : Nat} {vs : List Value} {f : Nat → Nat} (hC : kCx own bc mL p s m args c) (hW : kWd A cI cZ cN D s ws H locs) (he : ws[q0]? = some (a, kQ cN n f i)) (hv : ws[qk]? = some (v, .inr (4, vs))) (hi : i < n) (hn : n < 2 ^ 31) (hdg : decode bc pc = .ok (.aastore, 1))
    (k : ∀ H1 locs1, kWd A cI cZ cN D s (ws.set q0 (a, kQ cN n (fun j => if j = i then v else f j) (i + 1))) H1 locs1 → W p l e R s m args below meth c H1 locs1 cells slots Z (F0 m (pc + 1) ls rest)) : W p l e R s m args below meth c H locs cells slots Z (F0 m pc ls (.ref v :: .int (nI i) :: .ref a :: rest)) := by
  refine k_astq hC hW he hv (vp_in_nI hi hn) hdg (fun H1 locs1 hW1 => k H1 locs1 ?_)
  have e1 : va_up (fun j : Nat => if j < i then some (f j) else none) (nI i).toNatClampNeg (some v) = fun j : Nat => if j < i + 1 then some (if j = i then v else f j) else none := by
    funext j
    rw [nI_clamp (by omega)]
    unfold va_up
    dsimp only
    by_cases h1 : j = i
    · rw [if_pos h1, if_pos (by omega), if_pos h1]
    · by_cases h2 : j < i
      · rw [if_neg h1, if_pos h2, if_pos (by omega), if_neg h1]
      · rw [if_neg h1, if_neg h2, if_neg (by omega)]
  rw [e1] at hW1
  exact hW1
end CTOR2
def kNets (cI : ClassId) (f : Nat → Nat) (b : Nat → Nat → Nat) (i : Nat) : va_W := (List.range i).flatMap (fun j => kNet cI (f j) (b j))
theorem k_fm {f g : Nat → va_W} : ∀ {L : List Nat}, (∀ j ∈ L, f j = g j) → L.flatMap f = L.flatMap g
  | [], _ => rfl
  | a :: L, h => by
    rw [List.flatMap_cons, List.flatMap_cons, h a List.mem_cons_self, k_fm (fun j hj => h j (List.mem_cons_of_mem _ hj))]
theorem kNets_succ (cI : ClassId) (f : Nat → Nat) (b : Nat → Nat → Nat) (i q : Nat) (a : Nat → Nat) : kNets cI (fun j => if j = i then q else f j) (fun j => if j = i then a else b j) (i + 1) = kNets cI f b i ++ kNet cI q a := by
  unfold kNets
  rw [List.range_succ, List.flatMap_append]
  congr 1
  · apply k_fm
    intro j hj
    have := List.mem_range.mp hj
    dsimp only
    rw [if_neg (by omega), if_neg (by omega)]
  · simp
theorem k_pm (h : Nat × va_E) (L R : va_W) (o x : Nat × va_E) : (h :: ((L ++ (o :: R)) ++ [x])).Perm ((h :: (L ++ R)) ++ [x, o]) := by
  refine List.Perm.cons _ ?_
  have h1 : ((L ++ (o :: R)) ++ [x]).Perm ((o :: (L ++ R)) ++ [x]) := List.Perm.append_right _ List.perm_middle
  refine h1.trans ?_
  show (o :: ((L ++ R) ++ [x])).Perm ((L ++ R) ++ [x, o])
  have h2 : (L ++ R) ++ [x, o] = ((L ++ R) ++ [x]) ++ [o] := by simp
  rw [h2]
  exact (List.perm_append_singleton _ _).symm
