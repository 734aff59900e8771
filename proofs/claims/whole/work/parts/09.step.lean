theorem jck_and {a b : Bool} (h : (a && b) = true) : a = true ∧ b = true := Bool.and_eq_true_iff.mp h
theorem jWd.set {cI cZ cN : ClassId} {D : va_G} {ad : Int → Nat → Nat} {M M' : jM} {s : State} {q : Int × Nat} {i : Nat} {x : va_E} {H1 : Heap} {locs1 : List Loc} (hi : jCs[i]? = some q)
    (hne : ∀ q' ∈ jCs, q' ≠ q → jCe cI cZ cN ad M q' = jCe cI cZ cN ad M' q') (hx : x = jCe cI cZ cN ad M' q) (hR : jRM M')
    (hP : va_P D vwCl ((jW cI cZ cN ad M).set i (ad q.1 q.2, x)) H1) (hD : va_D (jA ad s.heap.size) ((jW cI cZ cN ad M).set i (ad q.1 q.2, x))) (hS : va_S (jA ad s.heap.size) s.heap H1 locs1) :
    jWd M' s H1 locs1 cI cZ cN D ad := by
  subst hx
  rw [jW_set hi hne] at hP hD
  exact ⟨hR, hP, hD, hS⟩
theorem jFl_get {ad : Int → Nat → Nat} {M : jM} {g : Int} {s t : Nat} (h : (jft.getD (jCl g) [])[s]? = some t) : (jFl ad M g)[s]? = some (if t = 1 then .ref (ad (jfc g s).1 (jfc g s).2) else if t = 3 then .ref (ad (M g 0 s) 0) else .int (jI (M g 0 s))) := by
  unfold jFl
  rw [List.getElem?_mapIdx, h]
  rfl
theorem jFl_up {ad : Int → Nat → Nat} {M : jM} {g : Int} {s t : Nat} {z : Int} {v : Value} (h : (jft.getD (jCl g) [])[s]? = some t) (ht : t ≠ 1) (hv : v = if t = 3 then .ref (ad z 0) else .int (jI z)) : (jFl ad M g).set s v = jFl ad (jup M g 0 s z) g := by
  apply List.ext_getElem?
  intro j
  rw [List.getElem?_set]
  have hs : s < (jft.getD (jCl g) []).length := (List.getElem?_eq_some_iff.mp h).1
  split
  · rename_i hj
    subst hj
    rw [if_pos (by unfold jFl; rw [List.length_mapIdx]; exact hs), jFl_get h, if_neg ht, hv]
    have e : jup M g 0 s z g 0 s = z := by unfold jup; rw [if_pos ⟨rfl, rfl, rfl⟩]
    rw [e]
  · rename_i hj
    unfold jFl
    rw [List.getElem?_mapIdx, List.getElem?_mapIdx]
    have e : jup M g 0 s z g 0 (j : Int) = M g 0 j := by
      unfold jup
      rw [if_neg]
      rintro ⟨-, -, q⟩
      exact hj (by omega)
    rw [e]
theorem jsetarr {M : jM} {g : Int} {k : Nat} {i z : Int} (h0 : 0 ≤ i) : upd (fun j : Nat => jI (M g k j)) i.toNat (jI z) = fun j : Nat => jI (jup M g k i z g k j) := by
  funext j
  unfold upd jup
  by_cases hj : j = i.toNat
  · rw [if_pos hj, if_pos ⟨rfl, rfl, by omega⟩]
  · rw [if_neg hj, if_neg (by rintro ⟨-, -, q⟩; omega)]
theorem jnar_bool {z : Int} (h : z = 0 ∨ z = 1) : vp_nar .boolean (jI z) = jI z := by
  rcases h with rfl | rfl <;> decide +kernel
theorem jnarrow_bool {z : Int} (h : z = 0 ∨ z = 1) : narrow .boolean (.int (jI z)) = .int (jI z) := by
  rcases h with rfl | rfl <;> decide +kernel
theorem jfits_bool {z : Int} (h : z = 0 ∨ z = 1) : fits .boolean (.int (jI z)) = true := by
  rcases h with rfl | rfl <;> decide +kernel
theorem jhc {y : Nat} (h : y < 182) : (jmt y).1.cls = jcn (jh y).2.2 := (jhp_all y (List.mem_range.mpr h)).1
section STEP
variable {p : Program} {l : Launch} {e : Env} {s : State} {m : MethodId} {args : Array Value} {below : List Frame} {meth : Method} {c : Code} {cI cZ cN : ClassId} {D : va_G} {ad : Int → Nat → Nat} {H : Heap} {locs : List Loc} {lsA : Array Slot} {d y pc : Nat} {ls : List (Option jV)} {st r : List jV} {M : jM} {Q : Int → jM → Prop} {Z : State → Prop}
/-- the machine at a place of the method, as the small machine's state says -/
abbrev jWW (p : Program) (l : Launch) (e : Env) (s : State) (m : MethodId) (args : Array Value) (below : List Frame) (meth : Method) (c : Code) (Z : State → Prop) (ad : Int → Nat → Nat) (d : Nat) (H : Heap) (locs : List Loc) (lsA : Array Slot) (pc : Nat) (st : List jV) : Prop :=
  W p l e (jRoom d) s m args below meth c H locs 0 0 Z (F0 m pc lsA (st.map (jrv ad)))
theorem js_fieldr {ci i sl t w : Nat} {g : Int} (hC : jCx y p s m args meth c cI cZ cN D) (hW : jWd M s H locs cI cZ cN D ad) (hd : decode (jmt y).2.1 pc = .ok (.getfield i, 3)) (hyl : y < 182) (hk : jckF y i ci sl t w = true) (hg : jCl g = ci)
    (k : W p l e (jRoom d) s m args below meth c H locs 0 0 Z (F0 m (pc + 3) lsA ((if t = 1 then Value.ref (ad (jfc g sl).1 (jfc g sl).2) else if t = 3 then .ref (ad (M g 0 sl) 0) else .int (jI (M g 0 sl))) :: r.map (jrv ad)))) : jWW p l e s m args below meth c Z ad d H locs lsA pc (.inr (g, 0) :: r) := by
  obtain ⟨hx, hb, hr, hlk, hml, hown, hts, hK⟩ := hC
  obtain ⟨hRM, hP, hD, hS⟩ := hW
  unfold jckF at hk
  obtain ⟨h3, hk⟩ := jck_and hk
  obtain ⟨h1, h4⟩ := jck_and hk
  replace h3 := of_decide_eq_true h3
  replace h4 := of_decide_eq_true h4
  replace h1 : ci < 11 := Nat.le_of_ble_eq_true h1
  obtain ⟨hq, hin, -, -⟩ := jcl_ok ci h1
  obtain ⟨h5, h2⟩ := jf_all _ (List.mem_of_getElem? h3)
  dsimp only at h5 h2
  rw [jhc hyl] at hown
  have hc99 : jCl g ≠ 99 := by
    rw [hg]
    omega
  obtain ⟨q0, -, he⟩ := jW_get (jCl_mem hc99) cI cZ cN ad M
  have he' : (jW cI cZ cN ad M)[q0]? = some (ad g 0, .inr (ci, jFl ad M g)) := by
    rw [he]
    unfold jCe
    rw [if_pos rfl, hg]
  have h6 : sl < jN ci := (List.getElem?_eq_some_iff.mp h4).1
  rw [← hg] at h4
  exact va_get (D := D) (ci := ci) (C := jcn ci) (T := jT_ ci) (N := jN ci) (ref := jcn ci) hx hb (fun w hw => hts w (List.mem_cons_of_mem _ hw)) hin hown hK hP q0 he' hq sl h6 (hts _ (List.mem_cons_of_mem _ h5)) (fun x hx9 => by rw [← h2]; exact hx9) (jFl_get h4) hd k
theorem js_put {ci i sl t w : Nat} {g z : Int} {v : Value} (hC : jCx y p s m args meth c cI cZ cN D) (hW : jWd M s H locs cI cZ cN D ad) (hd : decode (jmt y).2.1 pc = .ok (.putfield i, 3)) (hyl : y < 182) (hk : jckF y i ci sl t w = true) (hg : jCl g = ci)
    (ht : t ≠ 1) (hv : v = if t = 3 then .ref (ad z 0) else .int (jI z)) (hn : narrow (jtyt t) v = v) (hf : fits (jtyt t) v = true) (hz : jwr z = z)
    (k : ∀ H1 locs1, jWd (jup M g 0 sl z) s H1 locs1 cI cZ cN D ad → W p l e (jRoom d) s m args below meth c H1 locs1 0 0 Z (F0 m (pc + 3) lsA (r.map (jrv ad)))) : W p l e (jRoom d) s m args below meth c H locs 0 0 Z (F0 m pc lsA (v :: .ref (ad g 0) :: r.map (jrv ad))) := by
  obtain ⟨hx, hb, hr, hlk, hml, hown, hts, hK⟩ := hC
  obtain ⟨hRM, hP, hD, hS⟩ := hW
  unfold jckF at hk
  obtain ⟨h3, hk⟩ := jck_and hk
  obtain ⟨h1, h4⟩ := jck_and hk
  replace h3 := of_decide_eq_true h3
  replace h4 := of_decide_eq_true h4
  replace h1 : ci < 11 := Nat.le_of_ble_eq_true h1
  obtain ⟨hq, hin, ⟨ty, hty⟩, hnm⟩ := jcl_ok ci h1
  obtain ⟨h7, h2⟩ := jf_all _ (List.mem_of_getElem? h3)
  dsimp only at h7 h2
  obtain ⟨h5, h6⟩ := jpf_at h1 h4 ht
  rw [jhc hyl] at hown
  have hc99 : jCl g ≠ 99 := by
    rw [hg]
    omega
  obtain ⟨q0, hq0, he⟩ := jW_get (jCl_mem hc99) cI cZ cN ad M
  have he' : (jW cI cZ cN ad M)[q0]? = some (ad g 0, .inr (ci, jFl ad M g)) := by
    rw [he]
    unfold jCe
    rw [if_pos rfl, hg]
  have h8 : sl < jN ci := (List.getElem?_eq_some_iff.mp h4).1
  rw [← hg] at h4
  have hlen : sl < (jFl ad M g).length := by
    unfold jFl
    rw [List.length_mapIdx]
    exact (List.getElem?_eq_some_iff.mp h4).1
  refine va_put (D := D) (ci := ci) (C := jcn ci) (T := jT_ ci) (N := jN ci) (ref := jcn ci) hx hb (fun w hw => hts w (List.mem_cons_of_mem _ hw)) hin ty hty hnm hown hK hP hD hS q0 he' hq sl h8 (hts _ (List.mem_cons_of_mem _ h7)) (fun x hx9 => by rw [← h2]; exact hx9) h5 h6 hn hf hlen hd (fun H1 locs1 hP1 hD1 hS1 => ?_)
  refine k H1 locs1 (jWd.set (q := (g, 0)) hq0 (fun q' _ hne => jCe_up q' hne) ?_ (jRM_up hRM hz) hP1 hD1 hS1)
  unfold jCe
  rw [if_pos rfl, hg, jFl_up h4 ht hv]
theorem js_arr {g : Int} {k : Nat} {i : Int} (hi : 0 ≤ i ∧ i < jal g k) (M : jM) (cI cZ cN : ClassId) (ad : Int → Nat → Nat) : ∃ q0 : Nat, jCs[q0]? = some (g, k) ∧ (jW cI cZ cN ad M)[q0]? = some (ad g k, (Sum.inl (cI, ((jAr g k).2, Sum.inl (fun j : Nat => jI (M g k j)))) : va_E)) ∧ i < (jAr g k).2 ∧ k ≠ 0 := by
  obtain ⟨h1, h2, h3, h4⟩ := jal_of hi.1 hi.2
  obtain ⟨q0, hq, he⟩ := jW_get h3 cI cZ cN ad M
  refine ⟨q0, hq, ?_, by rw [← h2]; exact hi.2, h4⟩
  rw [he]
  unfold jCe
  rw [if_neg h4, if_pos h1]
theorem js_barr {g : Int} {k : Nat} {i : Int} (hi : 0 ≤ i ∧ i < jbl g k) (M : jM) (cI cZ cN : ClassId) (ad : Int → Nat → Nat) : ∃ q0 : Nat, jCs[q0]? = some (g, k) ∧ (jW cI cZ cN ad M)[q0]? = some (ad g k, (Sum.inl (cZ, ((jAr g k).2, Sum.inl (fun j : Nat => jI (M g k j)))) : va_E)) ∧ i < (jAr g k).2 ∧ k ≠ 0 := by
  obtain ⟨h1, h2, h3, h4⟩ := jbl_of hi.1 hi.2
  obtain ⟨q0, hq, he⟩ := jW_get h3 cI cZ cN ad M
  refine ⟨q0, hq, ?_, by rw [← h2]; exact hi.2, h4⟩
  rw [he]
  unfold jCe
  rw [if_neg h4, if_neg (by rw [h1]; decide), if_pos h1]
theorem jidx (M : jM) (g : Int) (k : Nat) {i : Int} (h : jwr i = i) (h0 : 0 ≤ i) : jI (M g k (((jI i).toNatClampNeg : Nat) : Int)) = jI (M g k i) := by
  rw [jI_clamp h, Int.toNat_of_nonneg h0]
end STEP
