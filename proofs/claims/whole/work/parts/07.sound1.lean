/-! WHAT THE SMALL MACHINE STANDS FOR: the world's cells, and what is checked of each instruction -/
def jrv (ad : Int → Nat → Nat) (v : jV) : Value := match v with
  | .inl z => .int (jI z)
  | .inr q => .ref (ad q.1 q.2)
def jFl (ad : Int → Nat → Nat) (M : jM) (g : Int) : List Value := (jft.getD (jCl g) []).mapIdx fun s t => if t = 1 then .ref (ad (jfc g s).1 (jfc g s).2) else if t = 3 then .ref (ad (M g 0 s) 0) else .int (jI (M g 0 s))
def jCe (cI cZ cN : ClassId) (ad : Int → Nat → Nat) (M : jM) (q : Int × Nat) : va_E :=
  if q.2 = 0 then .inr (jCl q.1, jFl ad M q.1)
  else if (jAr q.1 q.2).1 = 1 then .inl (cI, ((jAr q.1 q.2).2, .inl (fun j => jI (M q.1 q.2 j))))
  else if (jAr q.1 q.2).1 = 2 then .inl (cZ, ((jAr q.1 q.2).2, .inl (fun j => jI (M q.1 q.2 j))))
  else .inl (cN, ((jAr q.1 q.2).2, .inr (.inr (.inr (.inr (fun j => some (ad (j : Int) 0)))))))
def jCs : List (Int × Nat) := (List.range 29).flatMap fun n : Nat => ((n : Int), 0) :: (jTyp.getD (jCls.getD n 99) []).map (fun a => ((n : Int), a.1))
def jW (cI cZ cN : ClassId) (ad : Int → Nat → Nat) (M : jM) : va_W := jCs.map fun q => (ad q.1 q.2, jCe cI cZ cN ad M q)
def jTy (cI cZ cN : ClassId) : List (ClassId × FieldType) := [(cI, .int), (cZ, .boolean), (cN, .object "LikeTales$Net")]
def jA (ad : Int → Nat → Nat) (sz : Nat) : Nat → Prop := fun a => (∃ q ∈ jCs, a = ad q.1 q.2) ∨ sz ≤ a
def jRM (M : jM) : Prop := ∀ g k i, jwr (M g k i) = M g k i
def jRV (v : jV) : Prop := ∀ z, v = .inl z → jwr z = z
def jRoom (d : Nat) : Room := { frames := d + 2, cells := 0, slots := 0, locals := 64 * d + 128 }
def jws (y : Nat) : List Jvm.Cond := Jvm.Cond.code (jmt y).1 (jmt y).2.1 (jmt y).2.2.1 (jmt y).2.2.2.1 :: wsL_law
def jB (cI cZ cN : ClassId) (D : va_G) (ad : Int → Nat → Nat) (A : Nat → Prop) (M : jM) (t : State) : Prop := jRM M ∧ va_P D vwCl (jW cI cZ cN ad M) t.heap ∧ va_K D vwCl (jTy cI cZ cN) t ∧ va_D A (jW cI cZ cN ad M)
def jQc (y : Nat) (cI cZ cN : ClassId) (D : va_G) (ad : Int → Nat → Nat) (Q : Int → jM → Prop) (sz : Nat) : Array Value → State → Outcome → State → Prop :=
  bif (jmt y).2.2.2.1.isNone then va_Qv (fun M' : jM => Q 0 M') (jB cI cZ cN D ad (jA ad sz)) (jA ad sz)
  else va_Qi (fun (r : Int32) (M' : jM) => Q r.toInt M') (jB cI cZ cN D ad (jA ad sz)) (jA ad sz)
def jPc (cI cZ cN : ClassId) (D : va_G) (ad : Int → Nat → Nat) (M : jM) (sz : Nat) (U : State) : Prop := U.heap.size = sz ∧ va_P D vwCl (jW cI cZ cN ad M) U.heap ∧ va_K D vwCl (jTy cI cZ cN) U ∧ va_D (fun _ => True) (jW cI cZ cN ad M)
/-- method y, called at depth d with these arguments in the world M, comes back with Q -/
def jCallP (d y : Nat) (as : List jV) (M : jM) (Q : Int → jM → Prop) : Prop :=
  ∀ Q' : Int → jM → Prop, (∀ r M', Q r M' → Q' r M') → (∀ v ∈ as, jRV v) → jRM M → ∀ (l : Launch) (cI cZ cN : ClassId) (D : va_G) (ad : Int → Nat → Nat) (sz : Nat),
    Met l (jmt y).1 (jws y) (jRoom d) (va_Pc (as.map (jrv ad)) (jPc cI cZ cN D ad M sz)) (jQc y cI cZ cN D ad Q' sz) 0 0 (jA ad sz)
def jCall (d z : Nat) (as : List jV) (M : jM) (Q : Int → jM → Prop) : Prop := ∃ d', d' < d ∧ jCallP d' z as M Q
def jCx (y : Nat) (p : Program) (s : State) (m : MethodId) (args : Array Value) (meth : Method) (c : Code) (cI cZ cN : ClassId) (D : va_G) : Prop :=
  p.tables.exec = Jvm.exec ∧ c.code = (jmt y).2.1 ∧ meth.sig.returnType = (jmt y).2.2.2.1 ∧ meth.locks = false ∧ c.maxLocals = (jmt y).2.2.1 ∧ s.vm.findClass (jmt y).1.cls = some m.cls ∧ (∀ w ∈ jws y, w.before args s = true) ∧ va_K D vwCl (jTy cI cZ cN) s
def jWd (M : jM) (s : State) (H : Heap) (locs : List Loc) (cI cZ cN : ClassId) (D : va_G) (ad : Int → Nat → Nat) : Prop :=
  jRM M ∧ va_P D vwCl (jW cI cZ cN ad M) H ∧ va_D (jA ad s.heap.size) (jW cI cZ cN ad M) ∧ va_S (jA ad s.heap.size) s.heap H locs
def jLs (ad : Int → Nat → Nat) (lsA : Array Slot) (nL : Nat) (ls : List (Option jV)) : Prop :=
  ls.length = nL ∧ lsA.size = nL ∧ lv_wf lsA ∧ ∀ (i : Nat) (v : jV), ls.getD i none = some v → lsA[i]? = some (.val (jrv ad v)) ∧ jRV v
def jWP (d y pc : Nat) (ls : List (Option jV)) (st : List jV) (M : jM) (Q : Int → jM → Prop) : Prop :=
  ∀ Q' : Int → jM → Prop, (∀ r M', Q r M' → Q' r M') → ∀ (p : Program) (l : Launch) (e : Env) (s : State) (m : MethodId) (args : Array Value) (below : List Frame) (meth : Method) (c : Code) (cI cZ cN : ClassId) (D : va_G) (ad : Int → Nat → Nat) (H : Heap) (locs : List Loc) (lsA : Array Slot),
    jCx y p s m args meth c cI cZ cN D → jWd M s H locs cI cZ cN D ad → jLs ad lsA (jmt y).2.2.1 ls → (∀ v ∈ st, jRV v) →
    W p l e (jRoom d) s m args below meth c H locs 0 0 (MQ below (jQc y cI cZ cN D ad Q' s.heap.size) args s 0 0 (jA ad s.heap.size)) (F0 m pc lsA (st.map (jrv ad)))
theorem jCallP.mono {d y : Nat} {as : List jV} {M : jM} {Q Q2 : Int → jM → Prop} (h : jCallP d y as M Q) (hq : ∀ r M', Q r M' → Q2 r M') : jCallP d y as M Q2 :=
  fun Q' h2 => h Q' (fun r M' hr => h2 r M' (hq r M' hr))
theorem jWP.mono {d y pc : Nat} {ls : List (Option jV)} {st : List jV} {M : jM} {Q Q2 : Int → jM → Prop} (h : jWP d y pc ls st M Q) (hq : ∀ r M', Q r M' → Q2 r M') : jWP d y pc ls st M Q2 :=
  fun Q' h2 => h Q' (fun r M' hr => h2 r M' (hq r M' hr))
theorem jCall.of {d d' z : Nat} {as : List jV} {M : jM} {Q Q2 : Int → jM → Prop} (h : jCallP d' z as M Q) (hd : d' < d) (hq : ∀ r M', Q r M' → Q2 r M') : jCall d z as M Q2 := ⟨d', hd, h.mono hq⟩
/-! pure rows -/
theorem jI_wr (z : Int) : jI (jwr z) = jI z := Int32.ofInt_toInt _
theorem jI_toInt (z : Int) : (jI z).toInt = jwr z := rfl
theorem jwr_to (x : Int32) : jwr x.toInt = x.toInt := by unfold jwr; rw [Int32.ofInt_toInt]
theorem jI_to (x : Int32) : jI x.toInt = x := Int32.ofInt_toInt x
theorem jwr_wr (z : Int) : jwr (jwr z) = jwr z := jwr_to _
theorem jwr_bmod (z : Int) : jwr z = z.bmod 4294967296 := Int32.toInt_ofInt
theorem jwr_id {z : Int} (h1 : -2147483648 ≤ z) (h2 : z < 2147483648) : jwr z = z := by
  rw [jwr_bmod]
  rw [Int.bmod_eq_of_le] <;> omega
theorem jwr_bd {z : Int} (h : jwr z = z) : -2147483648 ≤ z ∧ z < 2147483648 := by
  rw [jwr_bmod] at h
  have h1 := Int.le_bmod (x := z) (m := 4294967296) (by omega)
  have h2 := Int.bmod_lt (x := z) (m := 4294967296) (by omega)
  omega
theorem jI_add (a b : Int) : jI a + jI b = jI (a + b) := (Int32.ofInt_add a b).symm
theorem jI_sub (a b : Int) : jI a - jI b = jI (a - b) := (Int32.ofInt_sub a b).symm
theorem jI_mul (a b : Int) : jI a * jI b = jI (a * b) := (Int32.ofInt_mul a b).symm
theorem jI_neg (a : Int) : -jI a = jI (-a) := (Int32.ofInt_neg a).symm
theorem jI_div {a b : Int} (ha : jwr a = a) (hb : jwr b = b) : jI a / jI b = jI (a.tdiv b) := by
  apply Int32.toInt_inj.mp
  rw [Int32.toInt_div, jI_toInt, jI_toInt, jI_toInt, ha, hb, jwr_bmod]
theorem jI_eq {a b : Int} (ha : jwr a = a) (hb : jwr b = b) : jI a = jI b ↔ a = b := by
  rw [← Int32.toInt_inj, jI_toInt, jI_toInt, ha, hb]
theorem jI_lt {a b : Int} (ha : jwr a = a) (hb : jwr b = b) : jI a < jI b ↔ a < b := by
  rw [Int32.lt_iff_toInt_lt, jI_toInt, jI_toInt, ha, hb]
theorem jI_le {a b : Int} (ha : jwr a = a) (hb : jwr b = b) : jI a ≤ jI b ↔ a ≤ b := by
  rw [Int32.le_iff_toInt_le, jI_toInt, jI_toInt, ha, hb]
theorem jwr_0 : jwr 0 = 0 := jwr_id (by omega) (by omega)
theorem jI_0 : jI 0 = 0 := rfl
theorem jI_clamp {i : Int} (h : jwr i = i) : (jI i).toNatClampNeg = i.toNat := by
  show (jI i).toInt.toNat = _
  rw [jI_toInt, h]
theorem jI_in {i : Int} {n : Nat} (h : jwr i = i) (h0 : 0 ≤ i) (h1 : i < n) : vp_in (jI i) n := by
  intro hc
  rw [jI_clamp h] at hc
  rcases hc with hc | hc
  · rw [← jI_0, jI_lt h jwr_0] at hc; omega
  · omega
theorem jI_le_ge {a b : Int} (ha : jwr a = a) (hb : jwr b = b) : ¬ jI a ≤ jI b → b < a := fun h => by rw [jI_le ha hb] at h; omega
theorem jI_lt_ge {a b : Int} (ha : jwr a = a) (hb : jwr b = b) : ¬ jI a < jI b → b ≤ a := fun h => by rw [jI_lt ha hb] at h; omega
theorem jlt32 {n : Int} (h : 0 ≤ n ∧ n < 2147483648) : jwr n = n := jwr_id (by omega) h.2
theorem jRVs_cons {v : jV} {st : List jV} (h : jRV v) (hs : ∀ w ∈ st, jRV w) : ∀ w ∈ v :: st, jRV w := fun w hw => by
  rcases List.mem_cons.mp hw with rfl | hw
  · exact h
  · exact hs w hw
theorem jRV_i {z : Int} (h : jwr z = z) : jRV (.inl z) := fun z' he => by cases he; exact h
theorem jRV_r (q : Int × Nat) : jRV (.inr q) := fun z he => by cases he
/-! the world's cells -/
theorem jCs_nd : jCs.Nodup := by decide +kernel
theorem jCs_g0 : ∀ n : Nat, n < 29 → ((n : Int), 0) ∈ jCs := by decide +kernel
theorem jCl_of {g : Int} (h : jCl g ≠ 99) : ∃ n : Nat, n < 29 ∧ g = (n : Int) := by
  cases g with
  | ofNat n =>
    refine ⟨n, ?_, rfl⟩
    rcases Nat.lt_or_ge n 29 with q | q
    · exact q
    · exfalso
      apply h
      show jCls.getD n 99 = 99
      rw [List.getD_eq_getElem?_getD, List.getElem?_eq_none (by exact q)]
      rfl
  | negSucc n => exact absurd rfl h
theorem jCl_mem {g : Int} (h : jCl g ≠ 99) : (g, 0) ∈ jCs := by
  obtain ⟨n, hn, rfl⟩ := jCl_of h
  exact jCs_g0 n hn
theorem jCl_net {g : Int} (h : 0 ≤ g ∧ g < 18) : jCl g = 4 := by
  obtain ⟨n, rfl⟩ : ∃ n : Nat, g = n := ⟨g.toNat, by omega⟩
  have hn : n < 18 := by omega
  have : ∀ n : Nat, n < 18 → jCls.getD n 99 = 4 := by decide +kernel
  exact this n hn
theorem jfc_net {g : Int} (h : 0 ≤ g ∧ g < 18) (s : Nat) : jfc g s = (g, s + 1) := by
  obtain ⟨n, rfl⟩ : ∃ n : Nat, g = n := ⟨g.toNat, by omega⟩
  have hn : n < 18 := by omega
  show (bif Nat.blt n 18 then ((n : Int), s + 1) else _) = _
  rw [show Nat.blt n 18 = true from Nat.ble_eq_true_of_le hn]
  rfl
theorem jTyp_k0 : ∀ l ∈ jTyp, ∀ a ∈ l, a.1 ≠ 0 := by decide +kernel
theorem jAr_mem {g : Int} {k : Nat} (h : (jAr g k).2 ≠ 0) : (g, k) ∈ jCs ∧ k ≠ 0 := by
  unfold jAr at h
  cases hf : (jTyp.getD (jCl g) []).find? (fun a => a.1 == k) with
  | none => rw [hf] at h; exact absurd rfl h
  | some a =>
    have hm := List.mem_of_find?_eq_some hf
    have hk : a.1 = k := by simpa using List.find?_some hf
    have hc : jCl g ≠ 99 := by
      intro q
      rw [q] at hm
      cases hm
    obtain ⟨n, hn, rfl⟩ := jCl_of hc
    refine ⟨?_, ?_⟩
    · unfold jCs
      refine List.mem_flatMap.mpr ⟨n, List.mem_range.mpr hn, ?_⟩
      refine List.mem_cons_of_mem _ (List.mem_map.mpr ⟨a, hm, ?_⟩)
      rw [hk]
    · rw [← hk]
      have hl : jTyp.getD (jCl (n : Int)) [] ∈ jTyp := by
        rw [List.getD_eq_getElem?_getD]
        cases hq : jTyp[jCl (n : Int)]? with
        | none =>
          rw [List.getD_eq_getElem?_getD, hq] at hm
          cases hm
        | some l => exact List.mem_of_getElem? hq
      exact jTyp_k0 _ hl a hm
theorem jal_of {g : Int} {k : Nat} {i : Int} (h0 : 0 ≤ i) (h : i < jal g k) : (jAr g k).1 = 1 ∧ jal g k = ((jAr g k).2 : Int) ∧ (g, k) ∈ jCs ∧ k ≠ 0 := by
  unfold jal at h ⊢
  split at h
  · rename_i n he
    have := jAr_mem (g := g) (k := k) (by rw [he]; show n ≠ 0; intro q; subst q; simp at h; omega)
    exact ⟨by rw [he], by rw [he], this⟩
  · omega
theorem jbl_of {g : Int} {k : Nat} {i : Int} (h0 : 0 ≤ i) (h : i < jbl g k) : (jAr g k).1 = 2 ∧ jbl g k = ((jAr g k).2 : Int) ∧ (g, k) ∈ jCs ∧ k ≠ 0 := by
  unfold jbl at h ⊢
  split at h
  · rename_i n he
    have := jAr_mem (g := g) (k := k) (by rw [he]; show n ≠ 0; intro q; subst q; simp at h; omega)
    exact ⟨by rw [he], by rw [he], this⟩
  · omega
theorem jW_get {q : Int × Nat} (h : q ∈ jCs) (cI cZ cN : ClassId) (ad : Int → Nat → Nat) (M : jM) : ∃ i : Nat, jCs[i]? = some q ∧ (jW cI cZ cN ad M)[i]? = some (ad q.1 q.2, jCe cI cZ cN ad M q) := by
  obtain ⟨i, hi⟩ := List.getElem?_of_mem h
  exact ⟨i, hi, by unfold jW; rw [List.getElem?_map, hi]; rfl⟩
theorem jW_set {cI cZ cN : ClassId} {ad : Int → Nat → Nat} {M M' : jM} {q : Int × Nat} {i : Nat} (hi : jCs[i]? = some q) (hne : ∀ q' ∈ jCs, q' ≠ q → jCe cI cZ cN ad M q' = jCe cI cZ cN ad M' q') :
    (jW cI cZ cN ad M).set i (ad q.1 q.2, jCe cI cZ cN ad M' q) = jW cI cZ cN ad M' := by
  apply List.ext_getElem?
  intro j
  rw [List.getElem?_set]
  have hil : i < jCs.length := (List.getElem?_eq_some_iff.mp hi).1
  split
  · rename_i hij
    subst hij
    rw [if_pos (by unfold jW; rw [List.length_map]; exact hil)]
    unfold jW
    rw [List.getElem?_map, hi]
    rfl
  · rename_i hij
    unfold jW
    rw [List.getElem?_map, List.getElem?_map]
    cases hq : jCs[j]? with
    | none => rfl
    | some q' =>
      have hjl : j < jCs.length := (List.getElem?_eq_some_iff.mp hq).1
      have hne' : q' ≠ q := by
        intro he
        subst he
        apply hij
        exact (List.getElem?_inj hil jCs_nd).mp (by rw [hi, hq])
      show some (ad q'.1 q'.2, jCe cI cZ cN ad M q') = some (ad q'.1 q'.2, jCe cI cZ cN ad M' q')
      rw [hne q' (List.mem_of_getElem? hq) hne']
theorem jCe_up {cI cZ cN : ClassId} {ad : Int → Nat → Nat} {M : jM} {g : Int} {k : Nat} {j v : Int} (q' : Int × Nat) (h : q' ≠ (g, k)) : jCe cI cZ cN ad M q' = jCe cI cZ cN ad (jup M g k j v) q' := by
  obtain ⟨a, b⟩ := q'
  have e : ∀ i : Int, jup M g k j v a b i = M a b i := fun i => by
    unfold jup
    rw [if_neg]
    rintro ⟨h1, h2, -⟩
    exact h (by rw [h1, h2])
  unfold jCe
  by_cases hb : b = 0
  · subst hb
    simp only [if_true, jFl, e]
  · simp only [hb, if_false, e]
theorem jCe_cp {cI cZ cN : ClassId} {ad : Int → Nat → Nat} {M : jM} {g g' : Int} {k k' : Nat} {sp dp n : Int} (q' : Int × Nat) (h : q' ≠ (g', k')) : jCe cI cZ cN ad M q' = jCe cI cZ cN ad (jcp M g k sp g' k' dp n) q' := by
  obtain ⟨a, b⟩ := q'
  have e : ∀ i : Int, jcp M g k sp g' k' dp n a b i = M a b i := fun i => by
    unfold jcp
    rw [if_neg]
    rintro ⟨h1, h2, -⟩
    exact h (by rw [h1, h2])
  unfold jCe
  by_cases hb : b = 0
  · subst hb
    simp only [if_true, jFl, e]
  · simp only [hb, if_false, e]
theorem jRM_up {M : jM} (h : jRM M) {g : Int} {k : Nat} {j v : Int} (hv : jwr v = v) : jRM (jup M g k j v) := fun a b c => by
  unfold jup
  split
  · exact hv
  · exact h a b c
theorem jRM_cp {M : jM} (h : jRM M) {g g' : Int} {k k' : Nat} {sp dp n : Int} : jRM (jcp M g k sp g' k' dp n) := fun a b c => by
  unfold jcp
  split
  · exact h _ _ _
  · exact h a b c
/-! locals -/
def jps (ad : Int → Nat → Nat) (ls : List (Option jV)) : List (Nat × Value) := (List.range ls.length).filterMap fun i => (ls.getD i none).map fun v => (i, jrv ad v)
theorem jps_mem {ad : Int → Nat → Nat} {ls : List (Option jV)} {i : Nat} {x : Value} : (i, x) ∈ jps ad ls ↔ ∃ v, ls.getD i none = some v ∧ x = jrv ad v := by
  unfold jps
  rw [List.mem_filterMap]
  constructor
  · rintro ⟨j, hj, he⟩
    cases hv : ls.getD j none with
    | none => rw [hv] at he; cases he
    | some v =>
      rw [hv] at he
      cases he
      exact ⟨v, hv, rfl⟩
  · rintro ⟨v, hv, rfl⟩
    refine ⟨i, List.mem_range.mpr ?_, by rw [hv]; rfl⟩
    rcases Nat.lt_or_ge i ls.length with q | q
    · exact q
    · rw [List.getD_eq_getElem?_getD, List.getElem?_eq_none q] at hv; cases hv
theorem jrv_cat (ad : Int → Nat → Nat) (v : jV) : (jrv ad v).category = 1 := by cases v <;> rfl
theorem jLs.has {ad : Int → Nat → Nat} {lsA : Array Slot} {nL : Nat} {ls : List (Option jV)} (h : jLs ad lsA nL ls) : lv_has lsA nL (jps ad ls) := by
  refine ⟨h.2.1, h.2.2.1, ?_⟩
  rintro ⟨i, x⟩ hq
  obtain ⟨v, hv, rfl⟩ := jps_mem.mp hq
  exact (h.2.2.2 i v hv).1
theorem jLs.put {ad : Int → Nat → Nat} {lsA ls' : Array Slot} {nL : Nat} {ls : List (Option jV)} {i : Nat} {v : jV} (h : jLs ad lsA nL ls) (hi : i < nL) (hv : jRV v)
    (h' : lv_has ls' nL ((i, jrv ad v) :: (jps ad ls).filter (fun q => !(q.1 == i) && !(q.1 + 1 == i && q.2.category == 2)))) : jLs ad ls' nL (ls.set i (some v)) := by
  refine ⟨by rw [List.length_set]; exact h.1, h'.1, h'.2.1, fun j w hj => ?_⟩
  rw [List.getD_eq_getElem?_getD, List.getElem?_set] at hj
  by_cases hij : i = j
  · subst hij
    rw [if_pos rfl, if_pos (by rw [h.1]; exact hi)] at hj
    cases hj
    exact ⟨h'.2.2 _ List.mem_cons_self, hv⟩
  · rw [if_neg hij, ← List.getD_eq_getElem?_getD] at hj
    refine ⟨h'.2.2 (j, jrv ad w) (List.mem_cons_of_mem _ (List.mem_filter.mpr ⟨jps_mem.mpr ⟨w, hj, rfl⟩, ?_⟩)), (h.2.2.2 j w hj).2⟩
    simp [jrv_cat]
    exact fun q => hij q.symm
/-! what is checked of an instruction -/
def jln (i : Instr) : Nat := match i with
  | .bipush _ | .iload _ | .aload _ | .istore _ | .astore _ => 2
  | .sipush _ | .ldc_w _ | .iinc _ _ | .if_icmp _ _ | .ifCond _ _ | .goto _ | .getfield _ | .putfield _ | .invokevirtual _ | .invokestatic _ => 3
  | _ => 1
def jtyt (t : Nat) : FieldType := if t = 3 then .object "LikeTales$Net" else if t = 4 then .boolean else .int
def jckF (y i ci s t p : Nat) : Bool := decide (jfes[p]? = some ((jh y).2.2, i, ci, s)) && (Nat.blt ci 11 && decide ((jft.getD ci [])[s]? = some t))
def jck (y pc : Nat) (o : jO) : Bool := match o.1 with
  | .tableswitch dflt lo hi offs => decide (decode (jmt y).2.1 pc = .ok (o.1, o.2.1)) && (decide (0 ≤ (pc : Int) + dflt) && (decide (lo ≤ hi + 1) && (decide (offs.size = (hi - lo + 1).toNat) && offs.toList.all (fun off => decide (0 ≤ (pc : Int) + off)))))
  | .iconst z => decide (decode (jmt y).2.1 pc = .ok (o.1, 1)) && decide (jwr z = z)
  | .bipush z => decide (decode (jmt y).2.1 pc = .ok (o.1, 2)) && (decide (jwr z = z) && decide ((Int8.ofInt z).toInt32 = jI z))
  | .sipush z => decide (decode (jmt y).2.1 pc = .ok (o.1, 3)) && (decide (jwr z = z) && decide ((Int16.ofInt z).toInt32 = jI z))
  | .ldc_w i => decide (decode (jmt y).2.1 pc = .ok (o.1, 3)) && (decide (jwr (o.2.2.1 : Int) = (o.2.2.1 : Int)) && (decide ((jh y).2.2 = 11) && (decide (i = 265 ∧ o.2.2.1 = 1431655765) || (decide (i = 266 ∧ o.2.2.1 = 858993459) || decide (i = 267 ∧ o.2.2.1 = 252645135)))))
  | .istore i => decide (decode (jmt y).2.1 pc = .ok (o.1, 2)) && Nat.blt i (jmt y).2.2.1
  | .astore i => decide (decode (jmt y).2.1 pc = .ok (o.1, 2)) && Nat.blt i (jmt y).2.2.1
  | .istore_n i => decide (decode (jmt y).2.1 pc = .ok (o.1, 1)) && Nat.blt i.val (jmt y).2.2.1
  | .astore_n i => decide (decode (jmt y).2.1 pc = .ok (o.1, 1)) && Nat.blt i.val (jmt y).2.2.1
  | .iinc i _ => decide (decode (jmt y).2.1 pc = .ok (o.1, 3)) && Nat.blt i (jmt y).2.2.1
  | .if_icmp _ off => decide (decode (jmt y).2.1 pc = .ok (o.1, 3)) && decide (0 ≤ (pc : Int) + off)
  | .ifCond _ off => decide (decode (jmt y).2.1 pc = .ok (o.1, 3)) && decide (0 ≤ (pc : Int) + off)
  | .goto off => decide (decode (jmt y).2.1 pc = .ok (o.1, 3)) && decide (0 ≤ (pc : Int) + off)
  | .getfield i => decide (decode (jmt y).2.1 pc = .ok (o.1, 3)) && jckF y i o.2.2.1 o.2.2.2.1 o.2.2.2.2.1 o.2.2.2.2.2
  | .putfield i => decide (decode (jmt y).2.1 pc = .ok (o.1, 3)) && jckF y i o.2.2.1 o.2.2.2.1 o.2.2.2.2.1 o.2.2.2.2.2
  | .invokevirtual i => decide (decode (jmt y).2.1 pc = .ok (o.1, 3)) && (decide (jmes[o.2.2.2.2.2]? = some ((jh y).2.2, i, o.2.2.1)) && (decide (o.2.2.2.1 = (jh o.2.2.1).1 + 1) && (decide ((jmt o.2.2.1).2.2.2.1.isNone = (o.2.2.2.2.1 == 1)) && (decide ((jh o.2.2.1).2.1 = 0) && (Nat.blt o.2.2.1 182 && Nat.blt (jh o.2.2.1).2.2 11)))))
  | .invokestatic i => decide (decode (jmt y).2.1 pc = .ok (o.1, 3)) && (
      bif o.2.2.2.2.1 == 4 || (o.2.2.2.2.1 == 5 || o.2.2.2.2.1 == 6) then decide (jnes[o.2.2.2.2.2]? = some ((jh y).2.2, i, o.2.2.2.2.1))
      else decide (jmes[o.2.2.2.2.2]? = some ((jh y).2.2, i, o.2.2.1)) && (decide (o.2.2.2.1 = (jh o.2.2.1).1) && (decide ((jmt o.2.2.1).2.2.2.1.isNone = (o.2.2.2.2.1 == 3)) && (decide ((jh o.2.2.1).2.1 = 1) && Nat.blt o.2.2.1 182))))
  | .ireturn => decide (decode (jmt y).2.1 pc = .ok (o.1, 1)) && decide ((jmt y).2.2.2.1 = some (if o.2.2.1 = 1 then .boolean else .int))
  | .return_ => decide (decode (jmt y).2.1 pc = .ok (o.1, 1)) && decide ((jmt y).2.2.2.1 = none)
  | _ => decide (decode (jmt y).2.1 pc = .ok (o.1, jln o.1))
