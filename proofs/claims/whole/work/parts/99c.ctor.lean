/-! CONSTRUCTORS: a world as a list of cells, the object itself first; what is new comes behind -/
def knl : List (String × Nat × MethodName) := [(RX0, 11, yX4_init), (RX0, 27, yX7_init), (RX7, 11, yX4_init), (RX5, 11, yX4_init), (RX2, 24, yX4_init), (RX9, 41, yX4_init), (RX8, 11, yX4_init)]
def kN (U : State) : Prop := (∀ x ∈ knl, va_Nw (.methodLinkNest x.1 x.2.1 x.2.2 "LikeTales") U) ∧ va_AO RX4 U
def kCx (own : String) (bc : ByteArray) (mL : Nat) (p : Program) (s : State) (m : MethodId) (args : Array Value) (c : Code) : Prop :=
  p.tables.exec = Jvm.exec ∧ c.code = bc ∧ c.maxLocals = mL ∧ s.vm.findClass own = some m.cls ∧ (∀ w ∈ wsL_law, w.before args s = true) ∧ kN s
theorem kN.same {u U : State} (h : u.vm = U.vm) (hN : kN u) : kN U :=
  ⟨fun x hx => va_Nw.same rfl h (hN.1 x hx), va_AO.moved (by rw [h]; exact Vm.Alike.refl _) hN.2⟩
theorem kN.warm {s U : State} (hW : s.WarmedH U.vm) (hN : kN s) : kN U :=
  ⟨fun x hx => va_Nw.warmM hW (hN.1 x hx), va_AO.moved hW.alike hN.2⟩
def kWd (A : Nat → Prop) (cI cZ cN : ClassId) (D : va_G) (s : State) (ws : va_W) (H : Heap) (locs : List Loc) : Prop :=
  va_P D vwCl ws H ∧ va_D A ws ∧ va_S A s.heap H locs ∧ (∀ q : Nat, s.heap.size ≤ q → A q) ∧ va_K D vwCl (jTy cI cZ cN) s
def kRm (fr lo mc ms : Nat) : Room := { frames := fr, cells := mc, slots := ms, locals := lo }
def kPc (cI cZ cN : ClassId) (D : va_G) (wc : va_W) (sz : Nat) (U : State) : Prop := U.heap.size = sz ∧ va_P D vwCl wc U.heap ∧ va_K D vwCl (jTy cI cZ cN) U ∧ va_D (fun _ => True) wc ∧ kN U
def kQc (cI cZ cN : ClassId) (D : va_G) (wc : va_W) (sz : Nat) (w1 : va_W) (t : State) : Prop := va_P D vwCl w1 t.heap ∧ va_K D vwCl (jTy cI cZ cN) t ∧ va_D (va_A wc sz) w1
/-- a constructor's contract: of these cells it makes those -/
def kMet (l : Launch) (y : MethodName) (bc : ByteArray) (mL fr lo mc ms : Nat) (cI cZ cN : ClassId) (D : va_G) (av : List Value) (wc : va_W) (post : va_W → Prop) : Prop :=
  ∀ sz : Nat, Met l y (Jvm.Cond.code y bc mL none :: wsL_law) (kRm fr lo mc ms) (va_Pc av (kPc cI cZ cN D wc sz)) (va_Qv post (kQc cI cZ cN D wc sz) (va_A wc sz)) mc ms (va_A wc sz)
def kZ (cI : ClassId) (n : Nat) : va_E := Sum.inl (cI, (n, Sum.inl (fun _ : Nat => (0 : Int32))))
theorem kD_iff {A : Nat → Prop} {ws : va_W} : va_D A ws ↔ (ws.map Prod.fst).Nodup ∧ ∀ q ∈ ws, A q.1 := by
  constructor
  · rintro ⟨h1, h2⟩
    refine ⟨?_, fun q hq => ?_⟩
    · rw [List.nodup_iff_pairwise_ne, List.pairwise_iff_getElem]
      intro i j hi hj hij he
      rw [List.length_map] at hi hj
      rw [List.getElem_map, List.getElem_map] at he
      have := h1 i j ws[i] ws[j] (List.getElem?_eq_getElem hi) (List.getElem?_eq_getElem hj) he
      omega
    · obtain ⟨k, hk⟩ := List.getElem?_of_mem hq
      exact h2 k q hk
  · rintro ⟨h1, h2⟩
    rw [List.nodup_iff_pairwise_ne, List.pairwise_iff_getElem] at h1
    refine ⟨fun i j p q hi hj he => ?_, fun k q hk => h2 q (List.mem_of_getElem? hk)⟩
    obtain ⟨li, ei⟩ := List.getElem?_eq_some_iff.mp hi
    obtain ⟨lj, ej⟩ := List.getElem?_eq_some_iff.mp hj
    rcases Nat.lt_trichotomy i j with h | h | h
    · exact absurd (show (ws.map Prod.fst)[i]'(by rw [List.length_map]; exact li) = (ws.map Prod.fst)[j]'(by rw [List.length_map]; exact lj) by rw [List.getElem_map, List.getElem_map, ei, ej]; exact he) (h1 i j _ _ h)
    · exact h
    · exact absurd (show (ws.map Prod.fst)[j]'(by rw [List.length_map]; exact lj) = (ws.map Prod.fst)[i]'(by rw [List.length_map]; exact li) by rw [List.getElem_map, List.getElem_map, ei, ej]; exact he.symm) (h1 j i _ _ h)
theorem kP_iff {D : va_G} {cl : List vw_C} {ws : va_W} {H : Heap} : va_P D cl ws H ↔ ∀ q ∈ ws, va_at D cl q H := by
  constructor
  · intro h q hq
    obtain ⟨k, hk⟩ := List.getElem?_of_mem hq
    exact h k q hk
  · intro h k q hk
    exact h q (List.mem_of_getElem? hk)
theorem kP_perm {D : va_G} {cl : List vw_C} {ws ws' : va_W} {H : Heap} (h : va_P D cl ws H) (hp : ws.Perm ws') : va_P D cl ws' H :=
  kP_iff.mpr fun q hq => kP_iff.mp h q (hp.mem_iff.mpr hq)
theorem kD_perm {A : Nat → Prop} {ws ws' : va_W} (h : va_D A ws) (hp : ws.Perm ws') : va_D A ws' := by
  obtain ⟨h1, h2⟩ := kD_iff.mp h
  exact kD_iff.mpr ⟨(hp.map Prod.fst).nodup_iff.mp h1, fun q hq => h2 q (hp.mem_iff.mpr hq)⟩
theorem kWd.perm {A : Nat → Prop} {cI cZ cN : ClassId} {D : va_G} {s : State} {ws ws' : va_W} {H : Heap} {locs : List Loc} (h : kWd A cI cZ cN D s ws H locs) (hp : ws.Perm ws') : kWd A cI cZ cN D s ws' H locs :=
  ⟨kP_perm h.1 hp, kD_perm h.2.1 hp, h.2.2⟩
theorem kD_right {A : Nat → Prop} {wr wc : va_W} (h : va_D A (wr ++ wc)) : va_D A wc := by
  obtain ⟨h1, h2⟩ := kD_iff.mp h
  rw [List.map_append] at h1
  exact kD_iff.mpr ⟨(List.nodup_append.mp h1).2.1, fun q hq => h2 q (List.mem_append_right _ hq)⟩
theorem kD_left {A : Nat → Prop} {wr wc : va_W} (h : va_D A (wr ++ wc)) : va_D A wr := by
  obtain ⟨h1, h2⟩ := kD_iff.mp h
  rw [List.map_append] at h1
  exact kD_iff.mpr ⟨(List.nodup_append.mp h1).1, fun q hq => h2 q (List.mem_append_left _ hq)⟩
theorem kA_iff {ws : va_W} {sz q : Nat} : va_A ws sz q ↔ (∃ x ∈ ws, x.1 = q) ∨ sz ≤ q := by
  constructor
  · rintro (⟨k, e, h⟩ | h)
    · exact Or.inl ⟨_, List.mem_of_getElem? h, rfl⟩
    · exact Or.inr h
  · rintro (⟨x, hx, rfl⟩ | h)
    · obtain ⟨k, hk⟩ := List.getElem?_of_mem hx
      exact Or.inl ⟨k, x.2, hk⟩
    · exact Or.inr h
theorem k_good {w : Jvm.Cond} (h : w ∈ wsL_law) : GoodIn wsL_law (w :: wsL_law) := by
  intro v hv
  rcases List.mem_cons.mp hv with rfl | hv
  · exact wsL_good _ h
  · exact wsL_good _ hv
section CTOR
variable {p : Program} {l : Launch} {e : Env} {R : Room} {s : State} {m : MethodId} {args : Array Value} {below : List Frame} {meth : Method} {c : Code} {cI cZ cN : ClassId} {D : va_G} {A : Nat → Prop} {H : Heap} {locs : List Loc} {ls : Array Slot} {Z : State → Prop} {own : String} {bc : ByteArray} {mL pc cells slots : Nat} {rest : List Value} {ws : va_W}
theorem k_back {mc ms : Nat} {st0 : List Value} {as : Array Value} {wr wc : va_W} {post : va_W → Prop} (hW : kWd A cI cZ cN D s (wr ++ wc) H locs)
    (hrun : va_Run p l e R s m args below meth c H locs cells slots mc ms (F0 m pc ls st0) rest (va_Qv post (kQc cI cZ cN D wc H.size) (va_A wc H.size) as) (va_A wc H.size))
    (k : ∀ w1 H1 locs1, post w1 → kWd A cI cZ cN D s (wr ++ w1) H1 locs1 → W p l e R s m args below meth c H1 locs1 (cells + mc) (slots + ms) Z (F0 m (pc + 3) ls rest)) :
    W p l e R s m args below meth c H locs cells slots Z (F0 m pc ls st0) := by
  obtain ⟨hP, hD, hS, hA, hK⟩ := hW
  have hDc := kD_right hD
  have hPr : va_P D vwCl wr H := kP_iff.mpr fun q hq => kP_iff.mp hP q (List.mem_append_left _ hq)
  have hFc : ∀ q, va_A wc H.size q → A q := by
    intro q hq
    rcases kA_iff.mp hq with ⟨x, hx9, rfl⟩ | h
    · exact (kD_iff.mp hDc).2 x hx9
    · exact hA q (Nat.le_trans hS.1 h)
  refine va_callv hrun hS (fun q _ h => hFc q h) hFc (fun w1 t H1 locs1 ht hvm hw hB hz1 hk1 hS1 => ?_)
  obtain ⟨hP1, hK1, hD1⟩ := hB
  rw [ht] at hP1
  have apart : ∀ q ∈ wr, q.1 < H.size ∧ ¬ va_A wc H.size q.1 := by
    intro q hq
    obtain ⟨i, hi⟩ := List.getElem?_of_mem hq
    have hl := (hPr i q hi).lt
    refine ⟨hl, fun h => ?_⟩
    rcases kA_iff.mp h with ⟨x, hx9, he⟩ | h
    · have h5 := (kD_iff.mp hD).1
      rw [List.map_append] at h5
      exact (List.nodup_append.mp h5).2.2 q.1 (List.mem_map.mpr ⟨q, hq, rfl⟩) x.1 (List.mem_map.mpr ⟨x, hx9, rfl⟩) he.symm
    · omega
  refine k w1 H1 locs1 hw ⟨kP_iff.mpr fun q hq => ?_, kD_iff.mpr ⟨?_, fun q hq => ?_⟩, hS1, hA, hK⟩
  · rcases List.mem_append.mp hq with h | h
    · exact (kP_iff.mp hPr q h).kept (hk1 q.1 (apart q h).1 (apart q h).2)
    · exact kP_iff.mp hP1 q h
  · rw [List.map_append]
    refine List.nodup_append.mpr ⟨(kD_iff.mp (kD_left hD)).1, (kD_iff.mp hD1).1, ?_⟩
    intro a ha b' hb' hab
    obtain ⟨q, hq, rfl⟩ := List.mem_map.mp ha
    obtain ⟨x, hx9, rfl⟩ := List.mem_map.mp hb'
    exact (apart q hq).2 (by rw [hab]; exact (kD_iff.mp hD1).2 x hx9)
  · rcases List.mem_append.mp hq with h | h
    · exact (kD_iff.mp hD).2 q (List.mem_append_left _ h)
    · exact hFc _ ((kD_iff.mp hD1).2 q h)
theorem k_pre {av : List Value} {wr wc : va_W} (hN : kN s) (hW : kWd A cI cZ cN D s (wr ++ wc) H locs) : PreS s H (va_Pc av (kPc cI cZ cN D wc H.size)) av := by
  obtain ⟨hP, hD, hS, hA, hK⟩ := hW
  have hPc : va_P D vwCl wc H := kP_iff.mpr fun q hq => kP_iff.mp hP q (List.mem_append_right _ hq)
  refine ⟨fun a U g mk q => ?_, fun U hU hW => ⟨rfl, by rw [hU], by rw [hU]; exact hPc, va_K.moved hW.alike hK, (kD_right hD).weaken (fun _ _ _ _ => trivial), hN.warm hW⟩⟩
  obtain ⟨q0, q1, qP, qK, qD, qN⟩ := q
  exact ⟨q0, q1, qP, va_K.moved (u := U) (U := U.calling g mk a) (Vm.Alike.refl U.vm) qK, qD, kN.same (u := U) (U := U.calling g mk a) rfl qN⟩
theorem k_call {y2 : MethodName} {bc2 : ByteArray} {mL2 fr2 lo2 mc ms b idx n : Nat} {As : List Value} {wr wc : va_W} {post : va_W → Prop} (hC : kCx own bc mL p s m args c) (hM : kMet l y2 bc2 mL2 fr2 lo2 mc ms cI cZ cN D (.ref b :: As) wc post) (hW : kWd A cI cZ cN D s (wr ++ wc) H locs)
    (h1 : Jvm.Cond.code y2 bc2 mL2 none ∈ wsL_law) (h2 : Jvm.Cond.initialized y2.cls ∈ wsL_law) (h3 : Jvm.Cond.methodLink own idx y2 ∈ wsL_law) (h4 : Jvm.Cond.instanceMethod y2 ∈ wsL_law) (hname : y2.name = "<init>")
    (hd : y2.cls ≠ "java/lang/invoke/MethodHandle" ∧ y2.cls ≠ "java/lang/invoke/VarHandle" ∧ (parseMethodDescriptor y2.desc).map (fun d => d.parameters.length) = some n) (hn : As.length = n) (hR : fr2 + 1 ≤ R.frames ∧ 8 + (mL2 + 11) + lo2 ≤ R.locals) (hsz : ls.size = mL) (hcat : (rest.map fun v => v.category).sum ≤ 8)
    (hdg : decode bc pc = .ok (.invokespecial idx, 3)) (hf : cells + mc ≤ R.cells ∧ slots + ms ≤ R.slots)
    (k : ∀ w1 H1 locs1, post w1 → kWd A cI cZ cN D s (wr ++ w1) H1 locs1 → W p l e R s m args below meth c H1 locs1 (cells + mc) (slots + ms) Z (F0 m (pc + 3) ls rest)) :
    W p l e R s m args below meth c H locs cells slots Z (F0 m pc ls (As.reverse ++ .ref b :: rest)) := by
  obtain ⟨hx, hb, hml, hown, hts, hN⟩ := hC
  exact k_back hW (va_runI (As := As) (rest := rest) ⟨hx, hb, hml, hown, hts⟩ (hM H.size) ⟨callB_of n hts (k_good h1) rfl rfl rfl (hts _ h2) (hts _ h3) hd hR, hname, hts _ h4⟩ (k_pre hN hW) rfl hn hsz rfl (lv_room hcat) hdg hf) k
theorem k_callN {y2 : MethodName} {bc2 : ByteArray} {mL2 fr2 lo2 mc ms b idx n : Nat} {As : List Value} {wr wc : va_W} {post : va_W → Prop} (hC : kCx own bc mL p s m args c) (hM : kMet l y2 bc2 mL2 fr2 lo2 mc ms cI cZ cN D (.ref b :: As) wc post) (hW : kWd A cI cZ cN D s (wr ++ wc) H locs)
    (h1 : Jvm.Cond.code y2 bc2 mL2 none ∈ wsL_law) (h2 : Jvm.Cond.initialized y2.cls ∈ wsL_law) (h3 : (own, idx, y2) ∈ knl) (h4 : Jvm.Cond.instanceMethod y2 ∈ wsL_law) (hname : y2.name = "<init>")
    (hd : y2.cls ≠ "java/lang/invoke/MethodHandle" ∧ y2.cls ≠ "java/lang/invoke/VarHandle" ∧ (parseMethodDescriptor y2.desc).map (fun d => d.parameters.length) = some n) (hn : As.length = n) (hR : fr2 + 1 ≤ R.frames ∧ 8 + (mL2 + 11) + lo2 ≤ R.locals) (hsz : ls.size = mL) (hcat : (rest.map fun v => v.category).sum ≤ 8)
    (hdg : decode bc pc = .ok (.invokespecial idx, 3)) (hf : cells + mc ≤ R.cells ∧ slots + ms ≤ R.slots)
    (k : ∀ w1 H1 locs1, post w1 → kWd A cI cZ cN D s (wr ++ w1) H1 locs1 → W p l e R s m args below meth c H1 locs1 (cells + mc) (slots + ms) Z (F0 m (pc + 3) ls rest)) :
    W p l e R s m args below meth c H locs cells slots Z (F0 m pc ls (As.reverse ++ .ref b :: rest)) := by
  obtain ⟨hx, hb, hml, hown, hts, hN⟩ := hC
  exact k_back hW (va_runIN (As := As) (rest := rest) (host := "LikeTales") ⟨hx, hb, hml, hown, hts⟩ (hM H.size) ⟨va_cnB n hts (k_good h1) rfl rfl rfl (hN.1 _ h3) (hts _ h2) hd hR, hname, hts _ h4⟩ (k_pre hN hW) rfl hn hsz rfl (lv_room hcat) hdg hf) k
theorem k_new {C : String} {T : u_T} {N ci i : Nat} {fs : List Value} (hC : kCx own bc mL p s m args c) (hW : kWd A cI cZ cN D s ws H locs) (hc : vwCl[ci]? = some (C, T, N)) (hin : ∀ w ∈ u_ws C T N, w ∈ wsL_law) (ty : Nat → FieldType) (hty : ∀ k, k < N → parseFieldDescriptor (T k).2.2.1 = some (ty k))
    (h1 : Jvm.Cond.classLink own i C ∈ wsL_law) (h2 : Jvm.Cond.instantiable C N ∈ wsL_law) (h3 : Jvm.Cond.initialized C ∈ wsL_law) (hfs : ∀ j, j < N → defaultValue (ty j) = vp_V fs j) (hcells : cells + 1 ≤ R.cells) (hslots : slots + N ≤ R.slots) (hdg : decode bc pc = .ok (.new i, 3))
    (k : ∀ (q : Nat) (H1 : Heap), kWd A cI cZ cN D s (ws ++ [(q, .inr (ci, fs))]) H1 locs → W p l e R s m args below meth c H1 locs (cells + 1) (slots + N) Z (F0 m (pc + 3) ls (.ref q :: rest))) : W p l e R s m args below meth c H locs cells slots Z (F0 m pc ls rest) := by
  obtain ⟨hP, hD, hS, hA, hK⟩ := hW
  obtain ⟨hx, hb, hml, hown, hts, hN⟩ := hC
  exact va_new (D := D) (ci := ci) (fs := fs) (C := C) (T := T) (N := N) hx hb hts hin ty hty hown (hts _ h1) (hts _ h2) (hts _ h3) hK hP hD hS hA hc hfs hcells hslots hdg (fun q H1 hP1 hD1 hS1 => k q H1 ⟨hP1, hD1, hS1, hA, hK⟩)
theorem k_ar {ty : FieldType} {cA cB : ClassId} {tys : List (ClassId × FieldType)} (hK : va_K D vwCl (tys ++ [(cA, ty)]) s) (hn : ∀ C, ty ≠ .object C) (hB : s.vm.findClass ("[" ++ ty.toString) = some cB) : cA = cB := by
  have h := (hK.2 tys.length (cA, ty) (by simp)).2
  have h2 : s.vm.findClass ("[" ++ ty.toString) = some cA := by
    cases ty with
    | object C => exact absurd rfl (hn C)
    | _ => exact h
  rw [hB] at h2
  exact (Option.some.inj h2).symm
theorem k_newI {n : Int32} {N : Nat} (hC : kCx own bc mL p s m args c) (hW : kWd A cI cZ cN D s ws H locs) (h1 : Jvm.Cond.arrayClass .int ∈ wsL_law) (hn : ¬ n < 0) (hN : n.toNatClampNeg = N) (hby : N * 4 ≤ 536870912) (hcells : cells + 1 ≤ R.cells) (hslots : slots + N ≤ R.slots) (hdg : decode bc pc = .ok (.newarray .int, 2))
    (k : ∀ (q : Nat) (H1 : Heap), kWd A cI cZ cN D s (ws ++ [(q, kZ cI N)]) H1 locs → W p l e R s m args below meth c H1 locs (cells + 1) (slots + N) Z (F0 m (pc + 2) ls (.ref q :: rest))) : W p l e R s m args below meth c H locs cells slots Z (F0 m pc ls (.int n :: rest)) := by
  obtain ⟨hP, hD, hS, hA, hK⟩ := hW
  obtain ⟨hx, hb, hml, hown, hts, hNN⟩ := hC
  refine va_newa (D := D) (atype := .int) (ty := .int) (a0 := (N, Sum.inl (fun _ : Nat => (0 : Int32)))) hx hb (hts _ h1) rfl hK hP hD hS hA (fun _ => rfl) hn hN hby hcells hslots hdg (fun q cA H1 hK1 hP1 hD1 hS1 => ?_)
  have e1 : cA = cI := k_ar hK1 (fun C h => by cases h) (hK.2 0 (cI, .int) rfl).2
  subst e1
  exact k q H1 ⟨hP1, hD1, hS1, hA, hK⟩
theorem k_newZ {n : Int32} {N : Nat} (hC : kCx own bc mL p s m args c) (hW : kWd A cI cZ cN D s ws H locs) (h1 : Jvm.Cond.arrayClass .boolean ∈ wsL_law) (hn : ¬ n < 0) (hN : n.toNatClampNeg = N) (hby : N * 1 ≤ 536870912) (hcells : cells + 1 ≤ R.cells) (hslots : slots + N ≤ R.slots) (hdg : decode bc pc = .ok (.newarray .boolean, 2))
    (k : ∀ (q : Nat) (H1 : Heap), kWd A cI cZ cN D s (ws ++ [(q, kZ cZ N)]) H1 locs → W p l e R s m args below meth c H1 locs (cells + 1) (slots + N) Z (F0 m (pc + 2) ls (.ref q :: rest))) : W p l e R s m args below meth c H locs cells slots Z (F0 m pc ls (.int n :: rest)) := by
  obtain ⟨hP, hD, hS, hA, hK⟩ := hW
  obtain ⟨hx, hb, hml, hown, hts, hNN⟩ := hC
  refine va_newa (D := D) (atype := .boolean) (ty := .boolean) (a0 := (N, Sum.inl (fun _ : Nat => (0 : Int32)))) hx hb (hts _ h1) rfl hK hP hD hS hA (fun _ => rfl) hn hN hby hcells hslots hdg (fun q cA H1 hK1 hP1 hD1 hS1 => ?_)
  have e1 : cA = cZ := k_ar hK1 (fun C h => by cases h) (hK.2 1 (cZ, .boolean) rfl).2
  subst e1
  exact k q H1 ⟨hP1, hD1, hS1, hA, hK⟩
theorem k_newq {n : Int32} {N i : Nat} (hC : kCx own bc mL p s m args c) (hW : kWd A cI cZ cN D s ws H locs) (h1 : Jvm.Cond.classLink own i RX4 ∈ wsL_law) (hn : ¬ n < 0) (hN : n.toNatClampNeg = N) (hby : N * 4 ≤ 536870912) (hcells : cells + 1 ≤ R.cells) (hslots : slots + N ≤ R.slots) (hdg : decode bc pc = .ok (.anewarray i, 3))
    (k : ∀ (q : Nat) (H1 : Heap), kWd A cI cZ cN D s (ws ++ [(q, .inl (cN, N, .inr (.inr (.inr (.inr (fun _ => none))))))]) H1 locs → W p l e R s m args below meth c H1 locs (cells + 1) (slots + N) Z (F0 m (pc + 3) ls (.ref q :: rest))) : W p l e R s m args below meth c H locs cells slots Z (F0 m pc ls (.int n :: rest)) := by
  obtain ⟨hP, hD, hS, hA, hK⟩ := hW
  obtain ⟨hx, hb, hml, hown, hts, hNN⟩ := hC
  refine va_newq (D := D) (C := RX4) hx hb hown (hts _ h1) hNN.2 hK hP hD hS hA hn hN hby hcells hslots hdg (fun q cA H1 hK1 hP1 hD1 hS1 => ?_)
  have e1 : cA = cN := by
    obtain ⟨kA, comp, -, -, -, h4⟩ : va_RA s cA (.object RX4) := (hK1.2 (jTy cI cZ cN).length (cA, .object RX4) (by simp)).2
    obtain ⟨kA', comp', -, -, -, h5⟩ : va_RA s cN (.object RX4) := (hK.2 2 (cN, .object RX4) rfl).2
    rw [h5] at h4
    exact (Option.some.inj h4).symm
  subst e1
  exact k q H1 ⟨hP1, hD1, hS1, hA, hK⟩
theorem k_iast {q0 a n : Nat} {f : Nat → Int32} {i x : Int32} (hC : kCx own bc mL p s m args c) (hW : kWd A cI cZ cN D s ws H locs) (he : ws[q0]? = some (a, .inl (cI, n, .inl f))) (hin : vp_in i n) (hdg : decode bc pc = .ok (.iastore, 1))
    (k : ∀ H1 locs1, kWd A cI cZ cN D s (ws.set q0 (a, .inl (cI, n, .inl (upd f i.toNatClampNeg x)))) H1 locs1 → W p l e R s m args below meth c H1 locs1 cells slots Z (F0 m (pc + 1) ls rest)) : W p l e R s m args below meth c H locs cells slots Z (F0 m pc ls (.int x :: .int i :: .ref a :: rest)) := by
  obtain ⟨hP, hD, hS, hA, hK⟩ := hW
  obtain ⟨hx, hb, hml, hown, hts, hNN⟩ := hC
  exact va_iast (D := D) hx hb hK hP hD hS q0 0 he rfl hin hdg (fun H1 locs1 hP1 hD1 hS1 => k H1 locs1 ⟨hP1, hD1, hS1, hA, hK⟩)
theorem k_astq {q0 qk a n v : Nat} {vs : List Value} {f : Nat → Option Nat} {i : Int32} (hC : kCx own bc mL p s m args c) (hW : kWd A cI cZ cN D s ws H locs) (he : ws[q0]? = some (a, .inl (cN, n, .inr (.inr (.inr (.inr f)))))) (hv : ws[qk]? = some (v, .inr (4, vs))) (hin : vp_in i n) (hdg : decode bc pc = .ok (.aastore, 1))
    (k : ∀ H1 locs1, kWd A cI cZ cN D s (ws.set q0 (a, .inl (cN, n, .inr (.inr (.inr (.inr (va_up f i.toNatClampNeg (some v)))))))) H1 locs1 → W p l e R s m args below meth c H1 locs1 cells slots Z (F0 m (pc + 1) ls rest)) : W p l e R s m args below meth c H locs cells slots Z (F0 m pc ls (.ref v :: .int i :: .ref a :: rest)) := by
  obtain ⟨hP, hD, hS, hA, hK⟩ := hW
  obtain ⟨hx, hb, hml, hown, hts, hNN⟩ := hC
  exact va_astq (D := D) hx hb hK hP hD hS q0 2 qk 4 (r := (RX4, TX4, 8)) he rfl hv rfl hin hdg (fun H1 locs1 hP1 hD1 hS1 => k H1 locs1 ⟨hP1, hD1, hS1, hA, hK⟩)
theorem k_put {C : String} {T : u_T} {N ci i q0 sl a : Nat} {fs : List Value} {v : Value} {ty : FieldType} (hC : kCx own bc mL p s m args c) (hW : kWd A cI cZ cN D s ws H locs) (hname : meth.name = "<init>") (he : ws[q0]? = some (a, .inr (ci, fs))) (hc : vwCl[ci]? = some (C, T, N)) (hin : ∀ w ∈ u_ws C T N, w ∈ wsL_law) (ty0 : Nat → FieldType) (hty : ∀ k, k < N → parseFieldDescriptor (T k).2.2.1 = some (ty0 k)) (hnm : ∀ a, a < N → ∀ b, b < N → a ≠ b → (T a).2.1 ≠ (T b).2.1)
    (hk : sl < N) (h1 : Jvm.Cond.fieldLink own i C (T sl).2.1 (T sl).2.2.1 ∈ wsL_law) (hT : (T sl).1 = C) (ho : C = own) (hd : parseFieldDescriptor (T sl).2.2.1 = some ty) (hn : narrow ty v = v) (hfit : fits ty v = true) (hl : sl < fs.length) (hdg : decode bc pc = .ok (.putfield i, 3))
    (k : ∀ H1 locs1, kWd A cI cZ cN D s (ws.set q0 (a, .inr (ci, fs.set sl v))) H1 locs1 → W p l e R s m args below meth c H1 locs1 cells slots Z (F0 m (pc + 3) ls rest)) : W p l e R s m args below meth c H locs cells slots Z (F0 m pc ls (v :: .ref a :: rest)) := by
  obtain ⟨hP, hD, hS, hA, hK⟩ := hW
  obtain ⟨hx, hb, hml, hown, hts, hN⟩ := hC
  by_cases hfin : (T sl).2.2.2 = true
  · exact va_putF (D := D) (ci := ci) (C := C) (T := T) (N := N) (ref := C) hx hb hts hin ty0 hty hnm hown hK hP hD hS q0 he hc sl hk (hts _ h1) (fun x h9 => by rw [hT] at h9; exact h9) hfin hname (by rw [hT, ho]) hd hn hfit hl hdg (fun H1 locs1 hP1 hD1 hS1 => k H1 locs1 ⟨hP1, hD1, hS1, hA, hK⟩)
  · exact va_put (D := D) (ci := ci) (C := C) (T := T) (N := N) (ref := C) hx hb hts hin ty0 hty hnm hown hK hP hD hS q0 he hc sl hk (hts _ h1) (fun x h9 => by rw [hT] at h9; exact h9) (Bool.not_eq_true _ ▸ hfin) hd hn hfit hl hdg (fun H1 locs1 hP1 hD1 hS1 => k H1 locs1 ⟨hP1, hD1, hS1, hA, hK⟩)
theorem k_get {C : String} {T : u_T} {N ci i q0 sl a : Nat} {fs : List Value} {v : Value} (hC : kCx own bc mL p s m args c) (hW : kWd A cI cZ cN D s ws H locs) (he : ws[q0]? = some (a, .inr (ci, fs))) (hc : vwCl[ci]? = some (C, T, N)) (hin : ∀ w ∈ u_ws C T N, w ∈ wsL_law)
    (hk : sl < N) (h1 : Jvm.Cond.fieldLink own i C (T sl).2.1 (T sl).2.2.1 ∈ wsL_law) (hT : (T sl).1 = C) (hv : fs[sl]? = some v) (hdg : decode bc pc = .ok (.getfield i, 3))
    (k : W p l e R s m args below meth c H locs cells slots Z (F0 m (pc + 3) ls (v :: rest))) : W p l e R s m args below meth c H locs cells slots Z (F0 m pc ls (.ref a :: rest)) := by
  obtain ⟨hP, hD, hS, hA, hK⟩ := hW
  obtain ⟨hx, hb, hml, hown, hts, hN⟩ := hC
  exact va_get (D := D) (ci := ci) (C := C) (T := T) (N := N) (ref := C) hx hb hts hin hown hK hP q0 he hc sl hk (hts _ h1) (fun x h9 => by rw [hT] at h9; exact h9) hv hdg k
theorem k_obj {a idx : Nat} (hC : kCx own bc mL p s m args c) (h1 : Jvm.Cond.methodLink own idx Lib.objectInit ∈ wsL_law) (h2 : Jvm.Cond.instanceMethod Lib.objectInit ∈ wsL_law) (h3 : Jvm.Cond.code Lib.objectInit ⟨#[0xb1]⟩ 1 none ∈ wsL_law) (hsz : ls.size = mL) (hfr : 1 ≤ R.frames) (hlo : 12 ≤ R.locals) (hdg : decode bc pc = .ok (.invokespecial idx, 3))
    (k : W p l e R s m args below meth c H locs cells slots Z (F0 m (pc + 3) ls [])) : W p l e R s m args below meth c H locs cells slots Z (F0 m pc ls [.ref a]) := by
  obtain ⟨hx, hb, hml, hown, hts, hN⟩ := hC
  exact W.objInit hx hb hown (hts _ h1) (hts _ h2) (hts _ h3) rfl (by rw [hml]; exact hsz) rfl hdg hfr (by show 0 + 0 + 12 ≤ R.locals; omega) k
theorem k_ret {wc : va_W} {post : va_W → Prop} {mc ms : Nat} (hC : kCx own bc mL p s m args c) (hW : kWd (va_A wc s.heap.size) cI cZ cN D s ws H locs) (hr : meth.sig.returnType = none) (hlocks : meth.locks = false) (hp : post ws) (hdg : decode bc pc = .ok (.return_, 1)) (h1 : cells ≤ mc) (h2 : slots ≤ ms) :
    W p l e R s m args below meth c H locs cells slots (MQ below (va_Qv post (kQc cI cZ cN D wc s.heap.size) (va_A wc s.heap.size)) args s mc ms (va_A wc s.heap.size)) (F0 m pc ls []) := by
  obtain ⟨hP, hD, hS, hA, hK⟩ := hW
  obtain ⟨hx, hb, hml, hown, hts, hN⟩ := hC
  exact W.widen h1 h2 (W.vret hx hb hr (fun t ht hW => ⟨⟨ws, rfl, hp, by rw [ht]; exact hP, va_K.moved hW.alike hK, hD⟩, hS.F ht⟩) hS.2.2 hdg hlocks)
end CTOR
theorem k_start {l : Launch} {y : MethodName} {bc : ByteArray} {mL fr lo mc ms : Nat} {cI cZ cN : ClassId} {D : va_G} {av : List Value} {wc : va_W} {post : va_W → Prop} (hy : plainName y.cls = true) (hfit : Nat.ble (lg_sl av).length mL = true)
    (k : ∀ (p : Program) (e : Env) (s : State) (m : MethodId) (args : Array Value) (below : List Frame) (meth : Method) (c : Code) (ls : Array Slot), kCx y.cls bc mL p s m args c → kWd (va_A wc s.heap.size) cI cZ cN D s wc s.heap [] → meth.name = y.name → meth.sig.returnType = none → meth.locks = false → lv_has ls mL (lv_args 0 av) →
      W p l e (kRm fr lo mc ms) s m args below meth c s.heap [] 0 0 (MQ below (va_Qv post (kQc cI cZ cN D wc s.heap.size) (va_A wc s.heap.size)) args s mc ms (va_A wc s.heap.size)) (F0 m 0 ls [])) :
    kMet l y bc mL fr lo mc ms cI cZ cN D av wc post := by
  intro sz
  refine Met.ofW (cc := bc) (maxL := mL) (ret := none) hy rfl ?_
  intro p e s m args below meth c s₁ B hml hv
  obtain ⟨rfl, hsz, hP, hK, hD0, hN⟩ := hv
  subst hsz
  have hts := atoms_spec (ws := Jvm.Cond.code y bc mL none :: wsL_law) B.pre
  have hl := lv_entry av (n := mL) (Nat.le_of_ble_eq_true hfit)
  rw [lg_entry_eq]
  exact k p e s m _ below meth c _ ⟨B.exec, B.bytes, hml, findClass_of_methodNamed B.named, fun w hw => hts w (List.mem_cons_of_mem _ hw), hN⟩ ⟨hP, hD0.self, va_S.rf, fun q h => Or.inr h, hK⟩ (name_of_methodNamed B.named B.method).1 B.returns B.notSynchronized hl
