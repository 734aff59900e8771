/-! THE CLAIM OUT OF ONE WALK OF THE LAW'S BODY. Your part is whole_start (and what it stands on); all else here is the same for every law, but numbers. -/
def R_law : String := "LikeTalesLaw"
def lw_P (b : Addr) (xs : List Int32) (args : Array Value) (s : State) : Prop := args = #[.ref b] ∧ s.IntsAt b xs ∧ xs.length ≤ 3584 ∧ (Jvm.Cond.and given_1 narrow_1).before args s = true
def lw_Q (_ : Array Value) (s : State) (o : Outcome) (t : State) : Prop := o = .returned (some (.int 1)) ∧ Framed s o t [] 600000 7302250
def lw_Z (below : List Frame) (a : Array Value) (s : State) : State → Prop := fun t => ∃ o, t.status = .running ∧ Ended t below o ∧ lw_Q a s o t
/-- the law's own end, with 1 on the stack, nothing written that was there before, its room as the claim has it -/
theorem lw_ret {p : Program} {l : Launch} {e : Env} {s : State} {m : MethodId} {below : List Frame} {meth : Method} {c : Code} {b : Nat} (hx : p.tables.exec = Jvm.exec) (hb : c.code = code) (hr : meth.sig.returnType = ret) (hlocks : meth.locks = false) {pc : Nat} {H : Heap} {ls : Array Slot} (hdg : decode code pc = .ok (.ireturn, 1)) : W p l e room_1 s m #[Value.ref b] below meth c H [] 600000 7302250 (lw_Z below #[Value.ref b] s) (F0 m pc ls [.int 1]) := by
  intro T hT X
  obtain ⟨fs, hret, hrun, hended, hW, hframe⟩ := X.leave (v := some (.int 1)) (hlocks := hlocks) (fun h => by rw [hr] at h; cases h)
  have hmeth' : T.vm.method? m = some meth := X.method'
  refine ⟨T.setFrames fs, ?_, .returned (some (.int 1)), hrun, hended, rfl, ⟨_, rfl⟩, hW, hframe⟩
  jvm_step X.here [X.here.top, hx, hb, hdg, hmeth', hr, ret, narrow_b1]
  (try refine ⟨rfl, ?_⟩); (try refine ⟨rfl, ?_⟩)
  first | (intro acts; rw [hret _ acts rfl rfl rfl]) | rw [hret _ _ rfl rfl rfl]
  exact Steps.refl _
/-- what holds at the law's entry: the machine, the code, the tables' words (any of lw_tbl by 'hts w (by decide +kernel)'), the script of L ints xs at the cell b, what the Statement gives of the start (any of its parts by flat_of_before) -/
def lw_At (p : Program) (s : State) (m : MethodId) (meth : Method) (c : Code) (b L : Nat) (xs : Nat → Int32) : Prop :=
  p.tables.exec = Jvm.exec ∧ c.code = code ∧ meth.sig.returnType = ret ∧ c.maxLocals = 4 ∧ s.vm.findClass R_law = some m.cls ∧ (∀ w ∈ lw_tbl, w.before #[Value.ref b] s = true) ∧ va_X b L xs s s.heap ∧ b < s.heap.size ∧ meth.locks = false ∧ (Jvm.Cond.and given_1 narrow_1).before #[Value.ref b] s = true
/-! THE LAW'S WALK: what stands at each of its places -/
def lwC (p : Program) (s : State) (m : MethodId) (meth : Method) (c : Code) (b L : Nat) (xs : Nat → Int32) (cI cZ cN : ClassId) (D : va_G) : Prop :=
  kCx RL code 4 p s m #[Value.ref b] c ∧ meth.sig.returnType = ret ∧ meth.locks = false ∧ va_X b L xs s s.heap ∧ b < s.heap.size ∧ L ≤ 3584 ∧ va_K D vwCl (jTy cI cZ cN) s
def lwW (cI cZ cN : ClassId) (D : va_G) (s : State) (ad : Int → Nat → Nat) (M : jM) (H : Heap) (locs : List Loc) : Prop :=
  jRM M ∧ va_P D vwCl (jW cI cZ cN ad M) H ∧ va_D (fun q : Nat => s.heap.size ≤ q) (jW cI cZ cN ad M) ∧ va_S (fun q : Nat => s.heap.size ≤ q) s.heap H locs
theorem lw_D {cI cZ cN : ClassId} {ad : Int → Nat → Nat} {M M1 : jM} {A B : Nat → Prop} (h : va_D A (jW cI cZ cN ad M)) (h1 : va_D B (jW cI cZ cN ad M1)) : va_D A (jW cI cZ cN ad M1) := by
  refine ⟨h1.1, fun k q hk => ?_⟩
  unfold jW at hk
  rw [List.getElem?_map] at hk
  cases hc : jCs[k]? with
  | none => rw [hc] at hk; cases hk
  | some x =>
    rw [hc] at hk
    cases hk
    have h9 : (jW cI cZ cN ad M)[k]? = some (ad x.1 x.2, jCe cI cZ cN ad M x) := by
      unfold jW
      rw [List.getElem?_map, hc]
      rfl
    have h8 := h.2 k _ h9
    exact h8
theorem lw_in {cI cZ cN : ClassId} {ad : Int → Nat → Nat} {M : jM} {A : Nat → Prop} (h : va_D A (jW cI cZ cN ad M)) {x : Int × Nat} (hx : x ∈ jCs) : A (ad x.1 x.2) := by
  obtain ⟨i, -, he⟩ := jW_get hx cI cZ cN ad M
  exact h.2 i _ he
section LAW
variable {p : Program} {l : Launch} {e : Env} {s : State} {m : MethodId} {below : List Frame} {meth : Method} {c : Code} {b L : Nat} {xs : Nat → Int32} {cI cZ cN : ClassId} {D : va_G} {ad : Int → Nat → Nat} {M : jM} {H : Heap} {locs : List Loc} {ls : Array Slot} {Z : State → Prop} {cells slots : Nat}
/-- method y of the object g, called by the law -/
theorem lw_call {y i pc d : Nat} {g : Int} {as : List jV} {rest : List Value} {Q : Int → jM → Prop} (hC : lwC p s m meth c b L xs cI cZ cN D) (hW : lwW cI cZ cN D s ad M H locs) (hc : jCallP d y (.inr (g, 0) :: as) M Q) (hy : y < 182) (hlink : Jvm.Cond.methodLink RL i (jmt y).1 ∈ wsL_law)
    (hn : as.length = (jh y).1) (hst : (jh y).2.1 = 0) (hg : jCl g = (jh y).2.2) (hg11 : (jh y).2.2 < 11) (hra : ∀ v ∈ as, jRV v) (hr8 : (rest.map fun v => v.category).sum ≤ 8) (hni : (jmt y).2.2.2.1.isNone = false) (hd : d ≤ 100) (hdg : decode code pc = .ok (.invokevirtual i, 3)) (hsz : ls.size = 4) (hf : cells ≤ 600000 ∧ slots ≤ 7302250)
    (k : ∀ (v : Int) M1 H1 locs1, jwr v = v → Q v M1 → lwW cI cZ cN D s ad M1 H1 locs1 → W p l e room_1 s m #[Value.ref b] below meth c H1 locs1 cells slots Z (F0 m (pc + 3) ls (.int (jI v) :: rest))) :
    W p l e room_1 s m #[Value.ref b] below meth c H locs cells slots Z (F0 m pc ls ((as.map (jrv ad)).reverse ++ .ref (ad g 0) :: rest)) := by
  obtain ⟨⟨hx, hb, hml, hown, hts, hN⟩, hr, hlk, hX, hbl, hL, hK⟩ := hC
  obtain ⟨hRM, hP, hD, hS⟩ := hW
  obtain ⟨h1, h2, h3, h5, h6⟩ := jhok_sp hy
  rw [hst] at h3
  obtain ⟨h3, h7⟩ := h3
  have hM := hc Q (fun _ _ q => q) (jRVs_cons (jRV_r _) hra) hRM l cI cZ cN D ad H.size
  have hCB : CallB room_1 s #[Value.ref b] RL i (jmt y).1 (jmt y).2.1 (jmt y).2.2.1 (jmt y).2.2.2.1 (jws y) (jRoom d) 0 0 (jh y).1 := by
    refine callB_of (Ts := wsL_law) (ws' := wsL_law) _ hts (jws_good hy) rfl rfl rfl (hts _ h2) (hts _ hlink) h5 ⟨?_, ?_⟩
    · show d + 2 + 1 ≤ 2048
      omega
    · show 8 + ((jmt y).2.2.1 + 11) + (64 * d + 128) ≤ 84000
      omega
  have hpre : FrameBlind (va_Pc ((.inr (g, 0) :: as : List jV).map (jrv ad)) (jPc cI cZ cN D ad M H.size)) ∧ ∀ U : State, U.heap = H → s.WarmedH U.vm → va_Pc ((.inr (g, 0) :: as : List jV).map (jrv ad)) (jPc cI cZ cN D ad M H.size) ((.inr (g, 0) :: as : List jV).map (jrv ad)).toArray U := by
    refine ⟨fun a U g mk q => ?_, fun U hU hWm => ⟨rfl, by rw [hU], by rw [hU]; exact hP, va_K.moved hWm.alike hK, hD.weaken (fun _ _ _ _ => trivial)⟩⟩
    obtain ⟨q0, q1, qP, qK, qD⟩ := q
    exact ⟨q0, q1, qP, va_K.moved (u := U) (U := U.calling g mk a) (Vm.Alike.refl U.vm) qK, qD⟩
  have hc99 : jCl g ≠ 99 := by
    rw [hg]
    omega
  obtain ⟨q0, -, he⟩ := jW_get (jCl_mem hc99) cI cZ cN ad M
  have he' : (jW cI cZ cN ad M)[q0]? = some (ad g 0, .inr (jCl g, jFl ad M g)) := by
    rw [he]
    unfold jCe
    rw [if_pos rfl]
  have hrecv : ∃ cell : Cell, H[ad g 0]? = some cell ∧ cell.vm.isStatics = false ∧ s.vm.findClass (jmt y).1.cls = some cell.cls := by
    have hq := (jcl_ok (jCl g) (by rw [hg]; exact hg11)).1
    have h9 := va_recv hK hP hq he'
    rw [hg, ← jhc hy] at h9
    exact h9
  have hrun := va_runV (e := e) (below := below) (locs := locs) (meth := meth) (C := (jmt y).1.cls) (own := RL) (nL := 4) (Ts := wsL_law) (As := as.map (jrv ad)) (b := ad g 0) (rest := rest) (cells := cells) (slots := slots) ⟨hx, hb, hml, hown, hts⟩ hM ⟨hCB, hts _ h3, hts _ h7⟩ ⟨hpre.1, hrecv, hpre.2⟩ rfl (by rw [List.length_map]; exact hn) hsz rfl (lv_room hr8) hdg ⟨hf.1, hf.2⟩
  unfold jQc at hrun
  rw [hni] at hrun
  have hmono : ∀ q, jA ad H.size q → s.heap.size ≤ q := by
    rintro q (⟨x, hx9, rfl⟩ | hq)
    · exact lw_in hD hx9
    · exact Nat.le_trans hS.1 hq
  refine va_calli (a := (Value.ref (ad g 0) :: as.map (jrv ad)).toArray) hrun hS (fun q _ h => hmono q h) hmono (fun x u t H1 locs1 ht hvm hw hB hz1 hk1 hS1 => ?_)
  obtain ⟨hR1, hP1, hK1, hD1⟩ := hB
  rw [ht] at hP1
  have := k x.toInt u H1 locs1 (jwr_to x) hw ⟨hR1, hP1, lw_D hD hD1, hS1⟩
  rw [jI_to] at this
  exact this
/-- one number of the script -/
theorem lw_num {i k n : Nat} (hC : lwC p s m meth c b L xs cI cZ cN D) (hW : va_S (fun q : Nat => s.heap.size ≤ q) s.heap H locs) {rest : List Value} {pc : Nat} (hi : i + k < L) (d4 : decode code (pc + n) = .ok (.iadd, 1)) (d5 : decode code (pc + n + 1) = .ok (.iaload, 1))
    (kk : W p l e room_1 s m #[Value.ref b] below meth c H locs cells slots Z (F0 m (pc + n + 2) ls (.int (xs (i + k)) :: rest))) : W p l e room_1 s m #[Value.ref b] below meth c H locs cells slots Z (F0 m (pc + n) ls (.int (nI k) :: .int (nI i) :: .ref b :: rest)) := by
  obtain ⟨⟨hx, hb, hml, hown, hts, hN⟩, hr, hlk, hX, hbl, hL, hK⟩ := hC
  refine lv_iadd hx hb d4 ?_
  rw [nI_add]
  refine va_sld hx hb hX hbl (Nat.not_le.mpr hbl) hW (vp_in_nI hi (by omega)) d5 ?_
  rw [nI_clamp (by omega)]
  exact kk
def lwN (pc k : Nat) : Prop := decode code pc = .ok (.aload_n 0, 1) ∧ decode code (pc + 1) = .ok (.iload_n 3, 1) ∧ decode code (pc + 2) = .ok (.iconst (k : Int), 1) ∧ decode code (pc + 3) = .ok (.iadd, 1) ∧ decode code (pc + 4) = .ok (.iaload, 1)
abbrev lwL (b : Nat) (ad : Int → Nat → Nat) (i : Nat) : List (Nat × Value) := [(0, .ref b), (1, .ref (ad 18 0)), (2, .ref (ad 28 0)), (3, .int (nI i))]
theorem lw_arg {i k pc : Nat} {rest : List Value} (hC : lwC p s m meth c b L xs cI cZ cN D) (hW : va_S (fun q : Nat => s.heap.size ≤ q) s.heap H locs) (hl : lv_has ls 4 (lwL b ad i)) (hi : i + k < L) (hd : lwN pc k) 
    (kk : W p l e room_1 s m #[Value.ref b] below meth c H locs cells slots Z (F0 m (pc + 5) ls (.int (xs (i + k)) :: rest))) : W p l e room_1 s m #[Value.ref b] below meth c H locs cells slots Z (F0 m pc ls rest) := by
  obtain ⟨hx, hb, -⟩ := id hC.1
  obtain ⟨d1, d2, d3, d4, d5⟩ := hd
  refine lv_aload_n hx hb d1 rfl (lv_at hl 0 rfl) ?_
  refine lv_iload_n hx hb d2 rfl (lv_at hl 3 rfl) ?_
  refine lv_iconst (v := nI k) hx hb d3 (jI_nat (by have := hC.2.2.2.2.2.1; omega)) ?_
  exact lw_num (n := 3) hC hW hi d4 d5 kk
/-- the numbers 1 to n of a row of the script, laid on the stack -/
def lwPush (p : Program) (l : Launch) (e : Env) (s : State) (m : MethodId) (below : List Frame) (meth : Method) (c : Code) (b : Nat) (ls : Array Slot) (Z : State → Prop) (cells slots pc pc' : Nat) (as : List Int) : Prop :=
  ∀ (H : Heap) (locs : List Loc) (rest : List Value), va_S (fun q : Nat => s.heap.size ≤ q) s.heap H locs → W p l e room_1 s m #[Value.ref b] below meth c H locs cells slots Z (F0 m pc' ls ((as.map (fun z => Value.int (jI z))).reverse ++ rest)) → W p l e room_1 s m #[Value.ref b] below meth c H locs cells slots Z (F0 m pc ls rest)
def lwZs (xs : Nat → Int32) (i n : Nat) : List Int := (List.range n).map fun j => (xs (i + (j + 1))).toInt
theorem lw_push {i pc : Nat} (hC : lwC p s m meth c b L xs cI cZ cN D) (hl : lv_has ls 4 (lwL b ad i)) : ∀ n : Nat, i + n < L → (∀ j, j < n → lwN (pc + 5 * j) (j + 1)) → lwPush p l e s m below meth c b ls Z cells slots pc (pc + 5 * n) (lwZs xs i n)
  | 0, _, _ => fun H locs rest _ k => k
  | n + 1, hi, hd => fun H locs rest hS k => by
    refine lw_push hC hl n (by omega) (fun j hj => hd j (by omega)) H locs rest hS ?_
    refine lw_arg (ad := ad) (k := n + 1) hC hS hl hi (hd n (by omega)) ?_
    have e1 : ((lwZs xs i (n + 1)).map (fun z => Value.int (jI z))).reverse ++ rest = .int (xs (i + (n + 1))) :: (((lwZs xs i n).map (fun z => Value.int (jI z))).reverse ++ rest) := by
      unfold lwZs
      rw [List.range_succ, List.map_append, List.map_append, List.reverse_append]
      simp only [List.map_cons, List.map_nil, List.reverse_cons, List.reverse_nil, List.nil_append, List.cons_append, jI_to]
    rw [e1] at k
    exact k
/-- a method's number, its link and its face -/
def lwM (y i n : Nat) (ci : Nat) : Prop := y < 182 ∧ Jvm.Cond.methodLink RL i (jmt y).1 ∈ wsL_law ∧ n = (jh y).1 ∧ (jh y).2.1 = 0 ∧ ci = (jh y).2.2 ∧ (jmt y).2.2.2.1.isNone = false
/-- one row of the script: the two answers are one -/
theorem lw_case {i y9 y10 i9 i10 d9 d10 n pc pc1 pc2 : Nat} {off : Int} {as : List Int} (hC : lwC p s m meth c b L xs cI cZ cN D) (hW : lwW cI cZ cN D s ad M H locs) (hl : lv_has ls 4 (lwL b ad i)) (hst : jStp d9 y9 d10 y10 (as.map Sum.inl) M) (hf : cells ≤ 600000 ∧ slots ≤ 7302250)
    (h9 : lwM y9 i9 n 9) (h10 : lwM y10 i10 n 10) (hn : as.length = n) (hd9 : d9 ≤ 100) (hd10 : d10 ≤ 100) (ha : ∀ z ∈ as, jwr z = z)
    (D1 : decode code pc = .ok (.aload_n 1, 1)) (A1 : lwPush p l e s m below meth c b ls Z cells slots (pc + 1) pc1 as) (D2 : decode code pc1 = .ok (.invokevirtual i9, 3)) (D3 : decode code (pc1 + 3) = .ok (.aload_n 2, 1)) (A2 : lwPush p l e s m below meth c b ls Z cells slots (pc1 + 4) pc2 as) (D4 : decode code pc2 = .ok (.invokevirtual i10, 3)) (D5 : decode code (pc2 + 3) = .ok (.if_icmp .eq off, 3)) (D6 : ((pc2 + 3 : Nat) : Int) + off = ((1209 : Nat) : Int))
    (k : ∀ M2 H2 locs2, Inv M2 → rel M2 M2 → lwW cI cZ cN D s ad M2 H2 locs2 → W p l e room_1 s m #[Value.ref b] below meth c H2 locs2 cells slots Z (F0 m 1209 ls [])) :
    W p l e room_1 s m #[Value.ref b] below meth c H locs cells slots Z (F0 m pc ls []) := by
  obtain ⟨hx, hb, -⟩ := id hC.1
  obtain ⟨a1, a2, a3, a4, a5, a6⟩ := h9
  obtain ⟨b1, b2, b3, b4, b5, b6⟩ := h10
  have hra : ∀ v ∈ as.map (Sum.inl : Int → jV), jRV v := fun v hv => by
    obtain ⟨z, hz, rfl⟩ := List.mem_map.mp hv
    exact jRV_i (ha z hz)
  have hmap : (as.map (Sum.inl : Int → jV)).map (jrv ad) = as.map (fun z => Value.int (jI z)) := by
    rw [List.map_map]
    rfl
  refine lv_aload_n hx hb D1 rfl (lv_at hl 1 rfl) ?_
  refine A1 _ _ _ hW.2.2.2 ?_
  rw [← hmap]
  refine lw_call (d := d9) (y := y9) (g := 18) hC hW hst a1 a2 (by rw [List.length_map, hn, a3]) a4 (by rw [← a5]; rfl) (by rw [← a5]; decide) hra (Nat.le_of_ble_eq_true rfl) a6 hd9 D2 hl.1 hf (fun v M1 H1 locs1 hv hq hW1 => ?_)
  refine lv_aload_n hx hb D3 rfl (lv_at hl 2 rfl) ?_
  refine A2 _ _ _ hW1.2.2.2 ?_
  rw [← hmap]
  refine lw_call (d := d10) (y := y10) (g := 28) hC hW1 hq b1 b2 (by rw [List.length_map, hn, b3]) b4 (by rw [← b5]; rfl) (by rw [← b5]; decide) hra (Nat.le_of_ble_eq_true rfl) b6 hd10 D4 hl.1 hf (fun v2 M2 H2 locs2 hv2 hq2 hW2 => ?_)
  obtain ⟨rfl, hI2, hR2⟩ := hq2
  refine lv_icmp_eq (tgt := 1209) hx hb D5 D6 (fun _ => k M2 H2 locs2 hI2 hR2 hW2) (fun h => absurd rfl h)
end LAW
