theorem jct_if {cc : Jvm.ClassFile.Cond} {a b : Int} (ha : jwr a = a) (hb : jwr b = b) : (match cc with | .eq => jI a = jI b | .ne => ¬ jI a = jI b | .lt => jI a < jI b | .ge => jI b ≤ jI a | .gt => jI b < jI a | .le => jI a ≤ jI b) → jct cc a b := by
  cases cc <;> simp only [jct, jI_eq ha hb, jI_lt ha hb, jI_lt hb ha, jI_le ha hb, jI_le hb ha] <;> exact id
theorem jcf_if {cc : Jvm.ClassFile.Cond} {a b : Int} (ha : jwr a = a) (hb : jwr b = b) : ¬ (match cc with | .eq => jI a = jI b | .ne => ¬ jI a = jI b | .lt => jI a < jI b | .ge => jI b ≤ jI a | .gt => jI b < jI a | .le => jI a ≤ jI b) → jcf cc a b := by
  cases cc <;> simp only [jcf, jI_eq ha hb, jI_lt ha hb, jI_lt hb ha, jI_le ha hb, jI_le hb ha] <;> omega
theorem jh_lt : (List.range 182).all (fun z => Nat.blt (jh z).2.2 12) = true := by decide +kernel
theorem jhok_sp {z : Nat} (h : z < 182) : Jvm.Cond.code (jmt z).1 (jmt z).2.1 (jmt z).2.2.1 (jmt z).2.2.2.1 ∈ wsL_law ∧ Jvm.Cond.initialized (jmt z).1.cls ∈ wsL_law ∧ (bif (jh z).2.1 == 1 then Jvm.Cond.static (jmt z).1 ∈ wsL_law else Jvm.Cond.instanceMethod (jmt z).1 ∈ wsL_law ∧ Jvm.Cond.selects (jmt z).1.cls (jmt z).1 (jmt z).1 ∈ wsL_law) ∧
    ((jmt z).1.cls ≠ "java/lang/invoke/MethodHandle" ∧ (jmt z).1.cls ≠ "java/lang/invoke/VarHandle" ∧ (parseMethodDescriptor (jmt z).1.desc).map (fun d => d.parameters.length) = some (jh z).1) ∧ (jmt z).2.2.1 ≤ 40 := by
  obtain ⟨h0, h1, h2, h3, h4, h5⟩ := jhp_all z (List.mem_range.mpr h)
  have hc := jcn_plain (jh z).2.2 (Nat.le_of_ble_eq_true (List.all_eq_true.mp jh_lt z (List.mem_range.mpr h)))
  rw [← h0] at hc
  exact ⟨h1, h2, h3, ⟨hc.2.1, hc.2.2, h4⟩, Nat.le_of_ble_eq_true h5⟩
theorem jh_plain {z : Nat} (h : z < 182) : plainName (jmt z).1.cls = true := by
  rw [jhc h]
  exact (jcn_plain (jh z).2.2 (Nat.le_of_ble_eq_true (List.all_eq_true.mp jh_lt z (List.mem_range.mpr h)))).1
theorem jws_good {z : Nat} (h : z < 182) : GoodIn wsL_law (jws z) := by
  intro w hw
  unfold jws at hw
  rcases List.mem_cons.mp hw with rfl | hw
  · exact wsL_good _ (jhok_sp h).1
  · exact wsL_good _ hw
section STEP2
variable {p : Program} {l : Launch} {e : Env} {s : State} {m : MethodId} {args : Array Value} {below : List Frame} {meth : Method} {c : Code} {cI cZ cN : ClassId} {D : va_G} {ad : Int → Nat → Nat} {H : Heap} {locs : List Loc} {lsA : Array Slot} {d y pc : Nat} {ls : List (Option jV)} {st r : List jV} {M : jM} {Q : Int → jM → Prop} {Z : State → Prop}
theorem js_callB {d' z i w : Nat} (hC : jCx y p s m args meth c cI cZ cN D) (hd : d' < d) (hz : z < 182) (hyl : y < 182) (hw : jmes[w]? = some ((jh y).2.2, i, z)) :
    CallB (jRoom d) s args (jmt y).1.cls i (jmt z).1 (jmt z).2.1 (jmt z).2.2.1 (jmt z).2.2.2.1 (jws z) (jRoom d') 0 0 (jh z).1 := by
  obtain ⟨hx, hb, hr, hlk, hml, hown, hts, hK⟩ := hC
  have hts' : ∀ w ∈ wsL_law, w.before args s = true := fun w hw => hts w (List.mem_cons_of_mem _ hw)
  obtain ⟨h1, h2, h3, h5, h6⟩ := jhok_sp hz
  have hlink := jm__all _ (List.mem_of_getElem? hw)
  unfold jmP at hlink
  dsimp only at hlink
  rw [← jhc hyl] at hlink
  refine callB_of (Ts := wsL_law) (ws' := wsL_law) _ hts' (jws_good hz) rfl rfl rfl (hts' _ h2) (hts' _ hlink) h5 ⟨?_, ?_⟩
  · show d' + 2 + 1 ≤ d + 2
    omega
  · show 8 + ((jmt z).2.2.1 + 11) + (64 * d' + 128) ≤ 64 * d + 128
    omega
theorem jcat_le {r : List jV} (h : Nat.ble r.length 8 = true) : ((r.map (jrv ad)).map fun v => v.category).sum ≤ 8 := by
  have h1 : ((r.map (jrv ad)).map fun v => v.category).sum = r.length := by
    induction r with
    | nil => rfl
    | cons a r ih =>
      simp only [List.map_cons, List.sum_cons, jrv_cat, List.length_cons]
      rw [ih]
      · omega
      · have := Nat.le_of_ble_eq_true h
        simp only [List.length_cons] at this
        exact Nat.ble_eq.mpr (by omega)
  rw [h1]
  exact Nat.le_of_ble_eq_true h
/-- behind a call -/
theorem js_back {z : Nat} {Q2 : Int → jM → Prop} {as : Array Value} {rest : List jV} (hC : jCx y p s m args meth c cI cZ cN D) (hW : jWd M s H locs cI cZ cN D ad) {g0 : List Value}
    (hrun : va_Run p l e (jRoom d) s m args below meth c H locs 0 0 0 0 (F0 m pc lsA g0) (rest.map (jrv ad)) (jQc z cI cZ cN D ad Q2 H.size as) (jA ad H.size))
    (kv : (jmt z).2.2.2.1.isNone = true → ∀ M1 H1 locs1, Q2 0 M1 → jWd M1 s H1 locs1 cI cZ cN D ad → W p l e (jRoom d) s m args below meth c H1 locs1 0 0 Z (F0 m (pc + 3) lsA (rest.map (jrv ad))))
    (ki : (jmt z).2.2.2.1.isNone = false → ∀ (v : Int) M1 H1 locs1, jwr v = v → Q2 v M1 → jWd M1 s H1 locs1 cI cZ cN D ad → W p l e (jRoom d) s m args below meth c H1 locs1 0 0 Z (F0 m (pc + 3) lsA (.int (jI v) :: rest.map (jrv ad)))) :
    W p l e (jRoom d) s m args below meth c H locs 0 0 Z (F0 m pc lsA g0) := by
  obtain ⟨hRM, hP, hD, hS⟩ := hW
  have hmono : ∀ q, jA ad H.size q → jA ad s.heap.size q := fun q hq => jA_mono hS.1 q hq
  unfold jQc at hrun
  cases hn : (jmt z).2.2.2.1.isNone with
  | true =>
    rw [hn] at hrun
    refine va_callv (a := as) hrun hS (fun q _ h => hmono q h) hmono (fun u t H1 locs1 ht hvm hw hB hz1 hk1 hS1 => ?_)
    obtain ⟨hR1, hP1, hK1, hD1⟩ := hB
    rw [ht] at hP1
    exact kv hn u H1 locs1 hw ⟨hR1, hP1, jW_D _ hD1, hS1⟩
  | false =>
    rw [hn] at hrun
    refine va_calli (a := as) hrun hS (fun q _ h => hmono q h) hmono (fun x u t H1 locs1 ht hvm hw hB hz1 hk1 hS1 => ?_)
    obtain ⟨hR1, hP1, hK1, hD1⟩ := hB
    rw [ht] at hP1
    have := ki hn x.toInt u H1 locs1 (jwr_to x) hw ⟨hR1, hP1, jW_D _ hD1, hS1⟩
    rw [jI_to] at this
    exact this
theorem js_pre {as : List jV} (hW : jWd M s H locs cI cZ cN D ad) (hK : va_K D vwCl (jTy cI cZ cN) s) : FrameBlind (va_Pc (as.map (jrv ad)) (jPc cI cZ cN D ad M H.size)) ∧ ∀ U : State, U.heap = H → s.WarmedH U.vm → va_Pc (as.map (jrv ad)) (jPc cI cZ cN D ad M H.size) (as.map (jrv ad)).toArray U := by
  obtain ⟨hRM, hP, hD, hS⟩ := hW
  refine ⟨fun a U g mk q => ?_, fun U hU hWm => ⟨rfl, by rw [hU], by rw [hU]; exact hP, va_K.moved hWm.alike hK, hD.weaken (fun _ _ _ _ => trivial)⟩⟩
  obtain ⟨q0, q1, qP, qK, qD⟩ := q
  exact ⟨q0, q1, qP, va_K.moved (u := U) (U := U.calling g mk a) (Vm.Alike.refl U.vm) qK, qD⟩
theorem js_callV {z i w : Nat} {rest : List jV} {g : Int} {as : List jV} {Q2 : Int → jM → Prop} (hC : jCx y p s m args meth c cI cZ cN D) (hW : jWd M s H locs cI cZ cN D ad) (hL : jLs ad lsA (jmt y).2.2.1 ls) (hd : decode (jmt y).2.1 pc = .ok (.invokevirtual i, 3)) (hz : z < 182) (hyl : y < 182) (hw : jmes[w]? = some ((jh y).2.2, i, z))
    (hn : as.length = (jh z).1) (hst : (jh z).2.1 = 0) (hg : jCl g = (jh z).2.2) (hg11 : (jh z).2.2 < 11) (hra : ∀ v ∈ as, jRV v) (hr8 : Nat.ble rest.length 8 = true)
    (hcall : jCall d z (.inr (g, 0) :: as) M Q2)
    (kv : (jmt z).2.2.2.1.isNone = true → ∀ M1 H1 locs1, Q2 0 M1 → jWd M1 s H1 locs1 cI cZ cN D ad → W p l e (jRoom d) s m args below meth c H1 locs1 0 0 Z (F0 m (pc + 3) lsA (rest.map (jrv ad))))
    (ki : (jmt z).2.2.2.1.isNone = false → ∀ (v : Int) M1 H1 locs1, jwr v = v → Q2 v M1 → jWd M1 s H1 locs1 cI cZ cN D ad → W p l e (jRoom d) s m args below meth c H1 locs1 0 0 Z (F0 m (pc + 3) lsA (.int (jI v) :: rest.map (jrv ad)))) :
    W p l e (jRoom d) s m args below meth c H locs 0 0 Z (F0 m pc lsA ((as.map (jrv ad)).reverse ++ .ref (ad g 0) :: rest.map (jrv ad))) := by
  obtain ⟨d', hd', hcall⟩ := hcall
  have hCB := js_callB (d := d) hC hd' hz hyl hw
  obtain ⟨hx, hb, hr, hlk, hml, hown, hts, hK⟩ := id hC
  have hts' : ∀ w ∈ wsL_law, w.before args s = true := fun w hw => hts w (List.mem_cons_of_mem _ hw)
  obtain ⟨h1, h2, h3, h5, h6⟩ := jhok_sp hz
  rw [hst] at h3
  obtain ⟨h3, h7⟩ := h3
  have hM := hcall Q2 (fun _ _ q => q) (jRVs_cons (jRV_r _) hra) hW.1 l cI cZ cN D ad H.size
  have hpre := js_pre (as := .inr (g, 0) :: as) hW hK
  have hc99 : jCl g ≠ 99 := by
    rw [hg]
    omega
  obtain ⟨q0, -, he⟩ := jW_get (jCl_mem hc99) cI cZ cN ad M
  have he' : (jW cI cZ cN ad M)[q0]? = some (ad g 0, .inr (jCl g, jFl ad M g)) := by
    rw [he]
    unfold jCe
    rw [if_pos rfl]
  have hrecv : ∃ cell : Cell, H[ad g 0]? = some cell ∧ cell.vm.isStatics = false ∧ s.vm.findClass (jmt z).1.cls = some cell.cls := by
    have hq := (jcl_ok (jCl g) (by rw [hg]; exact hg11)).1
    have h9 := va_recv hK hW.2.1 hq he'
    rw [hg, ← jhc hz] at h9
    exact h9
  refine js_back hC hW (va_runV (C := (jmt z).1.cls) (own := (jmt y).1.cls) (nL := (jmt y).2.2.1) (Ts := wsL_law) (As := as.map (jrv ad)) (b := ad g 0) (rest := rest.map (jrv ad)) ⟨hx, hb, hml, hown, hts'⟩ hM ⟨hCB, hts' _ h3, hts' _ h7⟩ ⟨hpre.1, hrecv, hpre.2⟩ rfl (by rw [List.length_map]; exact hn) hL.2.1 rfl (lv_room (jcat_le hr8)) hd ⟨Nat.zero_le _, Nat.zero_le _⟩) kv ki
theorem js_callS {z i w : Nat} {rest : List jV} {as : List jV} {Q2 : Int → jM → Prop} (hC : jCx y p s m args meth c cI cZ cN D) (hW : jWd M s H locs cI cZ cN D ad) (hL : jLs ad lsA (jmt y).2.2.1 ls) (hd : decode (jmt y).2.1 pc = .ok (.invokestatic i, 3)) (hz : z < 182) (hyl : y < 182) (hw : jmes[w]? = some ((jh y).2.2, i, z))
    (hn : as.length = (jh z).1) (hst : (jh z).2.1 = 1) (hra : ∀ v ∈ as, jRV v) (hr8 : Nat.ble rest.length 8 = true)
    (hcall : jCall d z as M Q2)
    (kv : (jmt z).2.2.2.1.isNone = true → ∀ M1 H1 locs1, Q2 0 M1 → jWd M1 s H1 locs1 cI cZ cN D ad → W p l e (jRoom d) s m args below meth c H1 locs1 0 0 Z (F0 m (pc + 3) lsA (rest.map (jrv ad))))
    (ki : (jmt z).2.2.2.1.isNone = false → ∀ (v : Int) M1 H1 locs1, jwr v = v → Q2 v M1 → jWd M1 s H1 locs1 cI cZ cN D ad → W p l e (jRoom d) s m args below meth c H1 locs1 0 0 Z (F0 m (pc + 3) lsA (.int (jI v) :: rest.map (jrv ad)))) :
    W p l e (jRoom d) s m args below meth c H locs 0 0 Z (F0 m pc lsA ((as.map (jrv ad)).reverse ++ rest.map (jrv ad))) := by
  obtain ⟨d', hd', hcall⟩ := hcall
  have hCB := js_callB (d := d) hC hd' hz hyl hw
  obtain ⟨hx, hb, hr, hlk, hml, hown, hts, hK⟩ := id hC
  have hts' : ∀ w ∈ wsL_law, w.before args s = true := fun w hw => hts w (List.mem_cons_of_mem _ hw)
  obtain ⟨h1, h2, h3, h5, h6⟩ := jhok_sp hz
  rw [hst] at h3
  replace h3 : Jvm.Cond.static (jmt z).1 ∈ wsL_law := h3
  have hM := hcall Q2 (fun _ _ q => q) hra hW.1 l cI cZ cN D ad H.size
  have hpre := js_pre (as := as) hW hK
  refine js_back hC hW (va_runS (own := (jmt y).1.cls) (nL := (jmt y).2.2.1) (Ts := wsL_law) (As := as.map (jrv ad)) (rest := rest.map (jrv ad)) ⟨hx, hb, hml, hown, hts'⟩ hM ⟨hCB, hts' _ h3⟩ hpre rfl (by rw [List.length_map]; exact hn) hL.2.1 rfl (lv_room (jcat_le hr8)) hd ⟨Nat.zero_le _, Nat.zero_le _⟩) kv ki
end STEP2
