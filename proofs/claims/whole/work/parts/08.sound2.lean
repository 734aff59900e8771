set_option maxRecDepth 100000 in
theorem jw_good : jwc.all (fun c => c.all goodWord) = true := by decide +kernel
theorem jU_good : jwU.all (fun c => c.all goodWord) = true := by decide +kernel
theorem wsL_good : GoodIn wsL_law wsL_law := by
  intro w hw
  refine ⟨hw, good_of_word ?_⟩
  rw [wsL_eq] at hw
  rcases List.mem_append.mp hw with h | h
  · obtain ⟨c, hc, hw⟩ := List.mem_flatten.mp h
    exact List.all_eq_true.mp (List.all_eq_true.mp jw_good c hc) w hw
  · obtain ⟨c, hc, hw⟩ := List.mem_flatten.mp h
    exact List.all_eq_true.mp (List.all_eq_true.mp jU_good c hc) w hw
/-- what the tables say of each class -/
theorem wsU_sub {c : List Jvm.Cond} (hc : c ∈ jwU) : ∀ w ∈ c, w ∈ wsL_law := by
  intro w hw
  rw [wsL_eq]
  exact List.mem_append_right _ (List.mem_flatten.mpr ⟨c, hc, hw⟩)
def jN (ci : Nat) : Nat := (jft.getD ci []).length
def jclOK (ci : Nat) : Prop := vwCl[ci]? = some (jcn ci, jT_ ci, jN ci) ∧ (∀ w ∈ u_ws (jcn ci) (jT_ ci) (jN ci), w ∈ wsL_law) ∧ (∃ ty : Nat → FieldType, ∀ k, k < jN ci → parseFieldDescriptor (jT_ ci k).2.2.1 = some (ty k)) ∧ (∀ a, a < jN ci → ∀ b, b < jN ci → a ≠ b → (jT_ ci a).2.1 ≠ (jT_ ci b).2.1)
theorem jcl_ok (ci : Nat) (h : ci < 11) : jclOK ci := by
  match ci, h with
  | 0, _ => exact ⟨rfl, wsU_sub (c := wsX00) (List.mem_of_getElem? (i := 3) rfl), ⟨tyX0, tyX0_ok⟩, nmX0⟩
  | 1, _ => exact ⟨rfl, wsU_sub (c := wsX10) (List.mem_of_getElem? (i := 7) rfl), ⟨tyX1, tyX1_ok⟩, nmX1⟩
  | 2, _ => exact ⟨rfl, wsU_sub (c := wsX20) (List.mem_of_getElem? (i := 5) rfl), ⟨tyX2, tyX2_ok⟩, nmX2⟩
  | 3, _ => exact ⟨rfl, wsU_sub (c := wsX30) (List.mem_of_getElem? (i := 2) rfl), ⟨tyX3, tyX3_ok⟩, nmX3⟩
  | 4, _ => exact ⟨rfl, wsU_sub (c := wsX40) (List.mem_of_getElem? (i := 6) rfl), ⟨tyX4, tyX4_ok⟩, nmX4⟩
  | 5, _ => exact ⟨rfl, wsU_sub (c := wsX50) (List.mem_of_getElem? (i := 4) rfl), ⟨tyX5, tyX5_ok⟩, nmX5⟩
  | 6, _ => exact ⟨rfl, wsU_sub (c := wsX60) (List.mem_of_getElem? (i := 9) rfl), ⟨tyX6, tyX6_ok⟩, nmX6⟩
  | 7, _ => exact ⟨rfl, wsU_sub (c := wsX70) (List.mem_of_getElem? (i := 10) rfl), ⟨tyX7, tyX7_ok⟩, nmX7⟩
  | 8, _ => exact ⟨rfl, wsU_sub (c := wsX80) (List.mem_of_getElem? (i := 8) rfl), ⟨tyX8, tyX8_ok⟩, nmX8⟩
  | 9, _ => exact ⟨rfl, wsU_sub (c := wsX90) (List.mem_of_getElem? (i := 0) rfl), ⟨tyX9, tyX9_ok⟩, nmX9⟩
  | 10, _ => exact ⟨rfl, wsU_sub (c := wsX100) (List.mem_of_getElem? (i := 1) rfl), ⟨tyX10, tyX10_ok⟩, nmX10⟩
  | n + 11, h => omega
def jpfB (ci : Nat) : Bool := (List.range (jN ci)).all fun s => ((jft.getD ci []).getD s 9 == 1) || (decide ((jT_ ci s).2.2.2 = false) && decide (parseFieldDescriptor (jT_ ci s).2.2.1 = some (jtyt ((jft.getD ci []).getD s 9))))
theorem jpf_ok : (List.range 11).all jpfB = true := by decide +kernel
theorem jpf_at {ci s t : Nat} (hc : ci < 11) (h : (jft.getD ci [])[s]? = some t) (ht : t ≠ 1) : (jT_ ci s).2.2.2 = false ∧ parseFieldDescriptor (jT_ ci s).2.2.1 = some (jtyt t) := by
  have h1 := List.all_eq_true.mp jpf_ok ci (List.mem_range.mpr hc)
  unfold jpfB at h1
  have hs : s < jN ci := (List.getElem?_eq_some_iff.mp h).1
  have h2 := List.all_eq_true.mp h1 s (List.mem_range.mpr hs)
  have e : (jft.getD ci []).getD s 9 = t := by
    rw [List.getD_eq_getElem?_getD, h]
    rfl
  rw [e] at h2
  rw [show (t == 1) = false from by simpa using ht, Bool.false_or] at h2
  have h3 := Bool.and_eq_true_iff.mp h2
  exact ⟨of_decide_eq_true h3.1, of_decide_eq_true h3.2⟩
/-! the small machine's stacks -/
theorem jb2_sp {st : List jV} {K : Int → Int → List jV → Prop} (h : jb2 st K) : ∃ a b r, st = .inl b :: .inl a :: r ∧ K a b r := by
  unfold jb2 at h
  split at h
  · exact ⟨_, _, _, rfl, h⟩
  · exact h.elim
theorem jb1_sp {st : List jV} {K : Int → List jV → Prop} (h : jb1 st K) : ∃ a r, st = .inl a :: r ∧ K a r := by
  unfold jb1 at h
  split at h
  · exact ⟨_, _, rfl, h⟩
  · exact h.elim
theorem jbr_sp {st : List jV} {K : Int → Nat → List jV → Prop} (h : jbr st K) : ∃ q r, st = .inr q :: r ∧ K q.1 q.2 r := by
  unfold jbr at h
  split at h
  · exact ⟨_, _, rfl, h⟩
  · exact h.elim
theorem jldi_sp {ls : List (Option jV)} {i : Nat} {K : Int → Prop} (h : jldi ls i K) : ∃ z, ls.getD i none = some (.inl z) ∧ K z := by
  unfold jldi at h
  split at h
  · exact ⟨_, by assumption, h⟩
  · exact h.elim
theorem jldr_sp {ls : List (Option jV)} {i : Nat} {K : Int → Nat → Prop} (h : jldr ls i K) : ∃ q, ls.getD i none = some (.inr q) ∧ K q.1 q.2 := by
  unfold jldr at h
  split at h
  · exact ⟨_, by assumption, h⟩
  · exact h.elim
theorem jsw_sp {z : Int} {K : Int → Prop} : ∀ {os : List Int} {lo : Int}, jsw z lo os K → ∀ (j : Nat) (off : Int), os[j]? = some off → z = lo + j → K off
  | [], _, _, j, off, h, _ => by simp at h
  | o :: os, lo, hs, 0, off, h, he => by
    simp at h
    subst h
    exact hs.1 (by simpa using he)
  | o :: os, lo, hs, j + 1, off, h, he => by
    exact jsw_sp hs.2 j off (by simpa using h) (by rw [he]; push_cast; omega)
theorem jtg_of {pc : Nat} {off : Int} (h : 0 ≤ (pc : Int) + off) : (pc : Int) + off = (jtg pc off : Int) := by
  unfold jtg
  rw [Int.toNat_of_nonneg h]
theorem jA_mono {ad : Int → Nat → Nat} {a b : Nat} (h : a ≤ b) (q : Nat) (hq : jA ad b q) : jA ad a q := by
  rcases hq with hq | hq
  · exact Or.inl hq
  · exact Or.inr (Nat.le_trans h hq)
theorem jW_D {cI cZ cN : ClassId} {ad : Int → Nat → Nat} {M : jM} {A : Nat → Prop} (sz : Nat) (h : va_D A (jW cI cZ cN ad M)) : va_D (jA ad sz) (jW cI cZ cN ad M) := by
  refine ⟨h.1, fun k q hk => ?_⟩
  unfold jW at hk
  rw [List.getElem?_map] at hk
  cases hc : jCs[k]? with
  | none => rw [hc] at hk; cases hk
  | some c =>
    rw [hc] at hk
    cases hk
    exact Or.inl ⟨c, List.mem_of_getElem? hc, rfl⟩
/-- the locals at a method's start -/
def jini (y : Nat) (as : List jV) : List (Option jV) := as.map some ++ List.replicate ((jmt y).2.2.1 - as.length) none
theorem lv_args_at (ad : Int → Nat → Nat) : ∀ (as : List jV) (n i : Nat) (v : jV), as[i]? = some v → (n + i, jrv ad v) ∈ lv_args n (as.map (jrv ad))
  | [], n, i, v, h => by simp at h
  | a :: as, n, 0, v, h => by
    simp at h
    subst h
    exact List.mem_cons_self
  | a :: as, n, i + 1, v, h => by
    have h1 := lv_args_at ad as (n + 1) i v (by simpa using h)
    rw [show n + (i + 1) = n + 1 + i by omega]
    show _ ∈ (n, jrv ad a) :: lv_args (if (jrv ad a).category = 2 then n + 2 else n + 1) (as.map (jrv ad))
    rw [if_neg (by rw [jrv_cat]; decide)]
    exact List.mem_cons_of_mem _ h1
theorem lg_sl_len (ad : Int → Nat → Nat) (as : List jV) : (lg_sl (as.map (jrv ad))).length = as.length := by
  induction as with
  | nil => rfl
  | cons a as ih =>
    show ((if (jrv ad a).category = 2 then _ else _) ++ lg_sl (as.map (jrv ad))).length = _
    rw [if_neg (by rw [jrv_cat]; decide), List.length_append, ih]
    simp [Nat.add_comm]
set_option maxHeartbeats 4000000 in
/-- a method's contract out of the small machine's run from its start -/
theorem jCallP_of {d y : Nat} {as : List jV} {M : jM} {Q : Int → jM → Prop} (hlen : as.length ≤ (jmt y).2.2.1) (hpl : plainName (jmt y).1.cls = true) (h : jWP d y 0 (jini y as) [] M Q) : jCallP d y as M Q := by
  intro Q' hQ hRa hRM l cI cZ cN D ad sz
  refine Met.ofW (cc := (jmt y).2.1) (maxL := (jmt y).2.2.1) (ret := (jmt y).2.2.2.1) hpl rfl ?_
  intro p e s m args below meth c s₁ B hml hv
  obtain ⟨hargs, hsz, hP, hK, hD⟩ := hv
  have hx := B.exec
  have hb := B.bytes
  have hr := B.returns
  have hts := atoms_spec (ws := jws y) B.pre
  have hown : s.vm.findClass (jmt y).1.cls = some m.cls := findClass_of_methodNamed B.named
  have hlocks := B.notSynchronized
  subst hsz
  have hl := lv_entry (as.map (jrv ad)) (n := (jmt y).2.2.1) (by rw [lg_sl_len]; exact hlen)
  rw [hargs, lg_entry_eq, ← hargs]
  refine h Q' hQ p l e s m args below meth c cI cZ cN D ad s.heap [] _ ⟨hx, hb, hr, hlocks, hml, hown, hts, hK⟩ ⟨hRM, hP, jW_D _ hD, va_S.rf⟩ ⟨?_, hl.1, hl.2.1, fun i v hi => ?_⟩ (fun v hv => by cases hv)
  · unfold jini
    rw [List.length_append, List.length_map, List.length_replicate]
    omega
  · unfold jini at hi
    rw [List.getD_eq_getElem?_getD, List.getElem?_append] at hi
    split at hi
    · rw [List.getElem?_map] at hi
      cases hv : as[i]? with
      | none => rw [hv] at hi; cases hi
      | some w =>
        rw [hv] at hi
        cases hi
        refine ⟨hl.2.2 _ (by have := lv_args_at ad as 0 i _ hv; rwa [Nat.zero_add] at this), hRa _ (List.mem_of_getElem? hv)⟩
    · rw [List.getElem?_replicate] at hi
      split at hi <;> cases hi
