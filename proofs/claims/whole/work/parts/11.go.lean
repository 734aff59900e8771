theorem jdec {a : Prop} [Decidable a] {b : Bool} (h : (decide a && b) = true) : a ∧ b = true := ⟨of_decide_eq_true (jck_and h).1, (jck_and h).2⟩
theorem jblt {a b : Nat} (h : Nat.blt a b = true) : a < b := Nat.le_of_ble_eq_true h
theorem jtail {v : jV} {r : List jV} (h : ∀ w ∈ v :: r, jRV w) : ∀ w ∈ r, jRV w := fun w hw => h w (List.mem_cons_of_mem _ hw)
theorem jhead {z : Int} {r : List jV} (h : ∀ w ∈ (Sum.inl z : jV) :: r, jRV w) : jwr z = z := h _ List.mem_cons_self z rfl
set_option maxHeartbeats 8000000 in
set_option maxRecDepth 100000 in
/-- one step of the small machine is the machine's -/
theorem jstep {d y pc : Nat} (hyl : y < 182) {o : jO} {ls : List (Option jV)} {st : List jV} {M : jM} {Q : Int → jM → Prop} {K : jK} (hKK : ∀ pc' ls' st' M', K pc' ls' st' M' → jWP d y pc' ls' st' M' Q) (hk : jck y pc o = true) (h : jst (jCall d) Q o pc ls st M K) : jWP d y pc ls st M Q := by
  intro Q' hQ p l e s m args below meth c cI cZ cN D ad H locs lsA hC hW hL hSt
  have go : ∀ {pc' : Nat} {ls' : List (Option jV)} {st' : List jV} {M' : jM} {H' : Heap} {locs' : List Loc} {lsA' : Array Slot}, K pc' ls' st' M' → jWd M' s H' locs' cI cZ cN D ad → jLs ad lsA' (jmt y).2.2.1 ls' → (∀ v ∈ st', jRV v) →
      W p l e (jRoom d) s m args below meth c H' locs' 0 0 (MQ below (jQc y cI cZ cN D ad Q' s.heap.size) args s 0 0 (jA ad s.heap.size)) (F0 m pc' lsA' (st'.map (jrv ad))) :=
    fun h1 h2 h3 h4 => hKK _ _ _ _ h1 Q' hQ p l e s m args below meth c cI cZ cN D ad _ _ _ hC h2 h3 h4
  obtain ⟨hx, hb, hr, hlk, hml, hown, hts, hK⟩ := id hC
  have hRM := hW.1
  have hlat : ∀ {i : Nat} {v : jV}, ls.getD i none = some v → lsA[i]? = some (.val (jrv ad v)) ∧ jRV v := fun hv => hL.2.2.2 _ _ hv
  have hts' : ∀ w ∈ wsL_law, w.before args s = true := fun w hw => hts w (List.mem_cons_of_mem _ hw)
  obtain ⟨ins, n, a1, a2, a3, a4⟩ := o
  cases ins
  case iconst z =>
    obtain ⟨hd, hz⟩ := jdec hk
    exact lv_iconst hx hb hd rfl (go h hW hL (jRVs_cons (jRV_i (of_decide_eq_true hz)) hSt))
  case bipush z =>
    obtain ⟨hd, hz⟩ := jdec hk
    obtain ⟨hz, hv⟩ := jdec hz
    exact lv_bipush hx hb hd (of_decide_eq_true hv) (go h hW hL (jRVs_cons (jRV_i hz) hSt))
  case sipush z =>
    obtain ⟨hd, hz⟩ := jdec hk
    obtain ⟨hz, hv⟩ := jdec hz
    exact lv_sipush hx hb hd (of_decide_eq_true hv) (go h hW hL (jRVs_cons (jRV_i hz) hSt))
  case ldc_w i =>
    obtain ⟨hd, hz⟩ := jdec hk
    obtain ⟨hz, hv⟩ := jdec hz
    obtain ⟨hy11, hv⟩ := jdec hv
    have hw : Jvm.Cond.constant RJ6 i (jI (a1 : Int)) ∈ wsL_law := by
      rcases Bool.or_eq_true_iff.mp hv with hv | hv
      · obtain ⟨rfl, rfl⟩ := of_decide_eq_true hv
        exact jn_bc.1
      · rcases Bool.or_eq_true_iff.mp hv with hv | hv
        · obtain ⟨rfl, rfl⟩ := of_decide_eq_true hv
          exact jn_bc.2.1
        · obtain ⟨rfl, rfl⟩ := of_decide_eq_true hv
          exact jn_bc.2.2
    have hown' := hown
    rw [jhc hyl, hy11] at hown'
    exact lv_ldcw hx hb hown' (hts' _ hw) hd (go h hW hL (jRVs_cons (jRV_i hz) hSt))
  case iload i =>
    obtain ⟨z, hv, h⟩ := jldi_sp h
    exact lv_iload hx hb (of_decide_eq_true hk) (hlat hv).1 (go h hW hL (jRVs_cons (hlat hv).2 hSt))
  case iload_n i =>
    obtain ⟨z, hv, h⟩ := jldi_sp h
    exact lv_iload_n hx hb (of_decide_eq_true hk) rfl (hlat hv).1 (go h hW hL (jRVs_cons (hlat hv).2 hSt))
  case aload i =>
    dsimp only [jst] at h
    obtain ⟨z, hv, h⟩ := jldr_sp h
    exact lv_aload hx hb (of_decide_eq_true hk) (hlat hv).1 (go h hW hL (jRVs_cons (hlat hv).2 hSt))
  case aload_n i =>
    dsimp only [jst] at h
    obtain ⟨z, hv, h⟩ := jldr_sp h
    exact lv_aload_n hx hb (of_decide_eq_true hk) rfl (hlat hv).1 (go h hW hL (jRVs_cons (hlat hv).2 hSt))
  case istore i =>
    obtain ⟨hd, hi⟩ := jdec hk
    obtain ⟨z, r, rfl, h⟩ := jb1_sp h
    exact lv_istore hx hb hd hL.has (jblt hi) rfl (fun ls' hl' => go h hW (hL.put (v := .inl z) (jblt hi) (jRV_i (jhead hSt)) hl') (jtail hSt))
  case istore_n i =>
    obtain ⟨hd, hi⟩ := jdec hk
    obtain ⟨z, r, rfl, h⟩ := jb1_sp h
    exact lv_istore_n hx hb hd rfl hL.has (jblt hi) rfl (fun ls' hl' => go h hW (hL.put (v := .inl z) (jblt hi) (jRV_i (jhead hSt)) hl') (jtail hSt))
  case astore i =>
    dsimp only [jst] at h
    obtain ⟨hd, hi⟩ := jdec hk
    obtain ⟨q, r, rfl, h⟩ := jbr_sp h
    exact lv_astore hx hb hd hL.has (jblt hi) rfl (fun ls' hl' => go h hW (hL.put (v := .inr q) (jblt hi) (jRV_r _) hl') (jtail hSt))
  case astore_n i =>
    dsimp only [jst] at h
    obtain ⟨hd, hi⟩ := jdec hk
    obtain ⟨q, r, rfl, h⟩ := jbr_sp h
    exact lv_astore_n hx hb hd rfl hL.has (jblt hi) rfl (fun ls' hl' => go h hW (hL.put (v := .inr q) (jblt hi) (jRV_r _) hl') (jtail hSt))
  case iinc i k =>
    obtain ⟨hd, hi⟩ := jdec hk
    obtain ⟨z, hv, h⟩ := jldi_sp h
    obtain ⟨q, hq⟩ := List.getElem?_of_mem ((jps_mem (ad := ad)).mpr ⟨_, hv, rfl⟩)
    refine lv_iinc (v := jI (jwr (z + k))) hx hb hd hL.has hq ?_ (jblt hi) rfl (fun ls' hl' => go h hW (hL.put (v := .inl (jwr (z + k))) (jblt hi) (jRV_i (jwr_wr _)) hl') hSt)
    rw [jI_wr]
    exact jI_add z k
  case iadd =>
    obtain ⟨a, b, r, rfl, h⟩ := jb2_sp h
    have h1 := go h hW hL (jRVs_cons (jRV_i (jwr_wr _)) (jtail (jtail hSt)))
    simp only [List.map_cons, jrv, jI_wr, ← jI_add] at h1
    exact lv_iadd hx hb (of_decide_eq_true hk) h1
  case isub =>
    obtain ⟨a, b, r, rfl, h⟩ := jb2_sp h
    have h1 := go h hW hL (jRVs_cons (jRV_i (jwr_wr _)) (jtail (jtail hSt)))
    simp only [List.map_cons, jrv, jI_wr, ← jI_sub] at h1
    exact lv_isub hx hb (of_decide_eq_true hk) h1
  case imul =>
    obtain ⟨a, b, r, rfl, h⟩ := jb2_sp h
    have h1 := go h hW hL (jRVs_cons (jRV_i (jwr_wr _)) (jtail (jtail hSt)))
    simp only [List.map_cons, jrv, jI_wr, ← jI_mul] at h1
    exact lv_imul hx hb (of_decide_eq_true hk) h1
  case idiv =>
    obtain ⟨a, b, r, rfl, hne, h⟩ := jb2_sp h
    have h1 := go h hW hL (jRVs_cons (jRV_i (jwr_wr _)) (jtail (jtail hSt)))
    have ha := jhead (jtail hSt)
    have hb' := jhead hSt
    simp only [List.map_cons, jrv, jI_wr, ← jI_div ha hb'] at h1
    exact lv_idiv hx hb (of_decide_eq_true hk) (fun q => hne (by rw [← jI_0, jI_eq hb' jwr_0] at q; exact q)) h1
  case irem =>
    obtain ⟨a, b, r, rfl, hne, h⟩ := jb2_sp h
    have h1 := go h hW hL (jRVs_cons (jRV_i (jwr_wr _)) (jtail (jtail hSt)))
    have ha := jhead (jtail hSt)
    have hb' := jhead hSt
    simp only [List.map_cons, jrv, jI_wr, ← jI_sub, ← jI_mul, ← jI_div ha hb'] at h1
    exact lv_irem hx hb (of_decide_eq_true hk) (fun q => hne (by rw [← jI_0, jI_eq hb' jwr_0] at q; exact q)) h1
  case ineg =>
    obtain ⟨a, r, rfl, h⟩ := jb1_sp h
    have h1 := go h hW hL (jRVs_cons (jRV_i (jwr_wr _)) (jtail hSt))
    simp only [List.map_cons, jrv, jI_wr, ← jI_neg] at h1
    exact lv_ineg hx hb (of_decide_eq_true hk) h1
  case iand =>
    obtain ⟨a, b, r, rfl, h⟩ := jb2_sp h
    have h1 := go h hW hL (jRVs_cons (jRV_i (jwr_to _)) (jtail (jtail hSt)))
    simp only [List.map_cons, jrv, jiand, jI_to] at h1
    exact lv_iand hx hb (of_decide_eq_true hk) h1
  case ior =>
    obtain ⟨a, b, r, rfl, h⟩ := jb2_sp h
    have h1 := go h hW hL (jRVs_cons (jRV_i (jwr_to _)) (jtail (jtail hSt)))
    simp only [List.map_cons, jrv, jior, jI_to] at h1
    exact lv_ior hx hb (of_decide_eq_true hk) h1
  case ixor =>
    obtain ⟨a, b, r, rfl, h⟩ := jb2_sp h
    have h1 := go h hW hL (jRVs_cons (jRV_i (jwr_to _)) (jtail (jtail hSt)))
    simp only [List.map_cons, jrv, jixor, jI_to] at h1
    exact lv_ixor hx hb (of_decide_eq_true hk) h1
  case ishl =>
    obtain ⟨a, b, r, rfl, h⟩ := jb2_sp h
    have h1 := go h hW hL (jRVs_cons (jRV_i (jwr_to _)) (jtail (jtail hSt)))
    simp only [List.map_cons, jrv, jishl, jI_to] at h1
    exact lv_ishl hx hb (of_decide_eq_true hk) h1
  case ishr =>
    obtain ⟨a, b, r, rfl, h⟩ := jb2_sp h
    have h1 := go h hW hL (jRVs_cons (jRV_i (jwr_to _)) (jtail (jtail hSt)))
    simp only [List.map_cons, jrv, jishr, jI_to] at h1
    exact lv_ishr hx hb (of_decide_eq_true hk) h1
  case iushr =>
    obtain ⟨a, b, r, rfl, h⟩ := jb2_sp h
    have h1 := go h hW hL (jRVs_cons (jRV_i (jwr_to _)) (jtail (jtail hSt)))
    simp only [List.map_cons, jrv, jiushr, jI_to] at h1
    exact lv_iushr hx hb (of_decide_eq_true hk) rfl h1
  case if_icmp cc off =>
    obtain ⟨hd, ho⟩ := jdec hk
    have ht := jtg_of (of_decide_eq_true ho)
    obtain ⟨a, b, r, rfl, h⟩ := jb2_sp h
    have ha := jhead (jtail hSt)
    have hb' := jhead hSt
    have hr' := jtail (jtail hSt)
    cases cc
    · exact lv_icmp_eq hx hb hd ht (fun q => go (h.1 (jct_if (cc := .eq) ha hb' q)) hW hL hr') (fun q => go (h.2 (jcf_if (cc := .eq) ha hb' q)) hW hL hr')
    · exact lv_icmp_ne hx hb hd ht (fun q => go (h.1 (jct_if (cc := .ne) ha hb' q)) hW hL hr') (fun q => go (h.2 (jcf_if (cc := .ne) ha hb' (fun k => k q))) hW hL hr')
    · exact lv_icmp_lt hx hb hd ht (fun q => go (h.1 (jct_if (cc := .lt) ha hb' q)) hW hL hr') (fun q => go (h.2 (jcf_if (cc := .lt) ha hb' q)) hW hL hr')
    · exact lv_icmp_ge hx hb hd ht (fun q => go (h.1 (jct_if (cc := .ge) ha hb' q)) hW hL hr') (fun q => go (h.2 (jcf_if (cc := .ge) ha hb' q)) hW hL hr')
    · exact lv_icmp_gt hx hb hd ht (fun q => go (h.1 (jct_if (cc := .gt) ha hb' q)) hW hL hr') (fun q => go (h.2 (jcf_if (cc := .gt) ha hb' q)) hW hL hr')
    · exact lv_icmp_le hx hb hd ht (fun q => go (h.1 (jct_if (cc := .le) ha hb' q)) hW hL hr') (fun q => go (h.2 (jcf_if (cc := .le) ha hb' q)) hW hL hr')
  case ifCond cc off =>
    obtain ⟨hd, ho⟩ := jdec hk
    have ht := jtg_of (of_decide_eq_true ho)
    obtain ⟨a, r, rfl, h⟩ := jb1_sp h
    have ha := jhead hSt
    have hb' := jwr_0
    have hr' := jtail hSt
    cases cc
    · exact lv_if_eq hx hb hd ht (fun q => go (h.1 (jct_if (cc := .eq) ha hb' q)) hW hL hr') (fun q => go (h.2 (jcf_if (cc := .eq) ha hb' q)) hW hL hr')
    · exact lv_if_ne hx hb hd ht (fun q => go (h.1 (jct_if (cc := .ne) ha hb' q)) hW hL hr') (fun q => go (h.2 (jcf_if (cc := .ne) ha hb' (fun k => k q))) hW hL hr')
    · exact lv_if_lt hx hb hd ht (fun q => go (h.1 (jct_if (cc := .lt) ha hb' q)) hW hL hr') (fun q => go (h.2 (jcf_if (cc := .lt) ha hb' q)) hW hL hr')
    · exact lv_if_ge hx hb hd ht (fun q => go (h.1 (jct_if (cc := .ge) ha hb' q)) hW hL hr') (fun q => go (h.2 (jcf_if (cc := .ge) ha hb' q)) hW hL hr')
    · exact lv_if_gt hx hb hd ht (fun q => go (h.1 (jct_if (cc := .gt) ha hb' q)) hW hL hr') (fun q => go (h.2 (jcf_if (cc := .gt) ha hb' q)) hW hL hr')
    · exact lv_if_le hx hb hd ht (fun q => go (h.1 (jct_if (cc := .le) ha hb' q)) hW hL hr') (fun q => go (h.2 (jcf_if (cc := .le) ha hb' q)) hW hL hr')
  case goto off =>
    obtain ⟨hd, ho⟩ := jdec hk
    exact lv_goto hx hb hd (jtg_of (of_decide_eq_true ho)) (go h hW hL hSt)
  case tableswitch dflt lo hi offs =>
    obtain ⟨hd, h0⟩ := jdec hk
    obtain ⟨hdf, h0⟩ := jdec h0
    obtain ⟨hlo, h0⟩ := jdec h0
    obtain ⟨hsz, hall⟩ := jdec h0
    obtain ⟨a, r, rfl, h⟩ := jb1_sp h
    have ha := jhead hSt
    have hai : (jI a).toInt = a := ha
    by_cases hc : a < lo ∨ hi < a
    · exact lv_tableOut hx hb hd (by rw [hai]; exact hc) (jtg_of hdf) (go (h.1 hc) hW hL (jtail hSt))
    · have hj : (a - lo).toNat < offs.size := by rw [hsz]; omega
      have hj1 : offs[(a - lo).toNat]? = some offs[(a - lo).toNat] := by simp [hj]
      have hj2 : offs.toList[(a - lo).toNat]? = some offs[(a - lo).toNat] := by rw [Array.getElem?_toList]; exact hj1
      have h9 := jsw_sp h.2 (a - lo).toNat _ hj2 (by omega)
      have h8 := of_decide_eq_true (List.all_eq_true.mp hall _ (List.mem_of_getElem? hj2))
      exact lv_tableIn hx hb hd (by rw [hai]; omega) (by rw [hai]; omega) (by rw [hai]; exact hj1) (jtg_of h8) (go h9 hW hL (jtail hSt))
  case dup =>
    cases st with
    | nil => exact h.elim
    | cons v r => exact lv_dup hx hb (of_decide_eq_true hk) (jrv_cat ad v) (go h hW hL (jRVs_cons (hSt v List.mem_cons_self) hSt))
  case dup2 =>
    cases st with
    | nil => exact h.elim
    | cons v r =>
      cases r with
      | nil => exact h.elim
      | cons w r => exact lv_dup2_11 hx hb (of_decide_eq_true hk) (jrv_cat ad v) (jrv_cat ad w) (go h hW hL (jRVs_cons (hSt v List.mem_cons_self) (jRVs_cons (hSt w (List.mem_cons_of_mem _ List.mem_cons_self)) hSt)))
  case pop =>
    cases st with
    | nil => exact h.elim
    | cons v r => exact lv_pop hx hb (of_decide_eq_true hk) (jrv_cat ad v) (go h hW hL (jtail hSt))
  case iaload =>
    match st, h, hSt with
    | .inl i :: .inr q :: r, h, hSt =>
      obtain ⟨hi, h⟩ := h
      obtain ⟨q0, hq0, he, hlt, -⟩ := js_arr hi M cI cZ cN ad
      have hir := jhead hSt
      have h1 := go h hW hL (jRVs_cons (jRV_i (hRM _ _ _)) (jtail (jtail hSt)))
      refine va_iald hx hb hK hW.2.1 q0 0 he rfl (jI_in hir hi.1 hlt) (of_decide_eq_true hk) ?_
      rw [jidx M q.1 q.2 hir hi.1]
      exact h1
  case baload =>
    match st, h, hSt with
    | .inl i :: .inr q :: r, h, hSt =>
      obtain ⟨hi, h⟩ := h
      obtain ⟨q0, hq0, he, hlt, -⟩ := js_barr hi M cI cZ cN ad
      have hir := jhead hSt
      have h1 := go h hW hL (jRVs_cons (jRV_i (hRM _ _ _)) (jtail (jtail hSt)))
      refine va_zald hx hb hK hW.2.1 q0 1 he rfl (jI_in hir hi.1 hlt) (of_decide_eq_true hk) ?_
      rw [jidx M q.1 q.2 hir hi.1]
      exact h1
  case aaload =>
    match st, h, hSt with
    | .inl i :: .inr q :: r, h, hSt =>
      have h2 : (bif decide (q = (18, 2)) then (0 ≤ i ∧ i < 12) ∧ K (pc + 1) ls (.inr (i, 0) :: r) M else False) := h
      by_cases hq : q = (18, 2)
      · subst hq
        simp only [decide_true, cond_true] at h2
        obtain ⟨hi, h⟩ := h2
        have hm : ((18 : Int), 2) ∈ jCs := by decide +kernel
        obtain ⟨q0, hq0, he⟩ := jW_get hm cI cZ cN ad M
        have he' : (jW cI cZ cN ad M)[q0]? = some (ad 18 2, .inl (cN, (12, .inr (.inr (.inr (.inr (fun j : Nat => some (ad (j : Int) 0)))))))) := he
        have hir := jhead hSt
        have h1 := go h hW hL (jRVs_cons (jRV_r _) (jtail (jtail hSt)))
        refine va_aldq hx hb hK hW.2.1 q0 2 he' rfl (jI_in hir hi.1 hi.2) (of_decide_eq_true hk) ?_
        rw [jI_clamp hir, Int.toNat_of_nonneg hi.1]
        exact h1
      · rw [decide_eq_false hq] at h2
        exact h2.elim
  case arraylength =>
    dsimp only [jst] at h
    obtain ⟨q, r, rfl, h0, h⟩ := jbr_sp h
    obtain ⟨h1, h2, h3, h4⟩ := jal_of (i := 0) (by omega) h0
    obtain ⟨q0, hq0, he, hlt, -⟩ := js_arr (i := 0) ⟨by omega, h0⟩ M cI cZ cN ad
    have hb9 : (jAr q.1 q.2).2 < 2147483648 := by
      have hall : ∀ l ∈ jTyp, ∀ a ∈ l, a.2.2 < 2147483648 := by decide +kernel
      unfold jAr
      split
      · rename_i a ha
        have hm := List.mem_of_find?_eq_some ha
        rw [List.getD_eq_getElem?_getD] at hm
        cases hq9 : jTyp[jCl q.1]? with
        | none => rw [hq9] at hm; cases hm
        | some l => rw [hq9] at hm; exact hall l (List.mem_of_getElem? hq9) a hm
      · decide
    have h9 := go h hW hL (jRVs_cons (jRV_i (by rw [h2]; exact jwr_id (by omega) (by omega))) (jtail hSt))
    refine va_alen hx hb hK hW.2.1 q0 0 he rfl (v := jI (jal q.1 q.2)) ?_ (of_decide_eq_true hk) h9
    rw [h2]
    show Int32.ofNat (jAr q.1 q.2).2 = _
    apply Int32.toInt_inj.mp
    rw [jI_toInt, jwr_id (by omega) (by omega)]
    exact nI_toInt hb9
  case iastore =>
    match st, h, hSt with
    | .inl z :: .inl i :: .inr q :: r, h, hSt =>
      obtain ⟨hi, h⟩ := h
      obtain ⟨q0, hq0, he, hlt, hk0⟩ := js_arr hi M cI cZ cN ad
      have hir := jhead (jtail hSt)
      refine va_iast hx hb hK hW.2.1 hW.2.2.1 hW.2.2.2 q0 0 he rfl (jI_in hir hi.1 hlt) (of_decide_eq_true hk) (fun H1 locs1 hP1 hD1 hS1 => ?_)
      refine go h (jWd.set (q := (q.1, q.2)) hq0 (fun q' _ hne => jCe_up q' hne) ?_ (jRM_up hRM (jhead hSt)) hP1 hD1 hS1) hL (jtail (jtail (jtail hSt)))
      rw [jI_clamp hir, jsetarr hi.1]
      unfold jCe
      rw [if_neg hk0, if_pos (jal_of hi.1 hi.2).1]
  case bastore =>
    match st, h, hSt with
    | .inl z :: .inl i :: .inr q :: r, h, hSt =>
      obtain ⟨hi, hz, h⟩ := h
      obtain ⟨q0, hq0, he, hlt, hk0⟩ := js_barr hi M cI cZ cN ad
      have hir := jhead (jtail hSt)
      refine va_zast hx hb hK hW.2.1 hW.2.2.1 hW.2.2.2 q0 1 he rfl (jI_in hir hi.1 hlt) (of_decide_eq_true hk) (fun H1 locs1 hP1 hD1 hS1 => ?_)
      refine go h (jWd.set (q := (q.1, q.2)) hq0 (fun q' _ hne => jCe_up q' hne) ?_ (jRM_up hRM (jhead hSt)) hP1 hD1 hS1) hL (jtail (jtail (jtail hSt)))
      rw [jnar_bool hz, jI_clamp hir, jsetarr hi.1]
      unfold jCe
      rw [if_neg hk0, if_neg (by rw [(jbl_of hi.1 hi.2).1]; decide), if_pos (jbl_of hi.1 hi.2).1]
  case getfield i =>
    dsimp only [jst] at h
    obtain ⟨hd, hk⟩ := jdec hk
    obtain ⟨q, r, hsr, h7⟩ := jbr_sp h
    clear h
    subst hsr
    obtain ⟨g, k⟩ := q
    have h := h7
    clear h7
    try dsimp only at h
    cases hk0 : (k == 0)
    · rw [hk0] at h; exact h.elim
    rw [hk0] at h
    have hk0' : k = 0 := by simpa using hk0
    subst hk0'
    simp only [cond_true] at h
    have hst := jtail hSt
    cases h4 : (a1 == 4)
    · rw [h4] at h
      simp only [cond_false] at h
      cases hg : (jCl g == a1)
      · rw [hg] at h; exact h.elim
      rw [hg] at h
      simp only [cond_true] at h
      refine js_fieldr hC hW hd hyl hk (by simpa using hg) ?_
      cases h1 : (a3 == 1)
      · rw [h1] at h
        simp only [cond_false] at h
        rw [if_neg (by simpa using h1)]
        cases h3 : (a3 == 3)
        · rw [h3] at h
          rw [if_neg (by simpa using h3)]
          exact go h hW hL (jRVs_cons (jRV_i (hRM _ _ _)) hst)
        · rw [h3] at h
          rw [if_pos (by simpa using h3)]
          exact go h hW hL (jRVs_cons (jRV_r _) hst)
      · rw [h1] at h
        rw [if_pos (by simpa using h1)]
        exact go h hW hL (jRVs_cons (jRV_r _) hst)
    · rw [h4] at h
      simp only [cond_true] at h
      have h4' : a1 = 4 := by simpa using h4
      subst h4'
      have ht : a3 = 0 ∨ a3 = 1 := by
        unfold jckF at hk
        have hk2 := of_decide_eq_true (jck_and (jck_and hk).2).2
        have hall : ∀ t ∈ jft.getD 4 [], t = 0 ∨ t = 1 := by decide +kernel
        exact hall a3 (List.mem_of_getElem? hk2)
      rcases ht with rfl | rfl
      · obtain ⟨hg, h⟩ := h
        exact js_fieldr hC hW hd hyl hk (jCl_net hg) (go h hW hL (jRVs_cons (jRV_i (hRM _ _ _)) hst))
      · obtain ⟨hg, h⟩ := h
        refine js_fieldr hC hW hd hyl hk (jCl_net hg) ?_
        rw [if_pos rfl, jfc_net hg]
        exact go h hW hL (jRVs_cons (jRV_r _) hst)
  case putfield i =>
    obtain ⟨hd, hk⟩ := jdec hk
    match st, h, hSt with
    | .inl z :: .inr (g, k) :: r, h7, hSt =>
      have hz := jhead hSt
      have hst := jtail (jtail hSt)
      have hp : (bif k == 0 then
      (bif a1 == 4 then (bif a3 == 0 then (0 ≤ g ∧ g < 18) ∧ K (pc + 3) ls r (jup M g 0 a2 z) else False)
       else bif jCl g == a1 then
        (bif a3 == 0 then K (pc + 3) ls r (jup M g 0 a2 z)
         else bif a3 == 4 then (z = 0 ∨ z = 1) ∧ K (pc + 3) ls r (jup M g 0 a2 z) else False) else False) else False) := h7
      clear h7
      cases hk0 : (k == 0)
      · rw [hk0] at hp; exact hp.elim
      rw [hk0] at hp
      have hk0' : k = 0 := by simpa using hk0
      subst hk0'
      try simp only [cond_true] at hp
      cases h4 : (a1 == 4)
      · rw [h4] at hp
        try simp only [cond_false] at hp
        cases hg : (jCl g == a1)
        · rw [hg] at hp; exact hp.elim
        rw [hg] at hp
        try simp only [cond_true] at hp
        cases h0 : (a3 == 0)
        · rw [h0] at hp
          try simp only [cond_false] at hp
          cases h44 : (a3 == 4)
          · rw [h44] at hp; exact hp.elim
          rw [h44] at hp
          have h44' : a3 = 4 := by simpa using h44
          subst h44'
          obtain ⟨hz1, hp⟩ := hp
          exact js_put hC hW hd hyl hk (by simpa using hg) (by decide : (4 : Nat) ≠ 1) rfl (jnarrow_bool hz1) (jfits_bool hz1) hz (fun H1 locs1 hW1 => go hp hW1 hL hst)
        · rw [h0] at hp
          have h0' : a3 = 0 := by simpa using h0
          subst h0'
          exact js_put hC hW hd hyl hk (by simpa using hg) (by decide : (0 : Nat) ≠ 1) rfl rfl rfl hz (fun H1 locs1 hW1 => go hp hW1 hL hst)
      · rw [h4] at hp
        try simp only [cond_true] at hp
        have h4' : a1 = 4 := by simpa using h4
        subst h4'
        cases h0 : (a3 == 0)
        · rw [h0] at hp; exact hp.elim
        rw [h0] at hp
        have h0' : a3 = 0 := by simpa using h0
        subst h0'
        obtain ⟨hg, hp⟩ := hp
        exact js_put hC hW hd hyl hk (jCl_net hg) (by decide : (0 : Nat) ≠ 1) rfl rfl rfl hz (fun H1 locs1 hW1 => go hp hW1 hL hst)
    | .inr (g2, k2) :: .inr (g, k) :: r, h7, hSt =>
      have hst := jtail (jtail hSt)
      have h6 : (bif (k == 0 && k2 == 0) && (jCl g == a1 && a3 == 3) then (0 ≤ g2 ∧ g2 < 18) ∧ K (pc + 3) ls r (jup M g 0 a2 g2) else False) := h7
      clear h7
      cases hq : ((k == 0 && k2 == 0) && (jCl g == a1 && a3 == 3))
      · rw [hq] at h6; exact h6.elim
      rw [hq] at h6
      simp only [Bool.and_eq_true, beq_iff_eq] at hq
      obtain ⟨⟨hk1, hk2⟩, hg, h33⟩ := hq
      subst hk1; subst hk2; subst h33
      obtain ⟨hg2, h6⟩ := h6
      exact js_put (t := 3) hC hW hd hyl hk hg (by decide) rfl rfl rfl (jwr_id (by omega) (by omega)) (fun H1 locs1 hW1 => go h6 hW1 hL hst)
  case invokevirtual i =>
    obtain ⟨hd, hk⟩ := jdec hk
    obtain ⟨hw, hk⟩ := jdec hk
    obtain ⟨hn, hk⟩ := jdec hk
    obtain ⟨hv, hk⟩ := jdec hk
    obtain ⟨hst, hz⟩ := jdec hk
    obtain ⟨hz, hg11⟩ := jck_and hz
    have hz := jblt hz
    have hg11 := jblt hg11
    dsimp only at hw hn hv hst hz hg11
    have h : (bif Nat.ble a2 st.length && Nat.ble (st.drop a2).length 8 then jrc (jh a1).2.2 (st.take a2).reverse (bif a3 == 1 then jCall d a1 (st.take a2).reverse M (fun _ M' => K (pc + 3) ls (st.drop a2) M')
       else bif a3 == 0 then jCall d a1 (st.take a2).reverse M (fun r M' => K (pc + 3) ls (.inl r :: st.drop a2) M') else False) else False) := h
    cases h89 : (Nat.ble a2 st.length && Nat.ble (st.drop a2).length 8)
    · rw [h89] at h; exact h.elim
    rw [h89] at h
    obtain ⟨h9, h8⟩ := jck_and h89
    have h9 := Nat.le_of_ble_eq_true h9
    simp only [cond_true] at h
    unfold jrc at h
    split at h
    · rename_i q as has
      obtain ⟨g, k⟩ := q
      dsimp only at h
      cases hk0 : (k == 0)
      · rw [hk0] at h; exact h.elim
      rw [hk0] at h
      have hk0' : k = 0 := by simpa using hk0
      subst hk0'
      simp only [cond_true] at h
      have hg : jCl g = (jh a1).2.2 ∧ (bif a3 == 1 then jCall d a1 (.inr (g, 0) :: as) M (fun _ M' => K (pc + 3) ls (st.drop a2) M')
       else bif a3 == 0 then jCall d a1 (.inr (g, 0) :: as) M (fun r M' => K (pc + 3) ls (.inl r :: st.drop a2) M') else False) := by
        rw [has] at h
        cases h4 : ((jh a1).2.2 == 4)
        · rw [h4] at h
          simp only [cond_false] at h
          cases hg : (jCl g == (jh a1).2.2)
          · rw [hg] at h; exact h.elim
          · rw [hg] at h; exact ⟨by simpa using hg, h⟩
        · rw [h4] at h
          exact ⟨by rw [jCl_net h.1]; exact (by simpa using h4 : _ = 4).symm, h.2⟩
      obtain ⟨hg, h⟩ := hg
      have hsplit : st = as.reverse ++ .inr (g, 0) :: st.drop a2 := by
        have e1 : st.take a2 = (Sum.inr (g, 0) :: as).reverse := by rw [← has, List.reverse_reverse]
        rw [List.reverse_cons] at e1
        conv => lhs; rw [← List.take_append_drop a2 st, e1]
        simp
      have hlen : as.length = (jh a1).1 := by
        have e2 := congrArg List.length has
        rw [List.length_reverse, List.length_take, List.length_cons] at e2
        omega
      have hra : ∀ v ∈ as, jRV v := fun v hv => hSt v (by rw [hsplit]; exact List.mem_append_left _ (List.mem_reverse.mpr hv))
      have hrr : ∀ v ∈ st.drop a2, jRV v := fun v hv => hSt v (List.mem_of_mem_drop hv)
      have hgoal : st.map (jrv ad) = (as.map (jrv ad)).reverse ++ .ref (ad g 0) :: (st.drop a2).map (jrv ad) := by
        conv => lhs; rw [hsplit]
        simp [jrv]
      rw [hgoal]
      cases h1 : (a3 == 1)
      · rw [h1] at h
        simp only [cond_false] at h
        cases h0 : (a3 == 0)
        · rw [h0] at h; exact h.elim
        rw [h0] at h
        refine js_callV hC hW hL hd hz hyl hw hlen hst hg hg11 hra h8 h (fun q => ?_) (fun _ v M1 H1 locs1 hvv hq hW1 => go hq hW1 hL (jRVs_cons (jRV_i hvv) hrr))
        rw [hv, h1] at q
        cases q
      · rw [h1] at h
        refine js_callV hC hW hL hd hz hyl hw hlen hst hg hg11 hra h8 h (fun _ M1 H1 locs1 hq hW1 => go hq hW1 hL hrr) (fun q => ?_)
        rw [hv, h1] at q
        cases q
    · exact h.elim
  case invokestatic i =>
    obtain ⟨hd, hk⟩ := jdec hk
    have hml' : c.maxLocals = lsA.size := by rw [hml, hL.2.1]
    cases h4 : (a3 == 4)
    · cases h5 : (a3 == 5)
      · cases h6 : (a3 == 6)
        · have h : (bif a3 == 4 then _ else bif a3 == 5 then _ else bif a3 == 6 then _ else bif Nat.ble a2 st.length && Nat.ble (st.drop a2).length 8 then
            (bif a3 == 3 then jCall d a1 (st.take a2).reverse M (fun _ M' => K (pc + 3) ls (st.drop a2) M')
             else bif a3 == 2 then jCall d a1 (st.take a2).reverse M (fun r M' => K (pc + 3) ls (.inl r :: st.drop a2) M') else False) else False) := h
          simp only [h4, h5, h6, cond_false, Bool.or_false] at h hk
          obtain ⟨hw, hk⟩ := jdec hk
          obtain ⟨hn, hk⟩ := jdec hk
          obtain ⟨hv, hk⟩ := jdec hk
          obtain ⟨hst, hz⟩ := jdec hk
          have hz := jblt hz
          cases h89 : (Nat.ble a2 st.length && Nat.ble (st.drop a2).length 8)
          · rw [h89] at h; exact h.elim
          rw [h89] at h
          obtain ⟨h9, h8⟩ := jck_and h89
          have h9 := Nat.le_of_ble_eq_true h9
          simp only [cond_true] at h
          have hsplit : st = (st.take a2).reverse.reverse ++ st.drop a2 := by
            rw [List.reverse_reverse, List.take_append_drop]
          have hlen : (st.take a2).reverse.length = (jh a1).1 := by
            rw [List.length_reverse, List.length_take]
            omega
          have hra : ∀ v ∈ (st.take a2).reverse, jRV v := fun v hv => hSt v (List.mem_of_mem_take (List.mem_reverse.mp hv))
          have hrr : ∀ v ∈ st.drop a2, jRV v := fun v hv => hSt v (List.mem_of_mem_drop hv)
          have hgoal : st.map (jrv ad) = (((st.take a2).reverse).map (jrv ad)).reverse ++ (st.drop a2).map (jrv ad) := by
            rw [← List.map_reverse, ← List.map_append, ← hsplit]
          rw [hgoal]
          cases h3 : (a3 == 3)
          · rw [h3] at h
            simp only [cond_false] at h
            cases h0 : (a3 == 2)
            · rw [h0] at h; exact h.elim
            rw [h0] at h
            refine js_callS hC hW hL hd hz hyl hw hlen hst hra h8 h (fun q => ?_) (fun _ v M1 H1 locs1 hvv hq hW1 => go hq hW1 hL (jRVs_cons (jRV_i hvv) hrr))
            rw [hv, h3] at q
            cases q
          · rw [h3] at h
            refine js_callS hC hW hL hd hz hyl hw hlen hst hra h8 h (fun _ M1 H1 locs1 hq hW1 => go hq hW1 hL hrr) (fun q => ?_)
            rw [hv, h3] at q
            cases q
        · have h6' : a3 = 6 := by simpa using h6
          subst h6'
          have hw := jn_all _ (List.mem_of_getElem? (of_decide_eq_true hk))
          unfold jnP at hw
          dsimp only at hw
          rw [← jhc hyl, show jnN 6 = arraycopyName from rfl] at hw
          match st, h, hSt with
          | .inl n :: .inl dp :: .inr q' :: .inl sp :: .inr q :: r, h, hSt =>
            have h : (bif Nat.ble r.length 8 then (0 ≤ sp ∧ 0 ≤ dp ∧ 0 < n ∧ sp + n ≤ jal q.1 q.2 ∧ dp + n ≤ jal q'.1 q'.2) ∧ K (pc + 3) ls r (jcp M q.1 q.2 sp q'.1 q'.2 dp n) else False) := h
            cases h8 : Nat.ble r.length 8
            · rw [h8] at h; exact h.elim
            rw [h8] at h
            obtain ⟨⟨c1, c2, c3, c4, c5⟩, h⟩ := h
            obtain ⟨i0, hi0, he0, hl0, hk0⟩ := js_arr (g := q.1) (k := q.2) (i := sp + n - 1) ⟨by omega, by omega⟩ M cI cZ cN ad
            obtain ⟨i1, hi1, he1, hl1, hk1⟩ := js_arr (g := q'.1) (k := q'.2) (i := dp + n - 1) ⟨by omega, by omega⟩ M cI cZ cN ad
            have hn := jhead hSt
            have hdp := jhead (jtail hSt)
            have hsp := jhead (jtail (jtail (jtail hSt)))
            have hneg : ∀ z : Int, jwr z = z → 0 ≤ z → ¬ jI z < 0 := fun z hz h0 q => by
              rw [← jI_0, jI_lt hz jwr_0] at q
              omega
            refine va_copyi (f := fun j : Nat => jI (M q.1 q.2 j)) (g := fun j : Nat => jI (M q'.1 q'.2 j)) hx hb hml' hown (hts' _ hw) (hts' _ jn_cpy.1) (hts' _ jn_cpy.2.1) (hts' _ jn_cpy.2.2)
              hK hW.2.1 hW.2.2.1 hW.2.2.2 i0 i1 0 0 he0 he1 rfl rfl rfl (hneg sp hsp c1) (hneg dp hdp c2) (hneg n hn (by omega)) (by rw [jI_clamp hsp, jI_clamp hn]; omega) (by rw [jI_clamp hdp, jI_clamp hn]; omega) (fun _ _ => rfl) ?_ ?_ hd (fun H1 locs1 hP1 hD1 hS1 => ?_)
            · show 1 ≤ d + 2
              omega
            · have := jcat_le (ad := ad) h8
              have e : nativeFrameWords "java/lang/System" "arraycopy" 5 + 11 ≤ 100 := by decide +kernel
              show _ ≤ 64 * d + 128
              omega
            · refine go h (jWd.set (q := (q'.1, q'.2)) hi1 (fun q9 _ hne => jCe_cp q9 hne) ?_ (jRM_cp hRM) hP1 hD1 hS1) hL (jtail (jtail (jtail (jtail (jtail hSt)))))
              rw [jI_clamp hsp, jI_clamp hn, jI_clamp hdp]
              unfold jCe
              rw [if_neg hk1, if_pos (jal_of (g := q'.1) (k := q'.2) (i := dp + n - 1) (by omega) (by omega)).1]
              congr 3
              congr 1
              funext j
              unfold va_cpy jcp
              by_cases hj : dp.toNat ≤ j ∧ j < dp.toNat + n.toNat
              · rw [if_pos hj, if_pos ⟨rfl, rfl, by omega, by omega⟩]
                show jI (M q.1 q.2 ((sp.toNat + (j - dp.toNat) : Nat) : Int)) = jI (M q.1 q.2 (sp + ((j : Int) - dp)))
                rw [show ((sp.toNat + (j - dp.toNat) : Nat) : Int) = sp + ((j : Int) - dp) by omega]
              · rw [if_neg hj, if_neg (by rintro ⟨-, -, q8, q9⟩; omega)]
      · have h5' : a3 = 5 := by simpa using h5
        subst h5'
        have hw := jn_all _ (List.mem_of_getElem? (of_decide_eq_true hk))
        unfold jnP at hw
        dsimp only at hw
        rw [← jhc hyl, show jnN 5 = Lib.Math.min.name from rfl] at hw
        obtain ⟨a, b, r, hsr, h7⟩ := jb2_sp h
        clear h
        subst hsr
        have h : (bif Nat.ble r.length 8 then K (pc + 3) ls (.inl (if b < a then b else a) :: r) M else False) := h7
        clear h7
        cases h8 : Nat.ble r.length 8
        · rw [h8] at h; exact h.elim
        rw [h8] at h
        have ha := jhead (jtail hSt)
        have hb' := jhead hSt
        have h1 := go h hW hL (jRVs_cons (jRV_i (by split <;> assumption)) (jtail (jtail hSt)))
        refine va_mmin hx hb hml' hown (hts' _ hw) (hts' _ jn_min.1) (hts' _ jn_max.2.1) (hts' _ jn_min.2) (by show 1 ≤ d + 2; omega) ?_ (Nat.zero_le _) (Nat.zero_le _) hd ?_
        · have := jcat_le (ad := ad) h8
          show _ ≤ 64 * d + 128
          omega
        · have e : (if jI b < jI a then jI b else jI a) = jI (if b < a then b else a) := by
            by_cases hq : b < a
            · rw [if_pos hq, if_pos ((jI_lt hb' ha).mpr hq)]
            · rw [if_neg hq, if_neg (fun k => hq ((jI_lt hb' ha).mp k))]
          rw [e]
          exact h1
    · have h4' : a3 = 4 := by simpa using h4
      subst h4'
      have hw := jn_all _ (List.mem_of_getElem? (of_decide_eq_true hk))
      unfold jnP at hw
      dsimp only at hw
      rw [← jhc hyl, show jnN 4 = Lib.Math.max.name from rfl] at hw
      obtain ⟨a, b, r, hsr, h7⟩ := jb2_sp h
      clear h
      subst hsr
      have h : (bif Nat.ble r.length 8 then K (pc + 3) ls (.inl (if a < b then b else a) :: r) M else False) := h7
      clear h7
      cases h8 : Nat.ble r.length 8
      · rw [h8] at h; exact h.elim
      rw [h8] at h
      have ha := jhead (jtail hSt)
      have hb' := jhead hSt
      have h1 := go h hW hL (jRVs_cons (jRV_i (by split <;> assumption)) (jtail (jtail hSt)))
      refine va_mmax hx hb hml' hown (hts' _ hw) (hts' _ jn_max.1) (hts' _ jn_max.2.1) (hts' _ jn_max.2.2) (by show 1 ≤ d + 2; omega) ?_ (Nat.zero_le _) (Nat.zero_le _) hd ?_
      · have := jcat_le (ad := ad) h8
        show _ ≤ 64 * d + 128
        omega
      · have e : (if jI a < jI b then jI b else jI a) = jI (if a < b then b else a) := by
          by_cases hq : a < b
          · rw [if_pos hq, if_pos ((jI_lt ha hb').mpr hq)]
          · rw [if_neg hq, if_neg (fun k => hq ((jI_lt ha hb').mp k))]
        rw [e]
        exact h1
  case ireturn =>
    obtain ⟨hd, ht⟩ := jdec hk
    have ht := of_decide_eq_true ht
    dsimp only at ht
    have hnn : (jmt y).2.2.2.1.isNone = false := by rw [ht]; rfl
    have fin : ∀ z : Int, jwr z = z → Q z M → ∀ t : State, t.heap = H → s.WarmedH t.vm → jQc y cI cZ cN D ad Q' s.heap.size args s (.returned (some (.int (jI z)))) t := by
      intro z hz hq t hth hWm
      unfold jQc
      rw [hnn]
      refine ⟨⟨jI z, M, rfl, ?_, hRM, by rw [hth]; exact hW.2.1, va_K.moved hWm.alike hK, hW.2.2.1⟩, hW.2.2.2.F hth⟩
      show Q' (jI z).toInt M
      rw [jI_toInt, hz]
      exact hQ z M hq
    match st, h, hSt with
    | [.inl z], h, hSt =>
      have hz := jhead hSt
      have h : (bif a1 == 1 then (z = 0 ∨ z = 1) ∧ Q z M else Q z M) := h
      cases h1 : (a1 == 1)
      · rw [h1] at h
        rw [if_neg (by simpa using h1)] at ht
        exact W.zret hx hb (by rw [hr]; exact ht) rfl (fin z hz h) hW.2.2.2.2.2 hd (hlocks := hlk)
      · rw [h1] at h
        rw [if_pos (by simpa using h1)] at ht
        exact W.zret hx hb (by rw [hr]; exact ht) (jnarrow_bool h.1) (fin z hz h.2) hW.2.2.2.2.2 hd (hlocks := hlk)
  case return_ =>
    obtain ⟨hd, ht⟩ := jdec hk
    have ht := of_decide_eq_true ht
    match st, h with
    | [], h =>
      refine W.vret hx hb (by rw [hr]; exact ht) (fun t hth hWm => ?_) hW.2.2.2.2.2 hd (hlocks := hlk)
      unfold jQc
      rw [ht]
      exact ⟨⟨M, rfl, hQ 0 M h, hRM, by rw [hth]; exact hW.2.1, va_K.moved hWm.alike hK, hW.2.2.1⟩, hW.2.2.2.F hth⟩
  all_goals exact h.elim
