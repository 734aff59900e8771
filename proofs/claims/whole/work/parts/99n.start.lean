/-! THE SWITCH, THE LOOP, THE START -/
section LOOP
variable {p : Program} {l : Launch} {e : Env} {s : State} {m : MethodId} {below : List Frame} {meth : Method} {c : Code} {b L : Nat} {xs : Nat → Int32} {cI cZ cN : ClassId} {D : va_G} {ad : Int → Nat → Nat} {M : jM} {H : Heap} {locs : List Loc} {ls : Array Slot} {Z : State → Prop} {cells slots i : Nat}
theorem lw_dsw : decode code 33 = .ok (.tableswitch 1176 0 28 #[131, 190, 223, 256, 289, 322, 345, 378, 421, 454, 529, 572, 605, 638, 681, 704, 727, 780, 833, 866, 889, 922, 935, 968, 991, 1014, 1067, 1120, 1153], 131) := by decide +kernel
set_option maxRecDepth 20000 in
theorem lw_switch {x : Int32} (hC : lwC p s m meth c b L xs cI cZ cN D) (hW : lwW cI cZ cN D s ad M H locs) (hI : Inv M) (hR : rel M M) (hl : lv_has ls 4 (lwL b ad i)) (hi : i + 7 ≤ L) (hf : cells ≤ 600000 ∧ slots ≤ 7302250)
    (k : ∀ M2 H2 locs2, Inv M2 → rel M2 M2 → lwW cI cZ cN D s ad M2 H2 locs2 → W p l e room_1 s m #[Value.ref b] below meth c H2 locs2 cells slots Z (F0 m 1209 ls [])) :
    W p l e room_1 s m #[Value.ref b] below meth c H locs cells slots Z (F0 m 33 ls [.int x]) := by
  obtain ⟨hx, hb, -⟩ := id hC.1
  by_cases h : 0 ≤ x.toInt ∧ x.toInt ≤ 28
  · obtain ⟨j, hv⟩ : ∃ j : Nat, x.toInt = (j : Int) := ⟨x.toInt.toNat, by omega⟩
    have hj : j < 29 := by omega
    have sw : ∀ (off : Int) (tgt : Nat), (#[131, 190, 223, 256, 289, 322, 345, 378, 421, 454, 529, 572, 605, 638, 681, 704, 727, 780, 833, 866, 889, 922, 935, 968, 991, 1014, 1067, 1120, 1153] : Array Int)[j]? = some off → ((33 : Nat) : Int) + off = (tgt : Int) → W p l e room_1 s m #[Value.ref b] below meth c H locs cells slots Z (F0 m tgt ls []) → W p l e room_1 s m #[Value.ref b] below meth c H locs cells slots Z (F0 m 33 ls [.int x]) := fun off tgt ho ht kk =>
      lv_tableIn hx hb lw_dsw (by omega) (by omega) (by rw [hv, show ((j : Int) - 0).toNat = j by omega]; exact ho) ht kk
    match j, hj with
    | 0, _ => exact sw 131 164 rfl rfl (lc_0 hC hW hI hR hl hi hf k)
    | 1, _ => exact sw 190 223 rfl rfl (lc_1 hC hW hI hR hl hi hf k)
    | 2, _ => exact sw 223 256 rfl rfl (lc_2 hC hW hI hR hl hi hf k)
    | 3, _ => exact sw 256 289 rfl rfl (lc_3 hC hW hI hR hl hi hf k)
    | 4, _ => exact sw 289 322 rfl rfl (lc_4 hC hW hI hR hl hi hf k)
    | 5, _ => exact sw 322 355 rfl rfl (lc_5 hC hW hI hR hl hi hf k)
    | 6, _ => exact sw 345 378 rfl rfl (lc_6 hC hW hI hR hl hi hf k)
    | 7, _ => exact sw 378 411 rfl rfl (lc_7 hC hW hI hR hl hi hf k)
    | 8, _ => exact sw 421 454 rfl rfl (lc_8 hC hW hI hR hl hi hf k)
    | 9, _ => exact sw 454 487 rfl rfl (lc_9 hC hW hI hR hl hi hf k)
    | 10, _ => exact sw 529 562 rfl rfl (lc_10 hC hW hI hR hl hi hf k)
    | 11, _ => exact sw 572 605 rfl rfl (lc_11 hC hW hI hR hl hi hf k)
    | 12, _ => exact sw 605 638 rfl rfl (lc_12 hC hW hI hR hl hi hf k)
    | 13, _ => exact sw 638 671 rfl rfl (lc_13 hC hW hI hR hl hi hf k)
    | 14, _ => exact sw 681 714 rfl rfl (lc_14 hC hW hI hR hl hi hf k)
    | 15, _ => exact sw 704 737 rfl rfl (lc_15 hC hW hI hR hl hi hf k)
    | 16, _ => exact sw 727 760 rfl rfl (lc_16 hC hW hI hR hl hi hf k)
    | 17, _ => exact sw 780 813 rfl rfl (lc_17 hC hW hI hR hl hi hf k)
    | 18, _ => exact sw 833 866 rfl rfl (lc_18 hC hW hI hR hl hi hf k)
    | 19, _ => exact sw 866 899 rfl rfl (lc_19 hC hW hI hR hl hi hf k)
    | 20, _ => exact sw 889 922 rfl rfl (lc_20 hC hW hI hR hl hi hf k)
    | 21, _ => exact sw 922 955 rfl rfl (lc_21 hC hW hI hR hl hi hf k)
    | 22, _ => exact sw 935 968 rfl rfl (lc_22 hC hW hI hR hl hi hf k)
    | 23, _ => exact sw 968 1001 rfl rfl (lc_23 hC hW hI hR hl hi hf k)
    | 24, _ => exact sw 991 1024 rfl rfl (lc_24 hC hW hI hR hl hi hf k)
    | 25, _ => exact sw 1014 1047 rfl rfl (lc_25 hC hW hI hR hl hi hf k)
    | 26, _ => exact sw 1067 1100 rfl rfl (lc_26 hC hW hI hR hl hi hf k)
    | 27, _ => exact sw 1120 1153 rfl rfl (lc_27 hC hW hI hR hl hi hf k)
    | 28, _ => exact sw 1153 1186 rfl rfl (lc_28 hC hW hI hR hl hi hf k)
    | n + 29, h => omega
  · exact lv_tableOut (tgt := 1209) hx hb lw_dsw (by omega) (by decide) (k M H locs hI hR hW)
theorem lw_loop (hC : lwC p s m meth c b L xs cI cZ cN D) :
    ∀ (n i : Nat), L ≤ i + n → ∀ (M : jM) (H : Heap) (locs : List Loc) (ls : Array Slot), i ≤ L + 7 → lwW cI cZ cN D s ad M H locs → Inv M → rel M M → lv_has ls 4 (lwL b ad i) → W p l e room_1 s m #[Value.ref b] below meth c H locs 174 4021 (lw_Z below #[Value.ref b] s) (F0 m 18 ls []) := by
  obtain ⟨⟨hx, hb, hml, hown, hts, hN⟩, hr, hlk, hX, hbl, hL, hK⟩ := id hC
  intro n
  induction n with
  | zero =>
    intro i hin M H locs ls hiL hW hI hR hl
    have hS := hW.2.2.2
    refine lv_iload_n hx hb (show decode code 18 = .ok (.iload_n 3, 1) by decide +kernel) rfl (lv_at hl 3 rfl) ?_
    refine lv_aload_n hx hb (show decode code 19 = .ok (.aload_n 0, 1) by decide +kernel) rfl (lv_at hl 0 rfl) ?_
    refine va_slen hx hb hX hbl (Nat.not_le.mpr hbl) hS (show decode code 20 = .ok (.arraylength, 1) by decide +kernel) ?_
    refine lv_bipush (v := nI 7) hx hb (show decode code 21 = .ok (.bipush 7, 2) by decide +kernel) (by decide +kernel) ?_
    refine lv_isub hx hb (show decode code 23 = .ok (.isub, 1) by decide +kernel) ?_
    refine lv_icmp_gt (tgt := 1215) hx hb (show decode code 24 = .ok (.if_icmp .gt 1191, 3) by decide +kernel) (by decide) (fun h => ?_) (fun h => absurd ?_ h)
    · refine lv_iconst (v := 1) hx hb (show decode code 1215 = .ok (.iconst 1, 1) by decide +kernel) (by decide) ?_
      refine va_forget (fun q hq => hS.2.2 q hq) ?_
      refine W.widen (k := 600000) (n := 7302250) (Nat.le_of_ble_eq_true rfl) (Nat.le_of_ble_eq_true rfl) ?_
      exact lw_ret hx hb hr hlk (show decode code 1216 = .ok (.ireturn, 1) by decide +kernel)
    · show nI L - nI 7 < nI i
      rw [Int32.lt_iff_toInt_lt, pk_sub_toInt (by omega) (by omega), nI_toInt (by omega)]
      omega
  | succ n ih =>
    intro i hin M H locs ls hiL hW hI hR hl
    have hS := hW.2.2.2
    refine lv_iload_n hx hb (show decode code 18 = .ok (.iload_n 3, 1) by decide +kernel) rfl (lv_at hl 3 rfl) ?_
    refine lv_aload_n hx hb (show decode code 19 = .ok (.aload_n 0, 1) by decide +kernel) rfl (lv_at hl 0 rfl) ?_
    refine va_slen hx hb hX hbl (Nat.not_le.mpr hbl) hS (show decode code 20 = .ok (.arraylength, 1) by decide +kernel) ?_
    refine lv_bipush (v := nI 7) hx hb (show decode code 21 = .ok (.bipush 7, 2) by decide +kernel) (by decide +kernel) ?_
    refine lv_isub hx hb (show decode code 23 = .ok (.isub, 1) by decide +kernel) ?_
    refine lv_icmp_gt (tgt := 1215) hx hb (show decode code 24 = .ok (.if_icmp .gt 1191, 3) by decide +kernel) (by decide) (fun h => ?_) (fun h => ?_)
    · refine lv_iconst (v := 1) hx hb (show decode code 1215 = .ok (.iconst 1, 1) by decide +kernel) (by decide) ?_
      refine va_forget (fun q hq => hS.2.2 q hq) ?_
      refine W.widen (k := 600000) (n := 7302250) (Nat.le_of_ble_eq_true rfl) (Nat.le_of_ble_eq_true rfl) ?_
      exact lw_ret hx hb hr hlk (show decode code 1216 = .ok (.ireturn, 1) by decide +kernel)
    · have hi7 : i + 7 ≤ L := by
        replace h : ¬ nI L - nI 7 < nI i := h
        rw [Int32.lt_iff_toInt_lt, pk_sub_toInt (by omega) (by omega), nI_toInt (by omega)] at h
        omega
      refine lv_aload_n hx hb (show decode code 27 = .ok (.aload_n 0, 1) by decide +kernel) rfl (lv_at hl 0 rfl) ?_
      refine lv_iload_n hx hb (show decode code 28 = .ok (.iload_n 3, 1) by decide +kernel) rfl (lv_at hl 3 rfl) ?_
      refine va_sld hx hb hX hbl (Nat.not_le.mpr hbl) hS (vp_in_nI (show i < L by omega) (by omega)) (show decode code 29 = .ok (.iaload, 1) by decide +kernel) ?_
      refine lv_bipush (v := 31) hx hb (show decode code 30 = .ok (.bipush 31, 2) by decide +kernel) (by decide +kernel) ?_
      refine lv_iand hx hb (show decode code 32 = .ok (.iand, 1) by decide +kernel) ?_
      refine lw_switch hC hW hI hR hl hi7 ⟨Nat.le_of_ble_eq_true rfl, Nat.le_of_ble_eq_true rfl⟩ (fun M2 H2 locs2 hI2 hR2 hW2 => ?_)
      refine lv_iinc (v := nI (i + 7)) (lv' := [(3, .int (nI (i + 7))), (0, .ref b), (1, .ref (ad 18 0)), (2, .ref (ad 28 0))]) hx hb (show decode code 1209 = .ok (.iinc 3 7, 3) by decide +kernel) hl (k := 3) rfl (by rw [← nI_add]; rfl) (by decide) rfl (fun ls hl => ?_)
      refine lv_goto (tgt := 18) hx hb (show decode code 1212 = .ok (.goto (-1194), 3) by decide +kernel) (by decide) ?_
      exact ih (i + 7) (by omega) M2 H2 locs2 ls (by omega) hW2 hI2 hR2 (lv_sub hl [1, 2, 3, 0] rfl)
end LOOP
set_option maxHeartbeats 4000000 in
set_option maxRecDepth 100000 in
/-- the law, from its entry -/
theorem whole_start {p : Program} {e : Env} {s : State} {m : MethodId} {below : List Frame} {meth : Method} {c : Code} (l : Launch) (hflags : l.flags = flags0) {b L : Nat} {xs : Nat → Int32} (hL : L ≤ 3584) (C0 : lw_At p s m meth c b L xs) : W p l e room_1 s m #[Value.ref b] below meth c s.heap [] 0 0 (lw_Z below #[Value.ref b] s) (entryFrame m ([Value.ref b] : List Value).toArray 4) := by
  obtain ⟨hx, hb, hr, hml, hown, htsT, hX, hbl, hlocks, hgv⟩ := id C0
  have hts : ∀ w ∈ wsL_law, w.before #[Value.ref b] s = true := fun w hw => htsT w (wsL_law_in w hw)
  have hN := lw_kN htsT
  obtain ⟨D, cI, cZ, cN, hK⟩ := lw_K hts hN.2
  have hC : kCx RL code 4 p s m #[Value.ref b] c := ⟨hx, hb, hml, hown, hts, hN⟩
  have hC9 : lwC p s m meth c b L xs cI cZ cN D := ⟨hC, hr, hlocks, hX, hbl, hL, hK⟩
  have hW : kWd (fun q : Nat => s.heap.size ≤ q) cI cZ cN D s [] s.heap [] := ⟨fun k q h => by simp at h, ⟨fun i j p q h => by simp at h, fun k q h => by simp at h⟩, va_S.rf, fun _ h => h, hK⟩
  have hl := lv_entry ([.ref b]) (n := 4) (Nat.le_of_ble_eq_true rfl)
  rw [lg_entry_eq]
  generalize (lg_sl ([.ref b]) ++ List.replicate (4 - (lg_sl ([.ref b])).length) Slot.unset).toArray = ls at hl ⊢
  have hl : lv_has ls 4 [(0, .ref b)] := hl
  refine k_new (C := RX9) (T := TX9) (N := 12) (ci := 9) (fs := [.null, .null, .null, .null, .null, .null, .null, .null, .int 0, .int 0, .int 0, .int 0]) hC hW rfl (jcl_ok 9 (by decide)).2.1 tyX9 tyX9_ok (jw_mem (p := 0) rfl) (jw_mem (p := 1) rfl) (jw_mem (p := 2) rfl) kbX9 (Nat.le_of_ble_eq_true rfl) (Nat.le_of_ble_eq_true rfl) (show decode code 0 = .ok (.new 7, 3) by decide +kernel) (fun q0 H hW => ?_)
  refine lv_dup hx hb (show decode code 3 = .ok (.dup, 1) by decide +kernel) rfl ?_
  refine k_call (wr := []) (wc := [(q0, .inr (9, [.null, .null, .null, .null, .null, .null, .null, .null, .int 0, .int 0, .int 0, .int 0]))]) (As := []) (rest := [.ref q0]) (n := 0) hC (i_LikeTales l cI cZ cN D q0) hW (jw_mem (p := 8) rfl) (jw_mem (p := 2) rfl) (jw_mem (p := 6) rfl) (jw_mem (p := 7) rfl) rfl (by decide +kernel) rfl ⟨Nat.le_of_ble_eq_true rfl, Nat.le_of_ble_eq_true rfl⟩ hl.1 (Nat.le_of_ble_eq_true rfl) (show decode code 4 = .ok (.invokespecial 9, 3) by decide +kernel) ⟨Nat.le_of_ble_eq_true rfl, Nat.le_of_ble_eq_true rfl⟩ (fun w1 H locs hpost hW => ?_)
  obtain ⟨f, bb, LL, hp⟩ := hpost
  refine lv_astore_n (lv' := [(1, .ref q0), (0, .ref b)]) hx hb (show decode code 7 = .ok (.astore_n 1, 1) by decide +kernel) rfl hl (by decide) rfl (fun ls hl => ?_)
  refine k_new (C := RX10) (T := TX10) (N := 36) (ci := 10) (fs := [.null, .null, .null, .null, .int 0, .null, .null, .null, .null, .null, .null, .null, .int 0, .null, .int 0, .int 0, .int 0, .int 0, .int 0, .int 0, .null, .null, .int 0, .null, .null, .int 0, .int 0, .int 0, .int 0, .int 0, .null, .null, .null, .null, .null, .null]) hC hW rfl (jcl_ok 10 (by decide)).2.1 tyX10 tyX10_ok (jw_mem (p := 3) rfl) (jw_mem (p := 4) rfl) (jw_mem (p := 5) rfl) kbX10 (Nat.le_of_ble_eq_true rfl) (Nat.le_of_ble_eq_true rfl) (show decode code 8 = .ok (.new 10, 3) by decide +kernel) (fun qm H hW => ?_)
  refine lv_dup hx hb (show decode code 11 = .ok (.dup, 1) by decide +kernel) rfl ?_
  refine k_call (wr := [] ++ w1) (wc := [(qm, .inr (10, [.null, .null, .null, .null, .int 0, .null, .null, .null, .null, .null, .null, .null, .int 0, .null, .int 0, .int 0, .int 0, .int 0, .int 0, .int 0, .null, .null, .int 0, .null, .null, .int 0, .int 0, .int 0, .int 0, .int 0, .null, .null, .null, .null, .null, .null]))]) (As := []) (rest := [.ref qm]) (n := 0) hC (i_Model l cI cZ cN D qm) hW (jw_mem (p := 456) rfl) (jw_mem (p := 5) rfl) (jw_mem (p := 454) rfl) (jw_mem (p := 455) rfl) rfl (by decide +kernel) rfl ⟨Nat.le_of_ble_eq_true rfl, Nat.le_of_ble_eq_true rfl⟩ hl.1 (Nat.le_of_ble_eq_true rfl) (show decode code 12 = .ok (.invokespecial 12, 3) by decide +kernel) ⟨Nat.le_of_ble_eq_true rfl, Nat.le_of_ble_eq_true rfl⟩ (fun w2 H locs hpost hW => ?_)
  obtain ⟨am, rfl⟩ := hpost
  obtain ⟨e1, e2⟩ := hp qm am
  refine lv_astore_n (lv' := [(2, .ref qm), (1, .ref q0), (0, .ref b)]) hx hb (show decode code 15 = .ok (.astore_n 2, 1) by decide +kernel) rfl hl (by decide) rfl (fun ls hl => ?_)
  refine lv_iconst (v := 0) hx hb (show decode code 16 = .ok (.iconst 0, 1) by decide +kernel) (by decide) ?_
  refine lv_istore_n (lv' := [(3, .int 0), (2, .ref qm), (1, .ref q0), (0, .ref b)]) hx hb (show decode code 17 = .ok (.istore_n 3, 1) by decide +kernel) rfl hl (by decide) rfl (fun ls hl => ?_)
  have e3 : kAd f bb LL qm am 28 0 = qm := rfl
  have e4 : kMo cI cZ qm am = kMo cI cZ (kAd f bb LL qm am 28 0) (kAd f bb LL qm am 28) := rfl
  rw [List.nil_append, e1, e4] at hW
  have hW2 := kw_all hW
  have hl2 := lv_sub hl [3, 2, 1, 0] rfl
  rw [← e2] at hl2
  rw [← e3] at hl2
  exact lw_loop (ad := kAd f bb LL qm am) hC9 L 0 (by omega) kM0 _ _ ls (by omega) ⟨kM0_RM, hW2.1, hW2.2.1, hW2.2.2.1⟩ kM0_I kM0_R hl2
