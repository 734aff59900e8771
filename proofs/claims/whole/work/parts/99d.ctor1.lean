/-! THE CONSTRUCTORS (by ct.py) -/
theorem kbX0 : ∀ j, j < 14 → defaultValue (tyX0 j) = vp_V [.null, .null, .null, .int 0, .null, .null, .null, .null, .null, .null, .null, .null, .null, .null] j := by
  intro j hj
  iterate 14 (rcases j with _ | j; · rfl)
  exact absurd hj (by omega)
theorem kbX1 : ∀ j, j < 6 → defaultValue (tyX1 j) = vp_V [.null, .null, .null, .int 0, .null, .null] j := by
  intro j hj
  iterate 6 (rcases j with _ | j; · rfl)
  exact absurd hj (by omega)
theorem kbX2 : ∀ j, j < 8 → defaultValue (tyX2 j) = vp_V [.int 0, .int 0, .int 0, .null, .null, .null, .null, .null] j := by
  intro j hj
  iterate 8 (rcases j with _ | j; · rfl)
  exact absurd hj (by omega)
theorem kbX3 : ∀ j, j < 4 → defaultValue (tyX3 j) = vp_V [.null, .null, .null, .null] j := by
  intro j hj
  iterate 4 (rcases j with _ | j; · rfl)
  exact absurd hj (by omega)
theorem kbX4 : ∀ j, j < 8 → defaultValue (tyX4 j) = vp_V [.int 0, .int 0, .int 0, .null, .null, .null, .null, .null] j := by
  intro j hj
  iterate 8 (rcases j with _ | j; · rfl)
  exact absurd hj (by omega)
theorem kbX5 : ∀ j, j < 14 → defaultValue (tyX5 j) = vp_V [.null, .null, .null, .null, .int 0, .null, .int 0, .int 0, .int 0, .int 0, .null, .int 0, .int 0, .int 0] j := by
  intro j hj
  iterate 14 (rcases j with _ | j; · rfl)
  exact absurd hj (by omega)
theorem kbX6 : ∀ j, j < 5 → defaultValue (tyX6 j) = vp_V [.null, .null, .null, .int 0, .int 0] j := by
  intro j hj
  iterate 5 (rcases j with _ | j; · rfl)
  exact absurd hj (by omega)
theorem kbX7 : ∀ j, j < 8 → defaultValue (tyX7 j) = vp_V [.null, .null, .int 0, .null, .null, .int 0, .null, .null] j := by
  intro j hj
  iterate 8 (rcases j with _ | j; · rfl)
  exact absurd hj (by omega)
theorem kbX8 : ∀ j, j < 9 → defaultValue (tyX8 j) = vp_V [.null, .null, .null, .null, .null, .null, .null, .null, .null] j := by
  intro j hj
  iterate 9 (rcases j with _ | j; · rfl)
  exact absurd hj (by omega)
theorem kbX9 : ∀ j, j < 12 → defaultValue (tyX9 j) = vp_V [.null, .null, .null, .null, .null, .null, .null, .null, .int 0, .int 0, .int 0, .int 0] j := by
  intro j hj
  iterate 12 (rcases j with _ | j; · rfl)
  exact absurd hj (by omega)
theorem kbX10 : ∀ j, j < 36 → defaultValue (tyX10 j) = vp_V [.null, .null, .null, .null, .int 0, .null, .null, .null, .null, .null, .null, .null, .int 0, .null, .int 0, .int 0, .int 0, .int 0, .int 0, .int 0, .null, .null, .int 0, .null, .null, .int 0, .int 0, .int 0, .int 0, .int 0, .null, .null, .null, .null, .null, .null] j := by
  intro j hj
  iterate 36 (rcases j with _ | j; · rfl)
  exact absurd hj (by omega)
def kNet (cI : ClassId) (h0 : Nat) (a : Nat → Nat) : va_W := [(h0, .inr (4, [.int 0, .int 0, .int 0, .ref (a 4), .ref (a 5), .ref (a 6), .ref (a 7), .ref (a 8)])), (a 4, kZ cI 6), (a 5, kZ cI 14), (a 6, kZ cI 42), (a 7, kZ cI 14), (a 8, kZ cI 14)]
set_option maxHeartbeats 4000000 in
set_option maxRecDepth 100000 in
theorem i_Net (l : Launch) (cI cZ cN : ClassId) (D : va_G) (h0 : Nat) : kMet l yX4_init cX4_init 1 2 64 5 90 cI cZ cN D [.ref h0] [(h0, .inr (4, [.int 0, .int 0, .int 0, .null, .null, .null, .null, .null]))] (fun w1 => ∃ a : Nat → Nat, w1 = kNet cI h0 a) := by
  refine k_start (by decide +kernel) rfl ?_
  intro p e s m args below meth c ls hC hW hname hr hlocks hl
  obtain ⟨hx, hb, -⟩ := id hC
  have hl : lv_has ls 1 [(0, .ref h0)] := hl
  refine lv_aload_n hx hb (show decode cX4_init 0 = .ok (.aload_n 0, 1) by decide +kernel) rfl (lv_at hl 0 rfl) ?_
  refine k_obj hC (jw_mem (p := 205) rfl) (jw_mem (p := 10) rfl) (jw_mem (p := 11) rfl) hl.1 (Nat.le_of_ble_eq_true rfl) (Nat.le_of_ble_eq_true rfl) (show decode cX4_init 1 = .ok (.invokespecial 3, 3) by decide +kernel) ?_
  refine lv_aload_n hx hb (show decode cX4_init 4 = .ok (.aload_n 0, 1) by decide +kernel) rfl (lv_at hl 0 rfl) ?_
  refine lv_iconst (v := 0) hx hb (show decode cX4_init 5 = .ok (.iconst 0, 1) by decide +kernel) (by decide) ?_
  refine k_put (q0 := 0) (sl := 0) (v := .int 0) (C := RX4) (T := TX4) (N := 8) (ty := tyX4 0) hC hW hname rfl rfl (jcl_ok 4 (by decide)).2.1 tyX4 tyX4_ok nmX4 (by decide) (jw_mem (p := 206) rfl) rfl rfl (by decide +kernel) rfl rfl (Nat.le_of_ble_eq_true rfl) (show decode cX4_init 6 = .ok (.putfield 9, 3) by decide +kernel) (fun H locs hW => ?_)
  have hW : kWd _ cI cZ cN D s ((h0, .inr (4, [.int 0, .int 0, .int 0, .null, .null, .null, .null, .null])) :: [] : va_W) H _ := hW
  refine lv_aload_n hx hb (show decode cX4_init 9 = .ok (.aload_n 0, 1) by decide +kernel) rfl (lv_at hl 0 rfl) ?_
  refine lv_iconst (v := 0) hx hb (show decode cX4_init 10 = .ok (.iconst 0, 1) by decide +kernel) (by decide) ?_
  refine k_put (q0 := 0) (sl := 1) (v := .int 0) (C := RX4) (T := TX4) (N := 8) (ty := tyX4 1) hC hW hname rfl rfl (jcl_ok 4 (by decide)).2.1 tyX4 tyX4_ok nmX4 (by decide) (jw_mem (p := 207) rfl) rfl rfl (by decide +kernel) rfl rfl (Nat.le_of_ble_eq_true rfl) (show decode cX4_init 11 = .ok (.putfield 15, 3) by decide +kernel) (fun H locs hW => ?_)
  have hW : kWd _ cI cZ cN D s ((h0, .inr (4, [.int 0, .int 0, .int 0, .null, .null, .null, .null, .null])) :: [] : va_W) H _ := hW
  refine lv_aload_n hx hb (show decode cX4_init 14 = .ok (.aload_n 0, 1) by decide +kernel) rfl (lv_at hl 0 rfl) ?_
  refine lv_iconst (v := 0) hx hb (show decode cX4_init 15 = .ok (.iconst 0, 1) by decide +kernel) (by decide) ?_
  refine k_put (q0 := 0) (sl := 2) (v := .int 0) (C := RX4) (T := TX4) (N := 8) (ty := tyX4 2) hC hW hname rfl rfl (jcl_ok 4 (by decide)).2.1 tyX4 tyX4_ok nmX4 (by decide) (jw_mem (p := 208) rfl) rfl rfl (by decide +kernel) rfl rfl (Nat.le_of_ble_eq_true rfl) (show decode cX4_init 16 = .ok (.putfield 18, 3) by decide +kernel) (fun H locs hW => ?_)
  have hW : kWd _ cI cZ cN D s ((h0, .inr (4, [.int 0, .int 0, .int 0, .null, .null, .null, .null, .null])) :: [] : va_W) H _ := hW
  refine lv_aload_n hx hb (show decode cX4_init 19 = .ok (.aload_n 0, 1) by decide +kernel) rfl (lv_at hl 0 rfl) ?_
  refine lv_bipush (v := 6) hx hb (show decode cX4_init 20 = .ok (.bipush 6, 2) by decide +kernel) (by decide) ?_
  refine k_newI (N := 6) hC hW (jw_mem (p := 135) rfl) (by decide) (by decide +kernel) (Nat.le_of_ble_eq_true rfl) (Nat.le_of_ble_eq_true rfl) (Nat.le_of_ble_eq_true rfl) (show decode cX4_init 22 = .ok (.newarray .int, 2) by decide +kernel) (fun q22 H hW => ?_)
  have hW : kWd _ cI cZ cN D s ((h0, .inr (4, [.int 0, .int 0, .int 0, .null, .null, .null, .null, .null])) :: [(q22, kZ cI 6)] : va_W) H _ := hW
  refine k_put (q0 := 0) (sl := 3) (v := .ref q22) (C := RX4) (T := TX4) (N := 8) (ty := tyX4 3) hC hW hname rfl rfl (jcl_ok 4 (by decide)).2.1 tyX4 tyX4_ok nmX4 (by decide) (jw_mem (p := 209) rfl) rfl rfl (by decide +kernel) rfl rfl (Nat.le_of_ble_eq_true rfl) (show decode cX4_init 24 = .ok (.putfield 21, 3) by decide +kernel) (fun H locs hW => ?_)
  have hW : kWd _ cI cZ cN D s ((h0, .inr (4, [.int 0, .int 0, .int 0, .ref q22, .null, .null, .null, .null])) :: [(q22, kZ cI 6)] : va_W) H _ := hW
  refine lv_aload_n hx hb (show decode cX4_init 27 = .ok (.aload_n 0, 1) by decide +kernel) rfl (lv_at hl 0 rfl) ?_
  refine lv_bipush (v := 14) hx hb (show decode cX4_init 28 = .ok (.bipush 14, 2) by decide +kernel) (by decide) ?_
  refine k_newI (N := 14) hC hW (jw_mem (p := 135) rfl) (by decide) (by decide +kernel) (Nat.le_of_ble_eq_true rfl) (Nat.le_of_ble_eq_true rfl) (Nat.le_of_ble_eq_true rfl) (show decode cX4_init 30 = .ok (.newarray .int, 2) by decide +kernel) (fun q30 H hW => ?_)
  have hW : kWd _ cI cZ cN D s ((h0, .inr (4, [.int 0, .int 0, .int 0, .ref q22, .null, .null, .null, .null])) :: ([(q22, kZ cI 6)] ++ [(q30, kZ cI 14)]) : va_W) H _ := hW
  refine k_put (q0 := 0) (sl := 4) (v := .ref q30) (C := RX4) (T := TX4) (N := 8) (ty := tyX4 4) hC hW hname rfl rfl (jcl_ok 4 (by decide)).2.1 tyX4 tyX4_ok nmX4 (by decide) (jw_mem (p := 210) rfl) rfl rfl (by decide +kernel) rfl rfl (Nat.le_of_ble_eq_true rfl) (show decode cX4_init 32 = .ok (.putfield 25, 3) by decide +kernel) (fun H locs hW => ?_)
  have hW : kWd _ cI cZ cN D s ((h0, .inr (4, [.int 0, .int 0, .int 0, .ref q22, .ref q30, .null, .null, .null])) :: ([(q22, kZ cI 6)] ++ [(q30, kZ cI 14)]) : va_W) H _ := hW
  refine lv_aload_n hx hb (show decode cX4_init 35 = .ok (.aload_n 0, 1) by decide +kernel) rfl (lv_at hl 0 rfl) ?_
  refine lv_bipush (v := 42) hx hb (show decode cX4_init 36 = .ok (.bipush 42, 2) by decide +kernel) (by decide) ?_
  refine k_newI (N := 42) hC hW (jw_mem (p := 135) rfl) (by decide) (by decide +kernel) (Nat.le_of_ble_eq_true rfl) (Nat.le_of_ble_eq_true rfl) (Nat.le_of_ble_eq_true rfl) (show decode cX4_init 38 = .ok (.newarray .int, 2) by decide +kernel) (fun q38 H hW => ?_)
  have hW : kWd _ cI cZ cN D s ((h0, .inr (4, [.int 0, .int 0, .int 0, .ref q22, .ref q30, .null, .null, .null])) :: (([(q22, kZ cI 6)] ++ [(q30, kZ cI 14)]) ++ [(q38, kZ cI 42)]) : va_W) H _ := hW
  refine k_put (q0 := 0) (sl := 5) (v := .ref q38) (C := RX4) (T := TX4) (N := 8) (ty := tyX4 5) hC hW hname rfl rfl (jcl_ok 4 (by decide)).2.1 tyX4 tyX4_ok nmX4 (by decide) (jw_mem (p := 211) rfl) rfl rfl (by decide +kernel) rfl rfl (Nat.le_of_ble_eq_true rfl) (show decode cX4_init 40 = .ok (.putfield 28, 3) by decide +kernel) (fun H locs hW => ?_)
  have hW : kWd _ cI cZ cN D s ((h0, .inr (4, [.int 0, .int 0, .int 0, .ref q22, .ref q30, .ref q38, .null, .null])) :: (([(q22, kZ cI 6)] ++ [(q30, kZ cI 14)]) ++ [(q38, kZ cI 42)]) : va_W) H _ := hW
  refine lv_aload_n hx hb (show decode cX4_init 43 = .ok (.aload_n 0, 1) by decide +kernel) rfl (lv_at hl 0 rfl) ?_
  refine lv_bipush (v := 14) hx hb (show decode cX4_init 44 = .ok (.bipush 14, 2) by decide +kernel) (by decide) ?_
  refine k_newI (N := 14) hC hW (jw_mem (p := 135) rfl) (by decide) (by decide +kernel) (Nat.le_of_ble_eq_true rfl) (Nat.le_of_ble_eq_true rfl) (Nat.le_of_ble_eq_true rfl) (show decode cX4_init 46 = .ok (.newarray .int, 2) by decide +kernel) (fun q46 H hW => ?_)
  have hW : kWd _ cI cZ cN D s ((h0, .inr (4, [.int 0, .int 0, .int 0, .ref q22, .ref q30, .ref q38, .null, .null])) :: ((([(q22, kZ cI 6)] ++ [(q30, kZ cI 14)]) ++ [(q38, kZ cI 42)]) ++ [(q46, kZ cI 14)]) : va_W) H _ := hW
  refine k_put (q0 := 0) (sl := 6) (v := .ref q46) (C := RX4) (T := TX4) (N := 8) (ty := tyX4 6) hC hW hname rfl rfl (jcl_ok 4 (by decide)).2.1 tyX4 tyX4_ok nmX4 (by decide) (jw_mem (p := 212) rfl) rfl rfl (by decide +kernel) rfl rfl (Nat.le_of_ble_eq_true rfl) (show decode cX4_init 48 = .ok (.putfield 31, 3) by decide +kernel) (fun H locs hW => ?_)
  have hW : kWd _ cI cZ cN D s ((h0, .inr (4, [.int 0, .int 0, .int 0, .ref q22, .ref q30, .ref q38, .ref q46, .null])) :: ((([(q22, kZ cI 6)] ++ [(q30, kZ cI 14)]) ++ [(q38, kZ cI 42)]) ++ [(q46, kZ cI 14)]) : va_W) H _ := hW
  refine lv_aload_n hx hb (show decode cX4_init 51 = .ok (.aload_n 0, 1) by decide +kernel) rfl (lv_at hl 0 rfl) ?_
  refine lv_bipush (v := 14) hx hb (show decode cX4_init 52 = .ok (.bipush 14, 2) by decide +kernel) (by decide) ?_
  refine k_newI (N := 14) hC hW (jw_mem (p := 135) rfl) (by decide) (by decide +kernel) (Nat.le_of_ble_eq_true rfl) (Nat.le_of_ble_eq_true rfl) (Nat.le_of_ble_eq_true rfl) (show decode cX4_init 54 = .ok (.newarray .int, 2) by decide +kernel) (fun q54 H hW => ?_)
  have hW : kWd _ cI cZ cN D s ((h0, .inr (4, [.int 0, .int 0, .int 0, .ref q22, .ref q30, .ref q38, .ref q46, .null])) :: (((([(q22, kZ cI 6)] ++ [(q30, kZ cI 14)]) ++ [(q38, kZ cI 42)]) ++ [(q46, kZ cI 14)]) ++ [(q54, kZ cI 14)]) : va_W) H _ := hW
  refine k_put (q0 := 0) (sl := 7) (v := .ref q54) (C := RX4) (T := TX4) (N := 8) (ty := tyX4 7) hC hW hname rfl rfl (jcl_ok 4 (by decide)).2.1 tyX4 tyX4_ok nmX4 (by decide) (jw_mem (p := 213) rfl) rfl rfl (by decide +kernel) rfl rfl (Nat.le_of_ble_eq_true rfl) (show decode cX4_init 56 = .ok (.putfield 34, 3) by decide +kernel) (fun H locs hW => ?_)
  have hW : kWd _ cI cZ cN D s ((h0, .inr (4, [.int 0, .int 0, .int 0, .ref q22, .ref q30, .ref q38, .ref q46, .ref q54])) :: (((([(q22, kZ cI 6)] ++ [(q30, kZ cI 14)]) ++ [(q38, kZ cI 42)]) ++ [(q46, kZ cI 14)]) ++ [(q54, kZ cI 14)]) : va_W) H _ := hW
  exact k_ret hC hW hr hlocks ⟨(fun k => match k with | 4 => q22 | 5 => q30 | 6 => q38 | 7 => q46 | 8 => q54 | _ => 0), rfl⟩ (show decode cX4_init 59 = .ok (.return_, 1) by decide +kernel) (Nat.le_of_ble_eq_true rfl) (Nat.le_of_ble_eq_true rfl)
def kGs (cI : ClassId) (h0 x1 x2 x3 : Nat) (a : Nat → Nat) : va_W := [(h0, .inr (1, [.ref x1, .ref x2, .ref x3, .int 0, .ref (a 5), .ref (a 6)])), (a 5, kZ cI 14), (a 6, kZ cI 14)]
set_option maxHeartbeats 4000000 in
set_option maxRecDepth 100000 in
theorem i_Guesses (l : Launch) (cI cZ cN : ClassId) (D : va_G) (h0 x1 x2 x3 : Nat) : kMet l yX1_init cX1_init 4 2 64 2 28 cI cZ cN D [.ref h0, .ref x1, .ref x2, .ref x3] [(h0, .inr (1, [.null, .null, .null, .int 0, .null, .null]))] (fun w1 => ∃ a : Nat → Nat, w1 = kGs cI h0 x1 x2 x3 a) := by
  refine k_start (by decide +kernel) rfl ?_
  intro p e s m args below meth c ls hC hW hname hr hlocks hl
  obtain ⟨hx, hb, -⟩ := id hC
  have hl : lv_has ls 4 [(0, .ref h0), (1, .ref x1), (2, .ref x2), (3, .ref x3)] := hl
  refine lv_aload_n hx hb (show decode cX1_init 0 = .ok (.aload_n 0, 1) by decide +kernel) rfl (lv_at hl 0 rfl) ?_
  refine k_obj hC (jw_mem (p := 343) rfl) (jw_mem (p := 10) rfl) (jw_mem (p := 11) rfl) hl.1 (Nat.le_of_ble_eq_true rfl) (Nat.le_of_ble_eq_true rfl) (show decode cX1_init 1 = .ok (.invokespecial 3, 3) by decide +kernel) ?_
  refine lv_aload_n hx hb (show decode cX1_init 4 = .ok (.aload_n 0, 1) by decide +kernel) rfl (lv_at hl 0 rfl) ?_
  refine lv_iconst (v := 0) hx hb (show decode cX1_init 5 = .ok (.iconst 0, 1) by decide +kernel) (by decide) ?_
  refine k_put (q0 := 0) (sl := 3) (v := .int 0) (C := RX1) (T := TX1) (N := 6) (ty := tyX1 3) hC hW hname rfl rfl (jcl_ok 1 (by decide)).2.1 tyX1 tyX1_ok nmX1 (by decide) (jw_mem (p := 384) rfl) rfl rfl (by decide +kernel) rfl rfl (Nat.le_of_ble_eq_true rfl) (show decode cX1_init 6 = .ok (.putfield 9, 3) by decide +kernel) (fun H locs hW => ?_)
  have hW : kWd _ cI cZ cN D s ((h0, .inr (1, [.null, .null, .null, .int 0, .null, .null])) :: [] : va_W) H _ := hW
  refine lv_aload_n hx hb (show decode cX1_init 9 = .ok (.aload_n 0, 1) by decide +kernel) rfl (lv_at hl 0 rfl) ?_
  refine lv_bipush (v := 14) hx hb (show decode cX1_init 10 = .ok (.bipush 14, 2) by decide +kernel) (by decide) ?_
  refine k_newI (N := 14) hC hW (jw_mem (p := 135) rfl) (by decide) (by decide +kernel) (Nat.le_of_ble_eq_true rfl) (Nat.le_of_ble_eq_true rfl) (Nat.le_of_ble_eq_true rfl) (show decode cX1_init 12 = .ok (.newarray .int, 2) by decide +kernel) (fun q12 H hW => ?_)
  have hW : kWd _ cI cZ cN D s ((h0, .inr (1, [.null, .null, .null, .int 0, .null, .null])) :: [(q12, kZ cI 14)] : va_W) H _ := hW
  refine k_put (q0 := 0) (sl := 4) (v := .ref q12) (C := RX1) (T := TX1) (N := 6) (ty := tyX1 4) hC hW hname rfl rfl (jcl_ok 1 (by decide)).2.1 tyX1 tyX1_ok nmX1 (by decide) (jw_mem (p := 385) rfl) rfl rfl (by decide +kernel) rfl rfl (Nat.le_of_ble_eq_true rfl) (show decode cX1_init 14 = .ok (.putfield 15, 3) by decide +kernel) (fun H locs hW => ?_)
  have hW : kWd _ cI cZ cN D s ((h0, .inr (1, [.null, .null, .null, .int 0, .ref q12, .null])) :: [(q12, kZ cI 14)] : va_W) H _ := hW
  refine lv_aload_n hx hb (show decode cX1_init 17 = .ok (.aload_n 0, 1) by decide +kernel) rfl (lv_at hl 0 rfl) ?_
  refine lv_bipush (v := 14) hx hb (show decode cX1_init 18 = .ok (.bipush 14, 2) by decide +kernel) (by decide) ?_
  refine k_newI (N := 14) hC hW (jw_mem (p := 135) rfl) (by decide) (by decide +kernel) (Nat.le_of_ble_eq_true rfl) (Nat.le_of_ble_eq_true rfl) (Nat.le_of_ble_eq_true rfl) (show decode cX1_init 20 = .ok (.newarray .int, 2) by decide +kernel) (fun q20 H hW => ?_)
  have hW : kWd _ cI cZ cN D s ((h0, .inr (1, [.null, .null, .null, .int 0, .ref q12, .null])) :: ([(q12, kZ cI 14)] ++ [(q20, kZ cI 14)]) : va_W) H _ := hW
  refine k_put (q0 := 0) (sl := 5) (v := .ref q20) (C := RX1) (T := TX1) (N := 6) (ty := tyX1 5) hC hW hname rfl rfl (jcl_ok 1 (by decide)).2.1 tyX1 tyX1_ok nmX1 (by decide) (jw_mem (p := 386) rfl) rfl rfl (by decide +kernel) rfl rfl (Nat.le_of_ble_eq_true rfl) (show decode cX1_init 22 = .ok (.putfield 19, 3) by decide +kernel) (fun H locs hW => ?_)
  have hW : kWd _ cI cZ cN D s ((h0, .inr (1, [.null, .null, .null, .int 0, .ref q12, .ref q20])) :: ([(q12, kZ cI 14)] ++ [(q20, kZ cI 14)]) : va_W) H _ := hW
  refine lv_aload_n hx hb (show decode cX1_init 25 = .ok (.aload_n 0, 1) by decide +kernel) rfl (lv_at hl 0 rfl) ?_
  refine lv_aload_n hx hb (show decode cX1_init 26 = .ok (.aload_n 1, 1) by decide +kernel) rfl (lv_at hl 1 rfl) ?_
  refine k_put (q0 := 0) (sl := 0) (v := .ref x1) (C := RX1) (T := TX1) (N := 6) (ty := tyX1 0) hC hW hname rfl rfl (jcl_ok 1 (by decide)).2.1 tyX1 tyX1_ok nmX1 (by decide) (jw_mem (p := 387) rfl) rfl rfl (by decide +kernel) rfl rfl (Nat.le_of_ble_eq_true rfl) (show decode cX1_init 27 = .ok (.putfield 22, 3) by decide +kernel) (fun H locs hW => ?_)
  have hW : kWd _ cI cZ cN D s ((h0, .inr (1, [.ref x1, .null, .null, .int 0, .ref q12, .ref q20])) :: ([(q12, kZ cI 14)] ++ [(q20, kZ cI 14)]) : va_W) H _ := hW
  refine lv_aload_n hx hb (show decode cX1_init 30 = .ok (.aload_n 0, 1) by decide +kernel) rfl (lv_at hl 0 rfl) ?_
  refine lv_aload_n hx hb (show decode cX1_init 31 = .ok (.aload_n 2, 1) by decide +kernel) rfl (lv_at hl 2 rfl) ?_
  refine k_put (q0 := 0) (sl := 1) (v := .ref x2) (C := RX1) (T := TX1) (N := 6) (ty := tyX1 1) hC hW hname rfl rfl (jcl_ok 1 (by decide)).2.1 tyX1 tyX1_ok nmX1 (by decide) (jw_mem (p := 388) rfl) rfl rfl (by decide +kernel) rfl rfl (Nat.le_of_ble_eq_true rfl) (show decode cX1_init 32 = .ok (.putfield 26, 3) by decide +kernel) (fun H locs hW => ?_)
  have hW : kWd _ cI cZ cN D s ((h0, .inr (1, [.ref x1, .ref x2, .null, .int 0, .ref q12, .ref q20])) :: ([(q12, kZ cI 14)] ++ [(q20, kZ cI 14)]) : va_W) H _ := hW
  refine lv_aload_n hx hb (show decode cX1_init 35 = .ok (.aload_n 0, 1) by decide +kernel) rfl (lv_at hl 0 rfl) ?_
  refine lv_aload_n hx hb (show decode cX1_init 36 = .ok (.aload_n 3, 1) by decide +kernel) rfl (lv_at hl 3 rfl) ?_
  refine k_put (q0 := 0) (sl := 2) (v := .ref x3) (C := RX1) (T := TX1) (N := 6) (ty := tyX1 2) hC hW hname rfl rfl (jcl_ok 1 (by decide)).2.1 tyX1 tyX1_ok nmX1 (by decide) (jw_mem (p := 389) rfl) rfl rfl (by decide +kernel) rfl rfl (Nat.le_of_ble_eq_true rfl) (show decode cX1_init 37 = .ok (.putfield 29, 3) by decide +kernel) (fun H locs hW => ?_)
  have hW : kWd _ cI cZ cN D s ((h0, .inr (1, [.ref x1, .ref x2, .ref x3, .int 0, .ref q12, .ref q20])) :: ([(q12, kZ cI 14)] ++ [(q20, kZ cI 14)]) : va_W) H _ := hW
  exact k_ret hC hW hr hlocks ⟨(fun k => match k with | 5 => q12 | 6 => q20 | _ => 0), rfl⟩ (show decode cX1_init 40 = .ok (.return_, 1) by decide +kernel) (Nat.le_of_ble_eq_true rfl) (Nat.le_of_ble_eq_true rfl)
def kSk (cI : ClassId) (h0 x1 x2 : Nat) (a : Nat → Nat) : va_W := [(h0, .inr (6, [.ref x1, .ref x2, .ref (a 3), .int 0, .int (-1)])), (a 3, kZ cI 12)]
set_option maxHeartbeats 4000000 in
set_option maxRecDepth 100000 in
theorem i_Seeker (l : Launch) (cI cZ cN : ClassId) (D : va_G) (h0 x1 x2 : Nat) : kMet l yX6_init cX6_init 3 2 64 1 12 cI cZ cN D [.ref h0, .ref x1, .ref x2] [(h0, .inr (6, [.null, .null, .null, .int 0, .int 0]))] (fun w1 => ∃ a : Nat → Nat, w1 = kSk cI h0 x1 x2 a) := by
  refine k_start (by decide +kernel) rfl ?_
  intro p e s m args below meth c ls hC hW hname hr hlocks hl
  obtain ⟨hx, hb, -⟩ := id hC
  have hl : lv_has ls 3 [(0, .ref h0), (1, .ref x1), (2, .ref x2)] := hl
  refine lv_aload_n hx hb (show decode cX6_init 0 = .ok (.aload_n 0, 1) by decide +kernel) rfl (lv_at hl 0 rfl) ?_
  refine k_obj hC (jw_mem (p := 448) rfl) (jw_mem (p := 10) rfl) (jw_mem (p := 11) rfl) hl.1 (Nat.le_of_ble_eq_true rfl) (Nat.le_of_ble_eq_true rfl) (show decode cX6_init 1 = .ok (.invokespecial 3, 3) by decide +kernel) ?_
  refine lv_aload_n hx hb (show decode cX6_init 4 = .ok (.aload_n 0, 1) by decide +kernel) rfl (lv_at hl 0 rfl) ?_
  refine lv_bipush (v := 12) hx hb (show decode cX6_init 5 = .ok (.bipush 12, 2) by decide +kernel) (by decide) ?_
  refine k_newI (N := 12) hC hW (jw_mem (p := 135) rfl) (by decide) (by decide +kernel) (Nat.le_of_ble_eq_true rfl) (Nat.le_of_ble_eq_true rfl) (Nat.le_of_ble_eq_true rfl) (show decode cX6_init 7 = .ok (.newarray .int, 2) by decide +kernel) (fun q7 H hW => ?_)
  have hW : kWd _ cI cZ cN D s ((h0, .inr (6, [.null, .null, .null, .int 0, .int 0])) :: [(q7, kZ cI 12)] : va_W) H _ := hW
  refine k_put (q0 := 0) (sl := 2) (v := .ref q7) (C := RX6) (T := TX6) (N := 5) (ty := tyX6 2) hC hW hname rfl rfl (jcl_ok 6 (by decide)).2.1 tyX6 tyX6_ok nmX6 (by decide) (jw_mem (p := 449) rfl) rfl rfl (by decide +kernel) rfl rfl (Nat.le_of_ble_eq_true rfl) (show decode cX6_init 9 = .ok (.putfield 9, 3) by decide +kernel) (fun H locs hW => ?_)
  have hW : kWd _ cI cZ cN D s ((h0, .inr (6, [.null, .null, .ref q7, .int 0, .int 0])) :: [(q7, kZ cI 12)] : va_W) H _ := hW
  refine lv_aload_n hx hb (show decode cX6_init 12 = .ok (.aload_n 0, 1) by decide +kernel) rfl (lv_at hl 0 rfl) ?_
  refine lv_iconst (v := 0) hx hb (show decode cX6_init 13 = .ok (.iconst 0, 1) by decide +kernel) (by decide) ?_
  refine k_put (q0 := 0) (sl := 3) (v := .int 0) (C := RX6) (T := TX6) (N := 5) (ty := tyX6 3) hC hW hname rfl rfl (jcl_ok 6 (by decide)).2.1 tyX6 tyX6_ok nmX6 (by decide) (jw_mem (p := 450) rfl) rfl rfl (by decide +kernel) rfl rfl (Nat.le_of_ble_eq_true rfl) (show decode cX6_init 14 = .ok (.putfield 15, 3) by decide +kernel) (fun H locs hW => ?_)
  have hW : kWd _ cI cZ cN D s ((h0, .inr (6, [.null, .null, .ref q7, .int 0, .int 0])) :: [(q7, kZ cI 12)] : va_W) H _ := hW
  refine lv_aload_n hx hb (show decode cX6_init 17 = .ok (.aload_n 0, 1) by decide +kernel) rfl (lv_at hl 0 rfl) ?_
  refine lv_iconst (v := -1) hx hb (show decode cX6_init 18 = .ok (.iconst (-1), 1) by decide +kernel) (by decide) ?_
  refine k_put (q0 := 0) (sl := 4) (v := .int (-1)) (C := RX6) (T := TX6) (N := 5) (ty := tyX6 4) hC hW hname rfl rfl (jcl_ok 6 (by decide)).2.1 tyX6 tyX6_ok nmX6 (by decide) (jw_mem (p := 451) rfl) rfl rfl (by decide +kernel) rfl rfl (Nat.le_of_ble_eq_true rfl) (show decode cX6_init 19 = .ok (.putfield 19, 3) by decide +kernel) (fun H locs hW => ?_)
  have hW : kWd _ cI cZ cN D s ((h0, .inr (6, [.null, .null, .ref q7, .int 0, .int (-1)])) :: [(q7, kZ cI 12)] : va_W) H _ := hW
  refine lv_aload_n hx hb (show decode cX6_init 22 = .ok (.aload_n 0, 1) by decide +kernel) rfl (lv_at hl 0 rfl) ?_
  refine lv_aload_n hx hb (show decode cX6_init 23 = .ok (.aload_n 1, 1) by decide +kernel) rfl (lv_at hl 1 rfl) ?_
  refine k_put (q0 := 0) (sl := 0) (v := .ref x1) (C := RX6) (T := TX6) (N := 5) (ty := tyX6 0) hC hW hname rfl rfl (jcl_ok 6 (by decide)).2.1 tyX6 tyX6_ok nmX6 (by decide) (jw_mem (p := 452) rfl) rfl rfl (by decide +kernel) rfl rfl (Nat.le_of_ble_eq_true rfl) (show decode cX6_init 24 = .ok (.putfield 22, 3) by decide +kernel) (fun H locs hW => ?_)
  have hW : kWd _ cI cZ cN D s ((h0, .inr (6, [.ref x1, .null, .ref q7, .int 0, .int (-1)])) :: [(q7, kZ cI 12)] : va_W) H _ := hW
  refine lv_aload_n hx hb (show decode cX6_init 27 = .ok (.aload_n 0, 1) by decide +kernel) rfl (lv_at hl 0 rfl) ?_
  refine lv_aload_n hx hb (show decode cX6_init 28 = .ok (.aload_n 2, 1) by decide +kernel) rfl (lv_at hl 2 rfl) ?_
  refine k_put (q0 := 0) (sl := 1) (v := .ref x2) (C := RX6) (T := TX6) (N := 5) (ty := tyX6 1) hC hW hname rfl rfl (jcl_ok 6 (by decide)).2.1 tyX6 tyX6_ok nmX6 (by decide) (jw_mem (p := 453) rfl) rfl rfl (by decide +kernel) rfl rfl (Nat.le_of_ble_eq_true rfl) (show decode cX6_init 29 = .ok (.putfield 26, 3) by decide +kernel) (fun H locs hW => ?_)
  have hW : kWd _ cI cZ cN D s ((h0, .inr (6, [.ref x1, .ref x2, .ref q7, .int 0, .int (-1)])) :: [(q7, kZ cI 12)] : va_W) H _ := hW
  exact k_ret hC hW hr hlocks ⟨(fun k => match k with | 3 => q7 | _ => 0), rfl⟩ (show decode cX6_init 32 = .ok (.return_, 1) by decide +kernel) (Nat.le_of_ble_eq_true rfl) (Nat.le_of_ble_eq_true rfl)
def kTm (cI : ClassId) (h0 n : Nat) (b a : Nat → Nat) : va_W := (h0, .inr (7, [.ref n, .ref n, .int 0, .ref (a 4), .ref (a 5), .int 0, .ref (a 7), .ref (a 8)])) :: (kNet cI n b ++ [(a 4, kZ cI 10), (a 5, kZ cI 10), (a 7, kZ cI 100), (a 8, kZ cI 10)])
set_option maxHeartbeats 4000000 in
set_option maxRecDepth 100000 in
theorem i_Timing (l : Launch) (cI cZ cN : ClassId) (D : va_G) (h0 : Nat) : kMet l yX7_init cX7_init 1 4 192 10 228 cI cZ cN D [.ref h0] [(h0, .inr (7, [.null, .null, .int 0, .null, .null, .int 0, .null, .null]))] (fun w1 => ∃ (n : Nat) (b a : Nat → Nat), w1 = kTm cI h0 n b a) := by
  refine k_start (by decide +kernel) rfl ?_
  intro p e s m args below meth c ls hC hW hname hr hlocks hl
  obtain ⟨hx, hb, -⟩ := id hC
  have hl : lv_has ls 1 [(0, .ref h0)] := hl
  refine lv_aload_n hx hb (show decode cX7_init 0 = .ok (.aload_n 0, 1) by decide +kernel) rfl (lv_at hl 0 rfl) ?_
  refine k_obj hC (jw_mem (p := 256) rfl) (jw_mem (p := 10) rfl) (jw_mem (p := 11) rfl) hl.1 (Nat.le_of_ble_eq_true rfl) (Nat.le_of_ble_eq_true rfl) (show decode cX7_init 1 = .ok (.invokespecial 3, 3) by decide +kernel) ?_
  refine lv_aload_n hx hb (show decode cX7_init 4 = .ok (.aload_n 0, 1) by decide +kernel) rfl (lv_at hl 0 rfl) ?_
  refine k_new (C := RX4) (T := TX4) (N := 8) (ci := 4) (fs := [.int 0, .int 0, .int 0, .null, .null, .null, .null, .null]) hC hW rfl (jcl_ok 4 (by decide)).2.1 tyX4 tyX4_ok (jw_mem (p := 257) rfl) (jw_mem (p := 69) rfl) (jw_mem (p := 70) rfl) kbX4 (Nat.le_of_ble_eq_true rfl) (Nat.le_of_ble_eq_true rfl) (show decode cX7_init 5 = .ok (.new 9, 3) by decide +kernel) (fun q5 H hW => ?_)
  have hW : kWd _ cI cZ cN D s ((h0, .inr (7, [.null, .null, .int 0, .null, .null, .int 0, .null, .null])) :: [(q5, .inr (4, [.int 0, .int 0, .int 0, .null, .null, .null, .null, .null]))] : va_W) H _ := hW
  refine lv_dup hx hb (show decode cX7_init 8 = .ok (.dup, 1) by decide +kernel) rfl ?_
  refine k_callN (wr := ((h0, .inr (7, [.null, .null, .int 0, .null, .null, .int 0, .null, .null])) :: [] : va_W)) (wc := [(q5, .inr (4, [.int 0, .int 0, .int 0, .null, .null, .null, .null, .null]))]) (As := []) (rest := [.ref q5, .ref h0]) (n := 0) hC (i_Net l cI cZ cN D q5) hW (jw_mem (p := 204) rfl) (jw_mem (p := 70) rfl) (List.mem_of_getElem? (i := 2) rfl) (jw_mem (p := 203) rfl) rfl (by decide +kernel) rfl ⟨Nat.le_of_ble_eq_true rfl, Nat.le_of_ble_eq_true rfl⟩ hl.1 (Nat.le_of_ble_eq_true rfl) (show decode cX7_init 9 = .ok (.invokespecial 11, 3) by decide +kernel) ⟨Nat.le_of_ble_eq_true rfl, Nat.le_of_ble_eq_true rfl⟩ (fun w1 H locs hpost hW => ?_)
  obtain ⟨a9, rfl⟩ := hpost
  have hW : kWd _ cI cZ cN D s ((h0, .inr (7, [.null, .null, .int 0, .null, .null, .int 0, .null, .null])) :: kNet cI q5 a9 : va_W) H _ := hW
  refine k_put (q0 := 0) (sl := 0) (v := .ref q5) (C := RX7) (T := TX7) (N := 8) (ty := tyX7 0) hC hW hname rfl rfl (jcl_ok 7 (by decide)).2.1 tyX7 tyX7_ok nmX7 (by decide) (jw_mem (p := 258) rfl) rfl rfl (by decide +kernel) rfl rfl (Nat.le_of_ble_eq_true rfl) (show decode cX7_init 12 = .ok (.putfield 12, 3) by decide +kernel) (fun H locs hW => ?_)
  have hW : kWd _ cI cZ cN D s ((h0, .inr (7, [.ref q5, .null, .int 0, .null, .null, .int 0, .null, .null])) :: kNet cI q5 a9 : va_W) H _ := hW
  refine lv_aload_n hx hb (show decode cX7_init 15 = .ok (.aload_n 0, 1) by decide +kernel) rfl (lv_at hl 0 rfl) ?_
  refine lv_aload_n hx hb (show decode cX7_init 16 = .ok (.aload_n 0, 1) by decide +kernel) rfl (lv_at hl 0 rfl) ?_
  refine k_get (q0 := 0) (sl := 0) (v := .ref q5) (ci := 7) (C := RX7) (T := TX7) (N := 8) hC hW rfl rfl (jcl_ok 7 (by decide)).2.1 (by decide) (jw_mem (p := 258) rfl) rfl rfl (show decode cX7_init 17 = .ok (.getfield 12, 3) by decide +kernel) ?_
  refine k_put (q0 := 0) (sl := 1) (v := .ref q5) (C := RX7) (T := TX7) (N := 8) (ty := tyX7 1) hC hW hname rfl rfl (jcl_ok 7 (by decide)).2.1 tyX7 tyX7_ok nmX7 (by decide) (jw_mem (p := 259) rfl) rfl rfl (by decide +kernel) rfl rfl (Nat.le_of_ble_eq_true rfl) (show decode cX7_init 20 = .ok (.putfield 18, 3) by decide +kernel) (fun H locs hW => ?_)
  have hW : kWd _ cI cZ cN D s ((h0, .inr (7, [.ref q5, .ref q5, .int 0, .null, .null, .int 0, .null, .null])) :: kNet cI q5 a9 : va_W) H _ := hW
  refine lv_aload_n hx hb (show decode cX7_init 23 = .ok (.aload_n 0, 1) by decide +kernel) rfl (lv_at hl 0 rfl) ?_
  refine lv_iconst (v := 0) hx hb (show decode cX7_init 24 = .ok (.iconst 0, 1) by decide +kernel) (by decide) ?_
  refine k_put (q0 := 0) (sl := 2) (v := .int 0) (C := RX7) (T := TX7) (N := 8) (ty := tyX7 2) hC hW hname rfl rfl (jcl_ok 7 (by decide)).2.1 tyX7 tyX7_ok nmX7 (by decide) (jw_mem (p := 260) rfl) rfl rfl (by decide +kernel) rfl rfl (Nat.le_of_ble_eq_true rfl) (show decode cX7_init 25 = .ok (.putfield 21, 3) by decide +kernel) (fun H locs hW => ?_)
  have hW : kWd _ cI cZ cN D s ((h0, .inr (7, [.ref q5, .ref q5, .int 0, .null, .null, .int 0, .null, .null])) :: kNet cI q5 a9 : va_W) H _ := hW
  refine lv_aload_n hx hb (show decode cX7_init 28 = .ok (.aload_n 0, 1) by decide +kernel) rfl (lv_at hl 0 rfl) ?_
  refine lv_bipush (v := 10) hx hb (show decode cX7_init 29 = .ok (.bipush 10, 2) by decide +kernel) (by decide) ?_
  refine k_newI (N := 10) hC hW (jw_mem (p := 135) rfl) (by decide) (by decide +kernel) (Nat.le_of_ble_eq_true rfl) (Nat.le_of_ble_eq_true rfl) (Nat.le_of_ble_eq_true rfl) (show decode cX7_init 31 = .ok (.newarray .int, 2) by decide +kernel) (fun q31 H hW => ?_)
  have hW : kWd _ cI cZ cN D s ((h0, .inr (7, [.ref q5, .ref q5, .int 0, .null, .null, .int 0, .null, .null])) :: (kNet cI q5 a9 ++ [(q31, kZ cI 10)]) : va_W) H _ := hW
  refine k_put (q0 := 0) (sl := 3) (v := .ref q31) (C := RX7) (T := TX7) (N := 8) (ty := tyX7 3) hC hW hname rfl rfl (jcl_ok 7 (by decide)).2.1 tyX7 tyX7_ok nmX7 (by decide) (jw_mem (p := 261) rfl) rfl rfl (by decide +kernel) rfl rfl (Nat.le_of_ble_eq_true rfl) (show decode cX7_init 33 = .ok (.putfield 25, 3) by decide +kernel) (fun H locs hW => ?_)
  have hW : kWd _ cI cZ cN D s ((h0, .inr (7, [.ref q5, .ref q5, .int 0, .ref q31, .null, .int 0, .null, .null])) :: (kNet cI q5 a9 ++ [(q31, kZ cI 10)]) : va_W) H _ := hW
  refine lv_aload_n hx hb (show decode cX7_init 36 = .ok (.aload_n 0, 1) by decide +kernel) rfl (lv_at hl 0 rfl) ?_
  refine lv_bipush (v := 10) hx hb (show decode cX7_init 37 = .ok (.bipush 10, 2) by decide +kernel) (by decide) ?_
  refine k_newI (N := 10) hC hW (jw_mem (p := 135) rfl) (by decide) (by decide +kernel) (Nat.le_of_ble_eq_true rfl) (Nat.le_of_ble_eq_true rfl) (Nat.le_of_ble_eq_true rfl) (show decode cX7_init 39 = .ok (.newarray .int, 2) by decide +kernel) (fun q39 H hW => ?_)
  have hW : kWd _ cI cZ cN D s ((h0, .inr (7, [.ref q5, .ref q5, .int 0, .ref q31, .null, .int 0, .null, .null])) :: ((kNet cI q5 a9 ++ [(q31, kZ cI 10)]) ++ [(q39, kZ cI 10)]) : va_W) H _ := hW
  refine k_put (q0 := 0) (sl := 4) (v := .ref q39) (C := RX7) (T := TX7) (N := 8) (ty := tyX7 4) hC hW hname rfl rfl (jcl_ok 7 (by decide)).2.1 tyX7 tyX7_ok nmX7 (by decide) (jw_mem (p := 262) rfl) rfl rfl (by decide +kernel) rfl rfl (Nat.le_of_ble_eq_true rfl) (show decode cX7_init 41 = .ok (.putfield 29, 3) by decide +kernel) (fun H locs hW => ?_)
  have hW : kWd _ cI cZ cN D s ((h0, .inr (7, [.ref q5, .ref q5, .int 0, .ref q31, .ref q39, .int 0, .null, .null])) :: ((kNet cI q5 a9 ++ [(q31, kZ cI 10)]) ++ [(q39, kZ cI 10)]) : va_W) H _ := hW
  refine lv_aload_n hx hb (show decode cX7_init 44 = .ok (.aload_n 0, 1) by decide +kernel) rfl (lv_at hl 0 rfl) ?_
  refine lv_iconst (v := 0) hx hb (show decode cX7_init 45 = .ok (.iconst 0, 1) by decide +kernel) (by decide) ?_
  refine k_put (q0 := 0) (sl := 5) (v := .int 0) (C := RX7) (T := TX7) (N := 8) (ty := tyX7 5) hC hW hname rfl rfl (jcl_ok 7 (by decide)).2.1 tyX7 tyX7_ok nmX7 (by decide) (jw_mem (p := 263) rfl) rfl rfl (by decide +kernel) rfl rfl (Nat.le_of_ble_eq_true rfl) (show decode cX7_init 46 = .ok (.putfield 32, 3) by decide +kernel) (fun H locs hW => ?_)
  have hW : kWd _ cI cZ cN D s ((h0, .inr (7, [.ref q5, .ref q5, .int 0, .ref q31, .ref q39, .int 0, .null, .null])) :: ((kNet cI q5 a9 ++ [(q31, kZ cI 10)]) ++ [(q39, kZ cI 10)]) : va_W) H _ := hW
  refine lv_aload_n hx hb (show decode cX7_init 49 = .ok (.aload_n 0, 1) by decide +kernel) rfl (lv_at hl 0 rfl) ?_
  refine lv_bipush (v := 100) hx hb (show decode cX7_init 50 = .ok (.bipush 100, 2) by decide +kernel) (by decide) ?_
  refine k_newI (N := 100) hC hW (jw_mem (p := 135) rfl) (by decide) (by decide +kernel) (Nat.le_of_ble_eq_true rfl) (Nat.le_of_ble_eq_true rfl) (Nat.le_of_ble_eq_true rfl) (show decode cX7_init 52 = .ok (.newarray .int, 2) by decide +kernel) (fun q52 H hW => ?_)
  have hW : kWd _ cI cZ cN D s ((h0, .inr (7, [.ref q5, .ref q5, .int 0, .ref q31, .ref q39, .int 0, .null, .null])) :: (((kNet cI q5 a9 ++ [(q31, kZ cI 10)]) ++ [(q39, kZ cI 10)]) ++ [(q52, kZ cI 100)]) : va_W) H _ := hW
  refine k_put (q0 := 0) (sl := 6) (v := .ref q52) (C := RX7) (T := TX7) (N := 8) (ty := tyX7 6) hC hW hname rfl rfl (jcl_ok 7 (by decide)).2.1 tyX7 tyX7_ok nmX7 (by decide) (jw_mem (p := 264) rfl) rfl rfl (by decide +kernel) rfl rfl (Nat.le_of_ble_eq_true rfl) (show decode cX7_init 54 = .ok (.putfield 36, 3) by decide +kernel) (fun H locs hW => ?_)
  have hW : kWd _ cI cZ cN D s ((h0, .inr (7, [.ref q5, .ref q5, .int 0, .ref q31, .ref q39, .int 0, .ref q52, .null])) :: (((kNet cI q5 a9 ++ [(q31, kZ cI 10)]) ++ [(q39, kZ cI 10)]) ++ [(q52, kZ cI 100)]) : va_W) H _ := hW
  refine lv_aload_n hx hb (show decode cX7_init 57 = .ok (.aload_n 0, 1) by decide +kernel) rfl (lv_at hl 0 rfl) ?_
  refine lv_bipush (v := 10) hx hb (show decode cX7_init 58 = .ok (.bipush 10, 2) by decide +kernel) (by decide) ?_
  refine k_newI (N := 10) hC hW (jw_mem (p := 135) rfl) (by decide) (by decide +kernel) (Nat.le_of_ble_eq_true rfl) (Nat.le_of_ble_eq_true rfl) (Nat.le_of_ble_eq_true rfl) (show decode cX7_init 60 = .ok (.newarray .int, 2) by decide +kernel) (fun q60 H hW => ?_)
  have hW : kWd _ cI cZ cN D s ((h0, .inr (7, [.ref q5, .ref q5, .int 0, .ref q31, .ref q39, .int 0, .ref q52, .null])) :: ((((kNet cI q5 a9 ++ [(q31, kZ cI 10)]) ++ [(q39, kZ cI 10)]) ++ [(q52, kZ cI 100)]) ++ [(q60, kZ cI 10)]) : va_W) H _ := hW
  refine k_put (q0 := 0) (sl := 7) (v := .ref q60) (C := RX7) (T := TX7) (N := 8) (ty := tyX7 7) hC hW hname rfl rfl (jcl_ok 7 (by decide)).2.1 tyX7 tyX7_ok nmX7 (by decide) (jw_mem (p := 265) rfl) rfl rfl (by decide +kernel) rfl rfl (Nat.le_of_ble_eq_true rfl) (show decode cX7_init 62 = .ok (.putfield 39, 3) by decide +kernel) (fun H locs hW => ?_)
  have hW : kWd _ cI cZ cN D s ((h0, .inr (7, [.ref q5, .ref q5, .int 0, .ref q31, .ref q39, .int 0, .ref q52, .ref q60])) :: ((((kNet cI q5 a9 ++ [(q31, kZ cI 10)]) ++ [(q39, kZ cI 10)]) ++ [(q52, kZ cI 100)]) ++ [(q60, kZ cI 10)]) : va_W) H _ := hW
  exact k_ret hC hW hr hlocks ⟨_, _, (fun k => match k with | 4 => q31 | 5 => q39 | 7 => q52 | 8 => q60 | _ => 0), rfl⟩ (show decode cX7_init 65 = .ok (.return_, 1) by decide +kernel) (Nat.le_of_ble_eq_true rfl) (Nat.le_of_ble_eq_true rfl)
def kAnO (h0 x1 n t : Nat) (a : Nat → Nat) : Nat × va_E := (h0, .inr (0, [.ref x1, .ref n, .ref n, .int 0, .ref t, .ref (a 6), .ref (a 7), .ref (a 8), .ref (a 9), .ref (a 10), .ref (a 11), .ref (a 12), .ref (a 13), .ref (a 14)]))
def kAnR (cI : ClassId) (n t n2 : Nat) (b b2 c2 a : Nat → Nat) : va_W := kNet cI n b ++ kTm cI t n2 b2 c2 ++ [(a 6, kZ cI 6)] ++ [(a 7, kZ cI 14)] ++ [(a 8, kZ cI 14)] ++ [(a 9, kZ cI 14)] ++ [(a 10, kZ cI 14)] ++ [(a 11, kZ cI 14)] ++ [(a 12, kZ cI 14)] ++ [(a 13, kZ cI 72)] ++ [(a 14, kZ cI 3)]
set_option maxHeartbeats 4000000 in
set_option maxRecDepth 100000 in
theorem i_Answering (l : Launch) (cI cZ cN : ClassId) (D : va_G) (h0 x1 : Nat) : kMet l yX0_init cX0_init 2 6 320 26 499 cI cZ cN D [.ref h0, .ref x1] [(h0, .inr (0, [.null, .null, .null, .int 0, .null, .null, .null, .null, .null, .null, .null, .null, .null, .null]))] (fun w1 => ∃ (n t n2 : Nat) (b b2 c2 a : Nat → Nat), w1 = kAnO h0 x1 n t a :: kAnR cI n t n2 b b2 c2 a) := by
  refine k_start (by decide +kernel) rfl ?_
  intro p e s m args below meth c ls hC hW hname hr hlocks hl
  obtain ⟨hx, hb, -⟩ := id hC
  have hl : lv_has ls 2 [(0, .ref h0), (1, .ref x1)] := hl
  refine lv_aload_n hx hb (show decode cX0_init 0 = .ok (.aload_n 0, 1) by decide +kernel) rfl (lv_at hl 0 rfl) ?_
  refine k_obj hC (jw_mem (p := 144) rfl) (jw_mem (p := 10) rfl) (jw_mem (p := 11) rfl) hl.1 (Nat.le_of_ble_eq_true rfl) (Nat.le_of_ble_eq_true rfl) (show decode cX0_init 1 = .ok (.invokespecial 3, 3) by decide +kernel) ?_
  refine lv_aload_n hx hb (show decode cX0_init 4 = .ok (.aload_n 0, 1) by decide +kernel) rfl (lv_at hl 0 rfl) ?_
  refine k_new (C := RX4) (T := TX4) (N := 8) (ci := 4) (fs := [.int 0, .int 0, .int 0, .null, .null, .null, .null, .null]) hC hW rfl (jcl_ok 4 (by decide)).2.1 tyX4 tyX4_ok (jw_mem (p := 145) rfl) (jw_mem (p := 69) rfl) (jw_mem (p := 70) rfl) kbX4 (Nat.le_of_ble_eq_true rfl) (Nat.le_of_ble_eq_true rfl) (show decode cX0_init 5 = .ok (.new 9, 3) by decide +kernel) (fun q5 H hW => ?_)
  have hW : kWd _ cI cZ cN D s ((h0, .inr (0, [.null, .null, .null, .int 0, .null, .null, .null, .null, .null, .null, .null, .null, .null, .null])) :: [(q5, .inr (4, [.int 0, .int 0, .int 0, .null, .null, .null, .null, .null]))] : va_W) H _ := hW
  refine lv_dup hx hb (show decode cX0_init 8 = .ok (.dup, 1) by decide +kernel) rfl ?_
  refine k_callN (wr := ((h0, .inr (0, [.null, .null, .null, .int 0, .null, .null, .null, .null, .null, .null, .null, .null, .null, .null])) :: [] : va_W)) (wc := [(q5, .inr (4, [.int 0, .int 0, .int 0, .null, .null, .null, .null, .null]))]) (As := []) (rest := [.ref q5, .ref h0]) (n := 0) hC (i_Net l cI cZ cN D q5) hW (jw_mem (p := 204) rfl) (jw_mem (p := 70) rfl) (List.mem_of_getElem? (i := 0) rfl) (jw_mem (p := 203) rfl) rfl (by decide +kernel) rfl ⟨Nat.le_of_ble_eq_true rfl, Nat.le_of_ble_eq_true rfl⟩ hl.1 (Nat.le_of_ble_eq_true rfl) (show decode cX0_init 9 = .ok (.invokespecial 11, 3) by decide +kernel) ⟨Nat.le_of_ble_eq_true rfl, Nat.le_of_ble_eq_true rfl⟩ (fun w1 H locs hpost hW => ?_)
  obtain ⟨a9, rfl⟩ := hpost
  have hW : kWd _ cI cZ cN D s ((h0, .inr (0, [.null, .null, .null, .int 0, .null, .null, .null, .null, .null, .null, .null, .null, .null, .null])) :: kNet cI q5 a9 : va_W) H _ := hW
  refine k_put (q0 := 0) (sl := 1) (v := .ref q5) (C := RX0) (T := TX0) (N := 14) (ty := tyX0 1) hC hW hname rfl rfl (jcl_ok 0 (by decide)).2.1 tyX0 tyX0_ok nmX0 (by decide) (jw_mem (p := 146) rfl) rfl rfl (by decide +kernel) rfl rfl (Nat.le_of_ble_eq_true rfl) (show decode cX0_init 12 = .ok (.putfield 12, 3) by decide +kernel) (fun H locs hW => ?_)
  have hW : kWd _ cI cZ cN D s ((h0, .inr (0, [.null, .ref q5, .null, .int 0, .null, .null, .null, .null, .null, .null, .null, .null, .null, .null])) :: kNet cI q5 a9 : va_W) H _ := hW
  refine lv_aload_n hx hb (show decode cX0_init 15 = .ok (.aload_n 0, 1) by decide +kernel) rfl (lv_at hl 0 rfl) ?_
  refine lv_aload_n hx hb (show decode cX0_init 16 = .ok (.aload_n 0, 1) by decide +kernel) rfl (lv_at hl 0 rfl) ?_
  refine k_get (q0 := 0) (sl := 1) (v := .ref q5) (ci := 0) (C := RX0) (T := TX0) (N := 14) hC hW rfl rfl (jcl_ok 0 (by decide)).2.1 (by decide) (jw_mem (p := 146) rfl) rfl rfl (show decode cX0_init 17 = .ok (.getfield 12, 3) by decide +kernel) ?_
  refine k_put (q0 := 0) (sl := 2) (v := .ref q5) (C := RX0) (T := TX0) (N := 14) (ty := tyX0 2) hC hW hname rfl rfl (jcl_ok 0 (by decide)).2.1 tyX0 tyX0_ok nmX0 (by decide) (jw_mem (p := 147) rfl) rfl rfl (by decide +kernel) rfl rfl (Nat.le_of_ble_eq_true rfl) (show decode cX0_init 20 = .ok (.putfield 18, 3) by decide +kernel) (fun H locs hW => ?_)
  have hW : kWd _ cI cZ cN D s ((h0, .inr (0, [.null, .ref q5, .ref q5, .int 0, .null, .null, .null, .null, .null, .null, .null, .null, .null, .null])) :: kNet cI q5 a9 : va_W) H _ := hW
  refine lv_aload_n hx hb (show decode cX0_init 23 = .ok (.aload_n 0, 1) by decide +kernel) rfl (lv_at hl 0 rfl) ?_
  refine lv_iconst (v := 0) hx hb (show decode cX0_init 24 = .ok (.iconst 0, 1) by decide +kernel) (by decide) ?_
  refine k_put (q0 := 0) (sl := 3) (v := .int 0) (C := RX0) (T := TX0) (N := 14) (ty := tyX0 3) hC hW hname rfl rfl (jcl_ok 0 (by decide)).2.1 tyX0 tyX0_ok nmX0 (by decide) (jw_mem (p := 148) rfl) rfl rfl (by decide +kernel) rfl rfl (Nat.le_of_ble_eq_true rfl) (show decode cX0_init 25 = .ok (.putfield 21, 3) by decide +kernel) (fun H locs hW => ?_)
  have hW : kWd _ cI cZ cN D s ((h0, .inr (0, [.null, .ref q5, .ref q5, .int 0, .null, .null, .null, .null, .null, .null, .null, .null, .null, .null])) :: kNet cI q5 a9 : va_W) H _ := hW
  refine lv_aload_n hx hb (show decode cX0_init 28 = .ok (.aload_n 0, 1) by decide +kernel) rfl (lv_at hl 0 rfl) ?_
  refine k_new (C := RX7) (T := TX7) (N := 8) (ci := 7) (fs := [.null, .null, .int 0, .null, .null, .int 0, .null, .null]) hC hW rfl (jcl_ok 7 (by decide)).2.1 tyX7 tyX7_ok (jw_mem (p := 149) rfl) (jw_mem (p := 150) rfl) (jw_mem (p := 151) rfl) kbX7 (Nat.le_of_ble_eq_true rfl) (Nat.le_of_ble_eq_true rfl) (show decode cX0_init 29 = .ok (.new 25, 3) by decide +kernel) (fun q29 H hW => ?_)
  have hW : kWd _ cI cZ cN D s ((h0, .inr (0, [.null, .ref q5, .ref q5, .int 0, .null, .null, .null, .null, .null, .null, .null, .null, .null, .null])) :: (kNet cI q5 a9 ++ [(q29, .inr (7, [.null, .null, .int 0, .null, .null, .int 0, .null, .null]))]) : va_W) H _ := hW
  refine lv_dup hx hb (show decode cX0_init 32 = .ok (.dup, 1) by decide +kernel) rfl ?_
  refine k_callN (wr := ((h0, .inr (0, [.null, .ref q5, .ref q5, .int 0, .null, .null, .null, .null, .null, .null, .null, .null, .null, .null])) :: kNet cI q5 a9 : va_W)) (wc := [(q29, .inr (7, [.null, .null, .int 0, .null, .null, .int 0, .null, .null]))]) (As := []) (rest := [.ref q29, .ref h0]) (n := 0) hC (i_Timing l cI cZ cN D q29) hW (jw_mem (p := 215) rfl) (jw_mem (p := 151) rfl) (List.mem_of_getElem? (i := 1) rfl) (jw_mem (p := 214) rfl) rfl (by decide +kernel) rfl ⟨Nat.le_of_ble_eq_true rfl, Nat.le_of_ble_eq_true rfl⟩ hl.1 (Nat.le_of_ble_eq_true rfl) (show decode cX0_init 33 = .ok (.invokespecial 27, 3) by decide +kernel) ⟨Nat.le_of_ble_eq_true rfl, Nat.le_of_ble_eq_true rfl⟩ (fun w1 H locs hpost hW => ?_)
  obtain ⟨n33, b33, a33, rfl⟩ := hpost
  have hW : kWd _ cI cZ cN D s ((h0, .inr (0, [.null, .ref q5, .ref q5, .int 0, .null, .null, .null, .null, .null, .null, .null, .null, .null, .null])) :: (kNet cI q5 a9 ++ kTm cI q29 n33 b33 a33) : va_W) H _ := hW
  refine k_put (q0 := 0) (sl := 4) (v := .ref q29) (C := RX0) (T := TX0) (N := 14) (ty := tyX0 4) hC hW hname rfl rfl (jcl_ok 0 (by decide)).2.1 tyX0 tyX0_ok nmX0 (by decide) (jw_mem (p := 192) rfl) rfl rfl (by decide +kernel) rfl rfl (Nat.le_of_ble_eq_true rfl) (show decode cX0_init 36 = .ok (.putfield 28, 3) by decide +kernel) (fun H locs hW => ?_)
  have hW : kWd _ cI cZ cN D s ((h0, .inr (0, [.null, .ref q5, .ref q5, .int 0, .ref q29, .null, .null, .null, .null, .null, .null, .null, .null, .null])) :: (kNet cI q5 a9 ++ kTm cI q29 n33 b33 a33) : va_W) H _ := hW
  refine lv_aload_n hx hb (show decode cX0_init 39 = .ok (.aload_n 0, 1) by decide +kernel) rfl (lv_at hl 0 rfl) ?_
  refine lv_bipush (v := 6) hx hb (show decode cX0_init 40 = .ok (.bipush 6, 2) by decide +kernel) (by decide) ?_
  refine k_newI (N := 6) hC hW (jw_mem (p := 135) rfl) (by decide) (by decide +kernel) (Nat.le_of_ble_eq_true rfl) (Nat.le_of_ble_eq_true rfl) (Nat.le_of_ble_eq_true rfl) (show decode cX0_init 42 = .ok (.newarray .int, 2) by decide +kernel) (fun q42 H hW => ?_)
  have hW : kWd _ cI cZ cN D s ((h0, .inr (0, [.null, .ref q5, .ref q5, .int 0, .ref q29, .null, .null, .null, .null, .null, .null, .null, .null, .null])) :: ((kNet cI q5 a9 ++ kTm cI q29 n33 b33 a33) ++ [(q42, kZ cI 6)]) : va_W) H _ := hW
  refine k_put (q0 := 0) (sl := 5) (v := .ref q42) (C := RX0) (T := TX0) (N := 14) (ty := tyX0 5) hC hW hname rfl rfl (jcl_ok 0 (by decide)).2.1 tyX0 tyX0_ok nmX0 (by decide) (jw_mem (p := 193) rfl) rfl rfl (by decide +kernel) rfl rfl (Nat.le_of_ble_eq_true rfl) (show decode cX0_init 44 = .ok (.putfield 32, 3) by decide +kernel) (fun H locs hW => ?_)
  have hW : kWd _ cI cZ cN D s ((h0, .inr (0, [.null, .ref q5, .ref q5, .int 0, .ref q29, .ref q42, .null, .null, .null, .null, .null, .null, .null, .null])) :: ((kNet cI q5 a9 ++ kTm cI q29 n33 b33 a33) ++ [(q42, kZ cI 6)]) : va_W) H _ := hW
  refine lv_aload_n hx hb (show decode cX0_init 47 = .ok (.aload_n 0, 1) by decide +kernel) rfl (lv_at hl 0 rfl) ?_
  refine lv_bipush (v := 14) hx hb (show decode cX0_init 48 = .ok (.bipush 14, 2) by decide +kernel) (by decide) ?_
  refine k_newI (N := 14) hC hW (jw_mem (p := 135) rfl) (by decide) (by decide +kernel) (Nat.le_of_ble_eq_true rfl) (Nat.le_of_ble_eq_true rfl) (Nat.le_of_ble_eq_true rfl) (show decode cX0_init 50 = .ok (.newarray .int, 2) by decide +kernel) (fun q50 H hW => ?_)
  have hW : kWd _ cI cZ cN D s ((h0, .inr (0, [.null, .ref q5, .ref q5, .int 0, .ref q29, .ref q42, .null, .null, .null, .null, .null, .null, .null, .null])) :: (((kNet cI q5 a9 ++ kTm cI q29 n33 b33 a33) ++ [(q42, kZ cI 6)]) ++ [(q50, kZ cI 14)]) : va_W) H _ := hW
  refine k_put (q0 := 0) (sl := 6) (v := .ref q50) (C := RX0) (T := TX0) (N := 14) (ty := tyX0 6) hC hW hname rfl rfl (jcl_ok 0 (by decide)).2.1 tyX0 tyX0_ok nmX0 (by decide) (jw_mem (p := 194) rfl) rfl rfl (by decide +kernel) rfl rfl (Nat.le_of_ble_eq_true rfl) (show decode cX0_init 52 = .ok (.putfield 36, 3) by decide +kernel) (fun H locs hW => ?_)
  have hW : kWd _ cI cZ cN D s ((h0, .inr (0, [.null, .ref q5, .ref q5, .int 0, .ref q29, .ref q42, .ref q50, .null, .null, .null, .null, .null, .null, .null])) :: (((kNet cI q5 a9 ++ kTm cI q29 n33 b33 a33) ++ [(q42, kZ cI 6)]) ++ [(q50, kZ cI 14)]) : va_W) H _ := hW
  refine lv_aload_n hx hb (show decode cX0_init 55 = .ok (.aload_n 0, 1) by decide +kernel) rfl (lv_at hl 0 rfl) ?_
  refine lv_bipush (v := 14) hx hb (show decode cX0_init 56 = .ok (.bipush 14, 2) by decide +kernel) (by decide) ?_
  refine k_newI (N := 14) hC hW (jw_mem (p := 135) rfl) (by decide) (by decide +kernel) (Nat.le_of_ble_eq_true rfl) (Nat.le_of_ble_eq_true rfl) (Nat.le_of_ble_eq_true rfl) (show decode cX0_init 58 = .ok (.newarray .int, 2) by decide +kernel) (fun q58 H hW => ?_)
  have hW : kWd _ cI cZ cN D s ((h0, .inr (0, [.null, .ref q5, .ref q5, .int 0, .ref q29, .ref q42, .ref q50, .null, .null, .null, .null, .null, .null, .null])) :: ((((kNet cI q5 a9 ++ kTm cI q29 n33 b33 a33) ++ [(q42, kZ cI 6)]) ++ [(q50, kZ cI 14)]) ++ [(q58, kZ cI 14)]) : va_W) H _ := hW
  refine k_put (q0 := 0) (sl := 7) (v := .ref q58) (C := RX0) (T := TX0) (N := 14) (ty := tyX0 7) hC hW hname rfl rfl (jcl_ok 0 (by decide)).2.1 tyX0 tyX0_ok nmX0 (by decide) (jw_mem (p := 195) rfl) rfl rfl (by decide +kernel) rfl rfl (Nat.le_of_ble_eq_true rfl) (show decode cX0_init 60 = .ok (.putfield 39, 3) by decide +kernel) (fun H locs hW => ?_)
  have hW : kWd _ cI cZ cN D s ((h0, .inr (0, [.null, .ref q5, .ref q5, .int 0, .ref q29, .ref q42, .ref q50, .ref q58, .null, .null, .null, .null, .null, .null])) :: ((((kNet cI q5 a9 ++ kTm cI q29 n33 b33 a33) ++ [(q42, kZ cI 6)]) ++ [(q50, kZ cI 14)]) ++ [(q58, kZ cI 14)]) : va_W) H _ := hW
  refine lv_aload_n hx hb (show decode cX0_init 63 = .ok (.aload_n 0, 1) by decide +kernel) rfl (lv_at hl 0 rfl) ?_
  refine lv_bipush (v := 14) hx hb (show decode cX0_init 64 = .ok (.bipush 14, 2) by decide +kernel) (by decide) ?_
  refine k_newI (N := 14) hC hW (jw_mem (p := 135) rfl) (by decide) (by decide +kernel) (Nat.le_of_ble_eq_true rfl) (Nat.le_of_ble_eq_true rfl) (Nat.le_of_ble_eq_true rfl) (show decode cX0_init 66 = .ok (.newarray .int, 2) by decide +kernel) (fun q66 H hW => ?_)
  have hW : kWd _ cI cZ cN D s ((h0, .inr (0, [.null, .ref q5, .ref q5, .int 0, .ref q29, .ref q42, .ref q50, .ref q58, .null, .null, .null, .null, .null, .null])) :: (((((kNet cI q5 a9 ++ kTm cI q29 n33 b33 a33) ++ [(q42, kZ cI 6)]) ++ [(q50, kZ cI 14)]) ++ [(q58, kZ cI 14)]) ++ [(q66, kZ cI 14)]) : va_W) H _ := hW
  refine k_put (q0 := 0) (sl := 8) (v := .ref q66) (C := RX0) (T := TX0) (N := 14) (ty := tyX0 8) hC hW hname rfl rfl (jcl_ok 0 (by decide)).2.1 tyX0 tyX0_ok nmX0 (by decide) (jw_mem (p := 196) rfl) rfl rfl (by decide +kernel) rfl rfl (Nat.le_of_ble_eq_true rfl) (show decode cX0_init 68 = .ok (.putfield 42, 3) by decide +kernel) (fun H locs hW => ?_)
  have hW : kWd _ cI cZ cN D s ((h0, .inr (0, [.null, .ref q5, .ref q5, .int 0, .ref q29, .ref q42, .ref q50, .ref q58, .ref q66, .null, .null, .null, .null, .null])) :: (((((kNet cI q5 a9 ++ kTm cI q29 n33 b33 a33) ++ [(q42, kZ cI 6)]) ++ [(q50, kZ cI 14)]) ++ [(q58, kZ cI 14)]) ++ [(q66, kZ cI 14)]) : va_W) H _ := hW
  refine lv_aload_n hx hb (show decode cX0_init 71 = .ok (.aload_n 0, 1) by decide +kernel) rfl (lv_at hl 0 rfl) ?_
  refine lv_bipush (v := 14) hx hb (show decode cX0_init 72 = .ok (.bipush 14, 2) by decide +kernel) (by decide) ?_
  refine k_newI (N := 14) hC hW (jw_mem (p := 135) rfl) (by decide) (by decide +kernel) (Nat.le_of_ble_eq_true rfl) (Nat.le_of_ble_eq_true rfl) (Nat.le_of_ble_eq_true rfl) (show decode cX0_init 74 = .ok (.newarray .int, 2) by decide +kernel) (fun q74 H hW => ?_)
  have hW : kWd _ cI cZ cN D s ((h0, .inr (0, [.null, .ref q5, .ref q5, .int 0, .ref q29, .ref q42, .ref q50, .ref q58, .ref q66, .null, .null, .null, .null, .null])) :: ((((((kNet cI q5 a9 ++ kTm cI q29 n33 b33 a33) ++ [(q42, kZ cI 6)]) ++ [(q50, kZ cI 14)]) ++ [(q58, kZ cI 14)]) ++ [(q66, kZ cI 14)]) ++ [(q74, kZ cI 14)]) : va_W) H _ := hW
  refine k_put (q0 := 0) (sl := 9) (v := .ref q74) (C := RX0) (T := TX0) (N := 14) (ty := tyX0 9) hC hW hname rfl rfl (jcl_ok 0 (by decide)).2.1 tyX0 tyX0_ok nmX0 (by decide) (jw_mem (p := 197) rfl) rfl rfl (by decide +kernel) rfl rfl (Nat.le_of_ble_eq_true rfl) (show decode cX0_init 76 = .ok (.putfield 45, 3) by decide +kernel) (fun H locs hW => ?_)
  have hW : kWd _ cI cZ cN D s ((h0, .inr (0, [.null, .ref q5, .ref q5, .int 0, .ref q29, .ref q42, .ref q50, .ref q58, .ref q66, .ref q74, .null, .null, .null, .null])) :: ((((((kNet cI q5 a9 ++ kTm cI q29 n33 b33 a33) ++ [(q42, kZ cI 6)]) ++ [(q50, kZ cI 14)]) ++ [(q58, kZ cI 14)]) ++ [(q66, kZ cI 14)]) ++ [(q74, kZ cI 14)]) : va_W) H _ := hW
  refine lv_aload_n hx hb (show decode cX0_init 79 = .ok (.aload_n 0, 1) by decide +kernel) rfl (lv_at hl 0 rfl) ?_
  refine lv_bipush (v := 14) hx hb (show decode cX0_init 80 = .ok (.bipush 14, 2) by decide +kernel) (by decide) ?_
  refine k_newI (N := 14) hC hW (jw_mem (p := 135) rfl) (by decide) (by decide +kernel) (Nat.le_of_ble_eq_true rfl) (Nat.le_of_ble_eq_true rfl) (Nat.le_of_ble_eq_true rfl) (show decode cX0_init 82 = .ok (.newarray .int, 2) by decide +kernel) (fun q82 H hW => ?_)
  have hW : kWd _ cI cZ cN D s ((h0, .inr (0, [.null, .ref q5, .ref q5, .int 0, .ref q29, .ref q42, .ref q50, .ref q58, .ref q66, .ref q74, .null, .null, .null, .null])) :: (((((((kNet cI q5 a9 ++ kTm cI q29 n33 b33 a33) ++ [(q42, kZ cI 6)]) ++ [(q50, kZ cI 14)]) ++ [(q58, kZ cI 14)]) ++ [(q66, kZ cI 14)]) ++ [(q74, kZ cI 14)]) ++ [(q82, kZ cI 14)]) : va_W) H _ := hW
  refine k_put (q0 := 0) (sl := 10) (v := .ref q82) (C := RX0) (T := TX0) (N := 14) (ty := tyX0 10) hC hW hname rfl rfl (jcl_ok 0 (by decide)).2.1 tyX0 tyX0_ok nmX0 (by decide) (jw_mem (p := 198) rfl) rfl rfl (by decide +kernel) rfl rfl (Nat.le_of_ble_eq_true rfl) (show decode cX0_init 84 = .ok (.putfield 48, 3) by decide +kernel) (fun H locs hW => ?_)
  have hW : kWd _ cI cZ cN D s ((h0, .inr (0, [.null, .ref q5, .ref q5, .int 0, .ref q29, .ref q42, .ref q50, .ref q58, .ref q66, .ref q74, .ref q82, .null, .null, .null])) :: (((((((kNet cI q5 a9 ++ kTm cI q29 n33 b33 a33) ++ [(q42, kZ cI 6)]) ++ [(q50, kZ cI 14)]) ++ [(q58, kZ cI 14)]) ++ [(q66, kZ cI 14)]) ++ [(q74, kZ cI 14)]) ++ [(q82, kZ cI 14)]) : va_W) H _ := hW
  refine lv_aload_n hx hb (show decode cX0_init 87 = .ok (.aload_n 0, 1) by decide +kernel) rfl (lv_at hl 0 rfl) ?_
  refine lv_bipush (v := 14) hx hb (show decode cX0_init 88 = .ok (.bipush 14, 2) by decide +kernel) (by decide) ?_
  refine k_newI (N := 14) hC hW (jw_mem (p := 135) rfl) (by decide) (by decide +kernel) (Nat.le_of_ble_eq_true rfl) (Nat.le_of_ble_eq_true rfl) (Nat.le_of_ble_eq_true rfl) (show decode cX0_init 90 = .ok (.newarray .int, 2) by decide +kernel) (fun q90 H hW => ?_)
  have hW : kWd _ cI cZ cN D s ((h0, .inr (0, [.null, .ref q5, .ref q5, .int 0, .ref q29, .ref q42, .ref q50, .ref q58, .ref q66, .ref q74, .ref q82, .null, .null, .null])) :: ((((((((kNet cI q5 a9 ++ kTm cI q29 n33 b33 a33) ++ [(q42, kZ cI 6)]) ++ [(q50, kZ cI 14)]) ++ [(q58, kZ cI 14)]) ++ [(q66, kZ cI 14)]) ++ [(q74, kZ cI 14)]) ++ [(q82, kZ cI 14)]) ++ [(q90, kZ cI 14)]) : va_W) H _ := hW
  refine k_put (q0 := 0) (sl := 11) (v := .ref q90) (C := RX0) (T := TX0) (N := 14) (ty := tyX0 11) hC hW hname rfl rfl (jcl_ok 0 (by decide)).2.1 tyX0 tyX0_ok nmX0 (by decide) (jw_mem (p := 199) rfl) rfl rfl (by decide +kernel) rfl rfl (Nat.le_of_ble_eq_true rfl) (show decode cX0_init 92 = .ok (.putfield 51, 3) by decide +kernel) (fun H locs hW => ?_)
  have hW : kWd _ cI cZ cN D s ((h0, .inr (0, [.null, .ref q5, .ref q5, .int 0, .ref q29, .ref q42, .ref q50, .ref q58, .ref q66, .ref q74, .ref q82, .ref q90, .null, .null])) :: ((((((((kNet cI q5 a9 ++ kTm cI q29 n33 b33 a33) ++ [(q42, kZ cI 6)]) ++ [(q50, kZ cI 14)]) ++ [(q58, kZ cI 14)]) ++ [(q66, kZ cI 14)]) ++ [(q74, kZ cI 14)]) ++ [(q82, kZ cI 14)]) ++ [(q90, kZ cI 14)]) : va_W) H _ := hW
  refine lv_aload_n hx hb (show decode cX0_init 95 = .ok (.aload_n 0, 1) by decide +kernel) rfl (lv_at hl 0 rfl) ?_
  refine lv_bipush (v := 72) hx hb (show decode cX0_init 96 = .ok (.bipush 72, 2) by decide +kernel) (by decide) ?_
  refine k_newI (N := 72) hC hW (jw_mem (p := 135) rfl) (by decide) (by decide +kernel) (Nat.le_of_ble_eq_true rfl) (Nat.le_of_ble_eq_true rfl) (Nat.le_of_ble_eq_true rfl) (show decode cX0_init 98 = .ok (.newarray .int, 2) by decide +kernel) (fun q98 H hW => ?_)
  have hW : kWd _ cI cZ cN D s ((h0, .inr (0, [.null, .ref q5, .ref q5, .int 0, .ref q29, .ref q42, .ref q50, .ref q58, .ref q66, .ref q74, .ref q82, .ref q90, .null, .null])) :: (((((((((kNet cI q5 a9 ++ kTm cI q29 n33 b33 a33) ++ [(q42, kZ cI 6)]) ++ [(q50, kZ cI 14)]) ++ [(q58, kZ cI 14)]) ++ [(q66, kZ cI 14)]) ++ [(q74, kZ cI 14)]) ++ [(q82, kZ cI 14)]) ++ [(q90, kZ cI 14)]) ++ [(q98, kZ cI 72)]) : va_W) H _ := hW
  refine k_put (q0 := 0) (sl := 12) (v := .ref q98) (C := RX0) (T := TX0) (N := 14) (ty := tyX0 12) hC hW hname rfl rfl (jcl_ok 0 (by decide)).2.1 tyX0 tyX0_ok nmX0 (by decide) (jw_mem (p := 200) rfl) rfl rfl (by decide +kernel) rfl rfl (Nat.le_of_ble_eq_true rfl) (show decode cX0_init 100 = .ok (.putfield 54, 3) by decide +kernel) (fun H locs hW => ?_)
  have hW : kWd _ cI cZ cN D s ((h0, .inr (0, [.null, .ref q5, .ref q5, .int 0, .ref q29, .ref q42, .ref q50, .ref q58, .ref q66, .ref q74, .ref q82, .ref q90, .ref q98, .null])) :: (((((((((kNet cI q5 a9 ++ kTm cI q29 n33 b33 a33) ++ [(q42, kZ cI 6)]) ++ [(q50, kZ cI 14)]) ++ [(q58, kZ cI 14)]) ++ [(q66, kZ cI 14)]) ++ [(q74, kZ cI 14)]) ++ [(q82, kZ cI 14)]) ++ [(q90, kZ cI 14)]) ++ [(q98, kZ cI 72)]) : va_W) H _ := hW
  refine lv_aload_n hx hb (show decode cX0_init 103 = .ok (.aload_n 0, 1) by decide +kernel) rfl (lv_at hl 0 rfl) ?_
  refine lv_iconst (v := 3) hx hb (show decode cX0_init 104 = .ok (.iconst 3, 1) by decide +kernel) (by decide) ?_
  refine k_newI (N := 3) hC hW (jw_mem (p := 135) rfl) (by decide) (by decide +kernel) (Nat.le_of_ble_eq_true rfl) (Nat.le_of_ble_eq_true rfl) (Nat.le_of_ble_eq_true rfl) (show decode cX0_init 105 = .ok (.newarray .int, 2) by decide +kernel) (fun q105 H hW => ?_)
  have hW : kWd _ cI cZ cN D s ((h0, .inr (0, [.null, .ref q5, .ref q5, .int 0, .ref q29, .ref q42, .ref q50, .ref q58, .ref q66, .ref q74, .ref q82, .ref q90, .ref q98, .null])) :: ((((((((((kNet cI q5 a9 ++ kTm cI q29 n33 b33 a33) ++ [(q42, kZ cI 6)]) ++ [(q50, kZ cI 14)]) ++ [(q58, kZ cI 14)]) ++ [(q66, kZ cI 14)]) ++ [(q74, kZ cI 14)]) ++ [(q82, kZ cI 14)]) ++ [(q90, kZ cI 14)]) ++ [(q98, kZ cI 72)]) ++ [(q105, kZ cI 3)]) : va_W) H _ := hW
  refine k_put (q0 := 0) (sl := 13) (v := .ref q105) (C := RX0) (T := TX0) (N := 14) (ty := tyX0 13) hC hW hname rfl rfl (jcl_ok 0 (by decide)).2.1 tyX0 tyX0_ok nmX0 (by decide) (jw_mem (p := 201) rfl) rfl rfl (by decide +kernel) rfl rfl (Nat.le_of_ble_eq_true rfl) (show decode cX0_init 107 = .ok (.putfield 57, 3) by decide +kernel) (fun H locs hW => ?_)
  have hW : kWd _ cI cZ cN D s ((h0, .inr (0, [.null, .ref q5, .ref q5, .int 0, .ref q29, .ref q42, .ref q50, .ref q58, .ref q66, .ref q74, .ref q82, .ref q90, .ref q98, .ref q105])) :: ((((((((((kNet cI q5 a9 ++ kTm cI q29 n33 b33 a33) ++ [(q42, kZ cI 6)]) ++ [(q50, kZ cI 14)]) ++ [(q58, kZ cI 14)]) ++ [(q66, kZ cI 14)]) ++ [(q74, kZ cI 14)]) ++ [(q82, kZ cI 14)]) ++ [(q90, kZ cI 14)]) ++ [(q98, kZ cI 72)]) ++ [(q105, kZ cI 3)]) : va_W) H _ := hW
  refine lv_aload_n hx hb (show decode cX0_init 110 = .ok (.aload_n 0, 1) by decide +kernel) rfl (lv_at hl 0 rfl) ?_
  refine lv_aload_n hx hb (show decode cX0_init 111 = .ok (.aload_n 1, 1) by decide +kernel) rfl (lv_at hl 1 rfl) ?_
  refine k_put (q0 := 0) (sl := 0) (v := .ref x1) (C := RX0) (T := TX0) (N := 14) (ty := tyX0 0) hC hW hname rfl rfl (jcl_ok 0 (by decide)).2.1 tyX0 tyX0_ok nmX0 (by decide) (jw_mem (p := 202) rfl) rfl rfl (by decide +kernel) rfl rfl (Nat.le_of_ble_eq_true rfl) (show decode cX0_init 112 = .ok (.putfield 60, 3) by decide +kernel) (fun H locs hW => ?_)
  have hW : kWd _ cI cZ cN D s ((h0, .inr (0, [.ref x1, .ref q5, .ref q5, .int 0, .ref q29, .ref q42, .ref q50, .ref q58, .ref q66, .ref q74, .ref q82, .ref q90, .ref q98, .ref q105])) :: ((((((((((kNet cI q5 a9 ++ kTm cI q29 n33 b33 a33) ++ [(q42, kZ cI 6)]) ++ [(q50, kZ cI 14)]) ++ [(q58, kZ cI 14)]) ++ [(q66, kZ cI 14)]) ++ [(q74, kZ cI 14)]) ++ [(q82, kZ cI 14)]) ++ [(q90, kZ cI 14)]) ++ [(q98, kZ cI 72)]) ++ [(q105, kZ cI 3)]) : va_W) H _ := hW
  exact k_ret hC hW hr hlocks ⟨_, _, _, _, _, _, (fun k => match k with | 6 => q42 | 7 => q50 | 8 => q58 | 9 => q66 | 10 => q74 | 11 => q82 | 12 => q90 | 13 => q98 | 14 => q105 | _ => 0), rfl⟩ (show decode cX0_init 115 = .ok (.return_, 1) by decide +kernel) (Nat.le_of_ble_eq_true rfl) (Nat.le_of_ble_eq_true rfl)
