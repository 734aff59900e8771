/-! ONE CALL OF EACH, IN ONE WORLD -/
def jStp (dc yc dm ym : Nat) (as : List jV) (M : jM) : Prop :=
  jCallP dc yc (.inr (18, 0) :: as) M (fun r M1 => jCallP dm ym (.inr (28, 0) :: as) M1 (fun r1 M2 => r1 = r ∧ Inv M2 ∧ rel M2 M2))
theorem rel_m {C M M' : jM} (h : rel C M) (e : M' 28 = M 28) : rel C M' := by
  unfold rel rL rT rKp rSo at h ⊢
  rw [e]
  exact h
theorem rel_c {C C' M : jM} (h : rel C M) (e : ∀ x y, ¬ x = 28 → C' x y = C x y) : rel C' M := h.sc (fS_r M) (fun x y hx h0 => e x y (by omega))
theorem Inv.f {C C' : jM} (h : Inv C) (hf : f28 C C') : Inv C' :=
  h.sc (fun x y hx => hf x y (by omega)) ⟨fun c c0 c1 => by rw [hf 21 7 (by omega)]; exact h.1.2.2.1 c c0 c1, by rw [hf 22 0 (by omega)]; exact h.1.2.2.2⟩
theorem fin28 {M1 M2 : jM} (hI : Inv M1) (hR : rel M1 M2) (hf : f28 M1 M2) : Inv M2 ∧ rel M2 M2 := ⟨hI.f hf, rel_c hR (fun x y q => hf x y q)⟩
theorem jif_e {c a b p : Prop} (h : jif c a b) (ha : a → p) (hb : b → p) : p := by
  by_cases q : c
  · exact ha (h.1 q)
  · exact hb (h.2 q)
theorem e28 {M M' : jM} (h : ∀ y, M' 28 y = M 28 y) : M' 28 = M 28 := funext h
theorem e28u {M : jM} {g : Int} {k : Nat} {j v : Int} (hg : ¬ g = 28) : jup M g k j v 28 = M 28 := e28 fun y => by
  rw [jup_set, jset_ne (by omega)]
theorem e28l (M : jM) (k : Int) : loo M k 28 = M 28 := e28 fun y => loo_ne (by omega)
/-- an answer that leaves rel by its frame -/
theorem stp_f {dc yc dm ym : Nat} {as : List jV} {M : jM} {s : Int → jM → Prop} (hI : Inv M) (hR : rel M M) (hc : jCallP dc yc (.inr (18, 0) :: as) M s) (h28 : ∀ r M1, s r M1 → M1 28 = M 28) (hInv : ∀ r M1, s r M1 → Inv M1)
    (hm : ∀ r M1, s r M1 → rel M M1 → jCallP dm ym (.inr (28, 0) :: as) M1 (fun r1 M2 => r1 = r ∧ rel M1 M2 ∧ f28 M1 M2)) : jStp dc yc dm ym as M :=
  hc.mono fun r M1 hs => (hm r M1 hs (rel_m hR (h28 r M1 hs))).mono fun r1 M2 h => ⟨h.1, fin28 (hInv r M1 hs) h.2.1 h.2.2⟩
theorem stp_S {dc yc dm ym : Nat} {as : List jV} {M : jM} {s : Int → jM → Prop} (hI : Inv M) (hR : rel M M) (hc : jCallP dc yc (.inr (18, 0) :: as) M s) (h28 : ∀ r M1, s r M1 → M1 28 = M 28 ∧ cR M M1) (hInv : ∀ r M1, s r M1 → Inv M1)
    (hm : ∀ r M1, s r M1 → rel M M1 → jCallP dm ym (.inr (28, 0) :: as) M1 (fun r1 M2 => r1 = r ∧ fS M1 M2)) : jStp dc yc dm ym as M :=
  hc.mono fun r M1 hs => (hm r M1 hs (rel_m hR (h28 r M1 hs).1)).mono fun r1 M2 h => ⟨h.1, fin28 (hInv r M1 hs) ((rel_m hR (h28 r M1 hs).1).sc h.2 (h28 r M1 hs).2) h.2.1⟩
theorem stp_e {dc yc dm ym : Nat} {as : List jV} {M : jM} {s : Int → jM → Prop} (hI : Inv M) (hR : rel M M) (hc : jCallP dc yc (.inr (18, 0) :: as) M s) (he : ∀ r M1, s r M1 → M1 = M)
    (hm : ∀ r, s r M → jCallP dm ym (.inr (28, 0) :: as) M (fun r1 M2 => r1 = r ∧ M2 = M)) : jStp dc yc dm ym as M :=
  hc.mono fun r M1 hs => by
    obtain rfl := he r M1 hs
    exact (hm r hs).mono fun r1 M2 h => ⟨h.1, by rw [h.2]; exact ⟨hI, hR⟩⟩
theorem kp28 {M M' : jM} (h : jKp M M') : M' 28 = M 28 ∧ cR M M' := ⟨e28 fun y => h.1 28 y (by omega), cR_kp h.1⟩
theorem kl28 {M M' : jM} (h : jKl M M') : M' 28 = M 28 ∧ cR M M' := ⟨e28 fun y => h.1 28 y (by omega), fun x y hx h0 => h.1 x y (by omega)⟩
theorem kg28 {M M' : jM} (h : jKg M M') : M' 28 = M 28 ∧ cR M M' := ⟨e28 fun y => h 28 y (by omega), fun x y hx h0 => h x y (by omega)⟩
theorem r28 (M : jM) : M 28 = M 28 ∧ cR M M := ⟨rfl, cR_r M⟩
section STP
variable {M : jM}
theorem Inv.Ns {C : jM} (h : Inv C) : jNBs C := fun g g0 g1 => h.N g0 g1
theorem st_kind (hI : Inv M) (hR : rel M M) (k n e : Int) : jStp 3 0 3 46 [.inl k, .inl n, .inl e] M :=
  stp_f hI hR (c_kind hI.Ns k n e) (fun r M1 hs => jif_e hs (fun hs => jif_e hs (fun hs => jif_e hs (fun hs => by rw [hs.2]) (fun hs => by rw [hs.2, e28u (by omega), e28u (by omega)])) (fun hs => by rw [hs.2])) (fun hs => by rw [hs.2])) (fun _ _ hs => inv_kind hI hs) (fun _ _ hs hR => m_kind hI hR hs)
theorem st_wider (hI : Inv M) (hR : rel M M) (k o : Int) : jStp 3 1 3 48 [.inl k, .inl o] M :=
  stp_f hI hR (c_wider hI.L hI.2.1 hI.Ns k o) (fun r M1 hs => jif_e hs (fun hs => jif_e hs (fun hs => by rw [hs.2]) (fun hs => jif_e hs (fun hs => by rw [hs.2, e28u (by omega)]) (fun hs => by rw [hs.2]))) (fun hs => by rw [hs.2])) (fun _ _ hs => inv_wider hI hs) (fun _ _ hs hR => m_wider hI hR hs)
theorem st_opposite (hI : Inv M) (hR : rel M M) (k o : Int) : jStp 2 2 2 50 [.inl k, .inl o] M :=
  stp_f hI hR (c_opposite hI.L k o) (fun r M1 hs => jif_e hs (fun hs => jif_e hs (fun hs => by
    rw [hs.2]
    split
    · rw [e28l, e28l]
    · rw [e28u (by omega), e28u (by omega), e28l, e28l]) (fun hs => by rw [hs.2])) (fun hs => by rw [hs.2])) (fun _ _ hs => inv_opposite hI hs) (fun _ _ hs hR => m_opposite hI hR hs)
theorem st_ofKind (hI : Inv M) (hR : rel M M) (k w : Int) : jStp 2 3 2 51 [.inl k, .inl w] M :=
  stp_e hI hR (c_ofKind hI.Ns k w) (fun _ _ hs => hs.2) (fun _ hs => m_ofKind hI hR hs.1)
theorem st_alike (hI : Inv M) (hR : rel M M) (k l : Int) : jStp 2 4 2 53 [.inl k, .inl l] M :=
  stp_e hI hR (c_alike hI.L k l) (fun _ _ hs => hs.2) (fun _ hs => m_alike hI hR hs.1)
theorem st_timed (hI : Inv M) (hR : rel M M) (v : Int) : jStp 0 5 1 54 [.inl v] M :=
  stp_f hI hR (c_timed hI.2.2.2.1 v) (fun r M1 hs => jif_e hs (fun hs => by rw [hs.2, e28u (by omega)]) (fun hs => by rw [hs.2])) (fun _ _ hs => inv_timed hI hs) (fun _ _ hs hR => m_timed hR hs)
theorem st_tale (hI : Inv M) (hR : rel M M) (t n : Int) : jStp 1 6 2 56 [.inl t, .inl n] M :=
  stp_f hI hR (c_tale M t n) (fun r M1 hs => by
    by_cases ht : isT t
    · exact jif_e (hs.1 ht) (fun hs => e28 fun y => hs.2.2.2.2.2 28 y (by omega)) (fun hs => by rw [hs.2])
    · rw [(hs.2 ht).2]) (fun _ _ hs => inv_tale' hI hs) (fun _ _ hs hR => m_tale hI hR hs)
theorem st_sort (hI : Inv M) (hR : rel M M) (t x v : Int) : jStp 1 7 2 58 [.inl t, .inl x, .inl v] M :=
  stp_f hI hR (c_sort hI.Ns t x v) (fun r M1 hs => by
    by_cases ht : isT t ∧ 0 ≤ x ∧ x < M t 0 0
    · exact jif_e (hs.1 ht) (fun hs => by rw [hs.2, e28u (by omega)]) (fun hs => by rw [hs.2])
    · rw [(hs.2 ht).2]) (fun _ _ hs => inv_sort hI hs) (fun _ _ hs hR => m_sort hI hR hs)
theorem st_label (hI : Inv M) (hR : rel M M) (t v : Int) : jStp 1 8 2 59 [.inl t, .inl v] M :=
  stp_f hI hR (c_label M t v) (fun r M1 hs => by
    by_cases ht : isT t
    · exact jif_e (hs.1 ht) (fun hs => by rw [hs.2, e28u (by omega)]) (fun hs => by rw [hs.2])
    · rw [(hs.2 ht).2]) (fun _ _ hs => inv_label hI hs) (fun _ _ hs hR => m_label hI hR hs)
theorem st_tie (hI : Inv M) (hR : rel M M) (t k x y z m : Int) : jStp 2 9 3 64 [.inl t, .inl k, .inl x, .inl y, .inl z, .inl m] M :=
  stp_f hI hR (c_tie hI.Ns (fun g g0 g1 => good_hb (hI.G g0 (by omega))) t k x y z m) (fun r M1 hs => by
    by_cases ht : isT t ∧ isK k
    · exact jif_e (hs.1 ht) (fun hs => jif_e hs (fun hs => by rw [hs.2]) (fun hs => jif_e hs (fun hs => by rw [hs.2]; exact e28 fun y => jput_at (by omega)) (fun hs => by rw [hs.2]))) (fun hs => by rw [hs.2])
    · rw [(hs.2 ht).2]) (fun _ _ hs => inv_tie hI hs) (fun _ _ hs hR => m_tie hI hR hs)
theorem st_ofTie (hI : Inv M) (hR : rel M M) (t i w : Int) : jStp 1 10 2 65 [.inl t, .inl i, .inl w] M :=
  stp_e hI hR (c_ofTie hI.Ns t i w) (fun _ _ hs => hs.2) (fun _ hs => m_ofTie hI hR hs.1)
theorem st_ofTale (hI : Inv M) (hR : rel M M) (t w : Int) : jStp 1 11 2 67 [.inl t, .inl w] M :=
  stp_e hI hR (c_ofTale hI.Ns t w) (fun _ _ hs => hs.2) (fun _ hs => m_ofTale hI hR hs.1)
theorem st_copy (hI : Inv M) (hR : rel M M) (t u : Int) : jStp 1 12 2 69 [.inl t, .inl u] M :=
  stp_f hI hR (c_copy M t u) (fun r M1 hs => by
    by_cases ht : isT t ∧ isT u
    · exact e28 fun y => (hs.1 ht).2.2.2.2.2.2.2 28 y (by omega)
    · rw [(hs.2 ht).2]) (fun _ _ hs => inv_copy hI hs) (fun _ _ hs hR => m_copy hI hR hs)
theorem st_like (hI : Inv M) (hR : rel M M) (a b l : Int) : jStp 12 13 5 82 [.inl a, .inl b, .inl l] M :=
  stp_f hI hR (c_like hI.1 hI.2.2.2.1 a b l) (fun r M1 hs => jif_e hs (fun hs => jif_e hs (fun hs => by
    obtain ⟨R, -, -, -, -, -, -, -, -, fr, -⟩ := hs
    exact e28 fun y => fr 28 y (by omega)) (fun hs => by rw [hs.2])) (fun hs => by rw [hs.2])) (fun _ _ hs => inv_like hI hs) (fun _ _ hs hR => m_like hI hR hs)
theorem st_partner (hI : Inv M) (hR : rel M M) (k : Int) : jStp 1 14 2 83 [.inl k] M :=
  stp_e hI hR (c_partner (hI.N (by omega) (by omega)) k) (fun _ _ hs => hs.2) (fun _ hs => m_partner hI hR hs)
theorem st_answer (hI : Inv M) (hR : rel M M) (k : Int) : jStp 1 15 1 84 [.inl k] M :=
  stp_e hI hR (c_answer (hI.N (by omega) (by omega)) k) (fun _ _ hs => hs.2) (fun _ hs => m_answer hI hR hs)
theorem st_likes (hI : Inv M) (hR : rel M M) (a b l i : Int) : jStp 12 16 5 86 [.inl a, .inl b, .inl l, .inl i] M :=
  stp_S hI hR (c_likes hI.1 a b l i) (fun r M1 hs => jif_e hs (fun hs => jif_e hs (fun hs => kp28 hs.2) (fun hs => by rw [hs.2]; exact r28 M)) (fun hs => by rw [hs.2]; exact r28 M)) (fun r M1 hs => jif_e hs (fun hs => jif_e hs (fun hs => inv_kp hI hs.2) (fun hs => by rw [hs.2]; exact hI)) (fun hs => by rw [hs.2]; exact hI)) (fun _ _ hs hR => m_likes hI hR hs)
theorem st_worth (hI : Inv M) (hR : rel M M) (a b l d : Int) (hd : -2147483648 ≤ d ∧ d ≤ 2147483647) : jStp 4 17 4 87 [.inl a, .inl b, .inl l, .inl d] M :=
  stp_S hI hR (c_worth hI.1 a b l d hd) (fun r M1 hs => jif_e hs (fun hs => jif_e hs (fun hs => kp28 hs.2) (fun hs => by rw [hs.2]; exact r28 M)) (fun hs => by rw [hs.2]; exact r28 M)) (fun r M1 hs => jif_e hs (fun hs => jif_e hs (fun hs => inv_kp hI hs.2) (fun hs => by rw [hs.2]; exact hI)) (fun hs => by rw [hs.2]; exact hI)) (fun _ _ hs hR => m_worth hI hR hd hs)
theorem st_same (hI : Inv M) (hR : rel M M) (a b : Int) : jStp 12 18 4 88 [.inl a, .inl b] M :=
  stp_S hI hR (c_same hI.1 a b) (fun r M1 hs => jif_e hs (fun hs => kp28 hs.2) (fun hs => by rw [hs.2]; exact r28 M)) (fun r M1 hs => jif_e hs (fun hs => inv_kp hI hs.2) (fun hs => by rw [hs.2]; exact hI)) (fun _ _ hs hR => m_same hI hR hs)
theorem st_guess (hI : Inv M) (hR : rel M M) (i : Int) : jStp 0 19 3 94 [.inl i] M := by
  have hc : jCallP 0 19 [.inr (18, 0), .inl i] M (fun r M' => s_guess M i r M') := by
    by_cases q : M 23 0 0 = 0
    · exact jstart (by decide) rfl (fX9_guess_0 ⟨fun z => absurd q z, fun z => ⟨jif_t q rfl, rfl⟩⟩)
    · obtain ⟨-, -, R, A, -, gl⟩ := hI.2.2.2.2.2.2.2 q
      have b1 := (gS_bd M R A (M 12 0 1).toNat).1.2
      have b2 := (hI.N (t := 12) (by omega) (by omega)).2
      exact c_guess (by rw [gl.2.1]; omega) i
  exact stp_S hI hR hc (fun r M1 hs => by rw [hs.2]; exact r28 M) (fun r M1 hs => by rw [hs.2]; exact hI) (fun _ _ hs hR => m_guess hI hR hs)
theorem st_ofGuess (hI : Inv M) (hR : rel M M) (i k : Int) : jStp 4 20 4 95 [.inl i, .inl k] M := by
  obtain ⟨R, A, gl⟩ : ∃ R A, ¬ M 23 0 0 = 0 → jGl M M 24 23 R A := by
    by_cases q : M 23 0 0 = 0
    · exact ⟨fun _ => 0, fun _ => 0, fun z => absurd q z⟩
    · obtain ⟨-, -, R, A, -, gl⟩ := hI.2.2.2.2.2.2.2 q
      exact ⟨R, A, fun _ => gl⟩
  exact stp_S hI hR (c_ofGuess hI.1 gl i k) (fun r M1 hs => by rw [hs.2]; exact r28 M) (fun r M1 hs => by rw [hs.2]; exact hI) (fun _ _ hs hR => m_ofGuess hI hR gl hs)
theorem st_giveUp (hI : Inv M) (hR : rel M M) : jStp 5 21 5 98 [] M := by
  by_cases q : M 23 0 0 = 0
  · have hc : jCallP 5 21 [.inr (18, 0)] M (fun r M' => s_giveUp M (fun _ => 0) r M') := jstart (by decide) rfl (fX9_giveUp_0 ⟨fun z => absurd q z, fun z => jif_t z ⟨rfl, rfl⟩⟩)
    exact stp_S hI hR hc (fun r M1 hs => by rw [(jif_y hs q).2]; exact r28 M) (fun r M1 hs => by rw [(jif_y hs q).2]; exact hI) (fun _ _ hs hR => m_giveUp (A := fun _ => 0) hI hR (fun z => absurd q z) hs)
  · obtain ⟨hlv, -, R, A, hv, gl⟩ := hI.2.2.2.2.2.2.2 q
    exact stp_S hI hR (c_giveUp hI.1 hlv (fun _ => gl.1.2.1)) (fun r M1 hs => kg28 (jif_n hs q).2) (fun r M1 hs => inv_kg hI (jif_n hs q).2) (fun _ _ hs hR => m_giveUp hI hR (fun _ => ⟨hv.1, gl⟩) hs)
theorem st_bound (hI : Inv M) (hR : rel M M) (a b : Int) : jStp 2 22 2 100 [.inl a, .inl b] M :=
  stp_e hI hR (c_bound hI.1 a b) (fun _ _ hs => hs.2) (fun _ hs => m_bound hI hR hs.1)
theorem st_seek (hI : Inv M) (hR : rel M M) (a : Int) : jStp 13 23 6 102 [.inl a] M :=
  stp_f hI hR (c_seek hI.1 a) (fun r M1 hs => jif_e hs (fun hs => e28 fun y => hs.2.2.2.2.1 28 y (by omega)) (fun hs => by rw [hs.2])) (fun _ _ hs => inv_seek hI hs) (fun _ _ hs hR => m_seek hI hR hs)
theorem st_sought (hI : Inv M) (hR : rel M M) (v : Int) : jStp 0 24 1 103 [.inl v] M :=
  stp_e hI hR (c_sought M v) (fun _ _ hs => hs.2) (fun _ hs => m_sought hR hs)
theorem st_common (hI : Inv M) (hR : rel M M) (a b c l : Int) : jStp 12 25 5 106 [.inl a, .inl b, .inl c, .inl l] M :=
  stp_f hI hR (c_common hI.1 a b c l) (fun r M1 hs => by
    by_cases ht : isT a ∧ isT b ∧ isT c
    · exact jif_e (hs.1 ht) (fun hs => jif_e hs (fun hs => by rw [hs.2]) (fun hs => by
        obtain ⟨R, T, S, -, -, -, -, -, -, fr, -⟩ := hs
        exact e28 fun y => fr 28 y (by omega))) (fun hs => by rw [hs.2])
    · rw [(hs.2 ht).2]) (fun _ _ hs => inv_common hI hs) (fun _ _ hs hR => m_common hI hR hs)
theorem st_series (hI : Inv M) (hR : rel M M) (a b c d : Int) : jStp 12 26 5 108 [.inl a, .inl b, .inl c, .inl d] M :=
  stp_f hI hR (c_series hI.1 a b c d) (fun r M1 hs => by
    by_cases ht : isT a ∧ isT b ∧ isT c ∧ isT d
    · obtain ⟨R1, R2, T, S, W, -, -, -, -, hf, -⟩ := hs.1 ht
      exact jif_e hf (fun hf => e28 fun y => hf.2 28 y (by omega)) (fun hf => e28 fun y => hf.2.2.2 28 y (by omega))
    · rw [(hs.2 ht).2]) (fun _ _ hs => inv_series hI hs) (fun _ _ hs hR => m_series hI hR hs)
theorem st_leftOut (hI : Inv M) (hR : rel M M) (a b : Int) : jStp 12 27 5 109 [.inl a, .inl b] M :=
  stp_S hI hR (c_leftOut hI.1 a b) (fun r M1 hs => jif_e hs (fun hs => kp28 hs.2) (fun hs => by rw [hs.2]; exact r28 M)) (fun r M1 hs => jif_e hs (fun hs => inv_kp hI hs.2) (fun hs => by rw [hs.2]; exact hI)) (fun _ _ hs hR => m_leftOut hI hR hs)
theorem st_trial (hI : Inv M) (hR : rel M M) (w : Int) : jStp 13 28 6 110 [.inl w] M :=
  stp_S hI hR (c_trial hI.1 w) (fun r M1 hs => jif_e hs (fun hs => kl28 hs.2) (fun hs => by rw [hs.2]; exact r28 M)) (fun r M1 hs => jif_e hs (fun hs => inv_kl hI hs.2) (fun hs => by rw [hs.2]; exact hI)) (fun _ _ hs hR => m_trial hI hR hs)
end STP
