/-! the spec speaks of what is in range only -/
def agr (C C' : jM) (a a' : Int) : Prop := C' a' 0 0 = C a 0 0 ∧ C' a' 0 1 = C a 0 1 ∧ (∀ x, 0 ≤ x → x < C a 0 0 → C' a' 4 x = C a 4 x) ∧ (∀ i, 0 ≤ i → i < C a 0 1 → C' a' 5 i = C a 5 i ∧ C' a' 7 i = C a 7 i ∧ C' a' 8 i = C a 8 i) ∧ (∀ i q, 0 ≤ i → i < C a 0 1 → 0 ≤ q → q < 3 → C' a' 6 (3 * i + q) = C a 6 (3 * i + q))
theorem lab_agr {C C' : jM} (h : C' 19 = C 19) : ∀ (n : Nat) (k : Int), lab C' n k = lab C n k
  | 0, _ => rfl
  | n + 1, k => by
    unfold lab
    rw [h, lab_agr h n]
theorem meet_agr {C C' : jM} (h : C' 19 = C 19) (k l : Int) : meet C' k l = meet C k l := by
  unfold meet
  simp only [lab_agr h]
theorem cld_agr {C C' : jM} {a a' b b' lv wg i j : Int} (h : C' 19 = C 19) (ha : agr C C' a a') (hb : agr C C' b b') (hi : 0 ≤ i ∧ i < C a 0 1) : cld C' a' b' lv wg i j ↔ cld C a b lv wg i j := by
  obtain ⟨-, -, -, a5, -⟩ := ha
  obtain ⟨-, b1, -, b5, -⟩ := hb
  unfold cld
  rw [b1, meet_agr h, (a5 i hi.1 hi.2).1, (a5 i hi.1 hi.2).2.1]
  constructor
  · rintro ⟨j0, j1, q⟩
    rw [(b5 j j0 j1).1, (b5 j j0 j1).2.1] at q
    exact ⟨j0, j1, q⟩
  · rintro ⟨j0, j1, q⟩
    rw [(b5 j j0 j1).1, (b5 j j0 j1).2.1]
    exact ⟨j0, j1, q⟩
theorem RA_agr {C C' : jM} {a a' b b' lv wg i j : Int} {p : Int → Int} {LS : Int → Int → Prop} {tk : Int → Prop} (h : C' 19 = C 19) (ha : agr C C' a a') (hb : agr C C' b b') (hi : 0 ≤ i ∧ i < C a 0 1) : RA C' a' b' lv wg p LS tk i j ↔ RA C a b lv wg p LS tk i j := by
  have hc := cld_agr (lv := lv) (wg := wg) (j := j) h ha hb hi
  unfold RA
  rw [hc]
  obtain ⟨-, -, -, a5, a6⟩ := ha
  obtain ⟨b0, -, -, b5, b6⟩ := hb
  have e0 := a6 i 0 hi.1 hi.2 (by omega) (by omega)
  have e1 := a6 i 1 hi.1 hi.2 (by omega) (by omega)
  have e2 := a6 i 2 hi.1 hi.2 (by omega) (by omega)
  rw [Int.add_zero] at e0
  refine and_congr_right (fun q => ?_)
  have f0 := b6 j 0 q.1 q.2.1 (by omega) (by omega)
  have f1 := b6 j 1 q.1 q.2.1 (by omega) (by omega)
  have f2 := b6 j 2 q.1 q.2.1 (by omega) (by omega)
  rw [Int.add_zero] at f0
  have eE : ∀ e f, EA C' b' p LS tk e f ↔ EA C b p LS tk e f := fun e f => by unfold EA; rw [b0]
  have eV : evn C' a' b' i j ↔ evn C a b i j := by unfold evn; rw [h, (a5 i hi.1 hi.2).1, (b5 j q.1 q.2.1).1]
  rw [eE, eE, eE, eE, eE, eV, e0, e1, e2, f0, f1, f2]
theorem goes_agr {C C' : jM} {a a' b b' i j : Int} {A : Int → Int} (ha : agr C C' a a') (hb : agr C C' b b') (hi : 0 ≤ i ∧ i < C a 0 1) (hj : 0 ≤ j ∧ j < C b 0 1) (hA : ∀ k, A k < C b 0 1) : goes C' a' b' A i j ↔ goes C a b A i j := by
  obtain ⟨-, -, -, a5, -⟩ := ha
  obtain ⟨-, -, -, b5, -⟩ := hb
  unfold goes
  refine forall_congr' (fun k => forall_congr' (fun k0 => forall_congr' (fun k1 => forall_congr' (fun hk => ?_))))
  unfold oos
  rw [(a5 i hi.1 hi.2).2.1, (a5 k k0 (by omega)).2.1, (b5 j hj.1 hj.2).2.1, (b5 (A k) hk (hA k)).2.1]
theorem ansF_agr {C C' : jM} {a a' b b' lv wg tm : Int} {p : Int → Int} (h : C' 19 = C 19) (ha : agr C C' a a') (hb : agr C C' b b') (nb : 0 ≤ C b 0 1) : ∀ n : Nat, (n : Int) ≤ C a 0 1 → ansF C' a' b' lv wg tm p n = ansF C a b lv wg tm p n
  | 0, _ => rfl
  | n + 1, hn => by
    have ih := ansF_agr (lv := lv) (wg := wg) (tm := tm) (p := p) h ha hb nb n (by omega)
    have e : ∀ (D : jM) (x y : Int), ansF D x y lv wg tm p (n + 1) = jfu (ansF D x y lv wg tm p n) n (jfst (cand D x y lv wg tm p (ansF D x y lv wg tm p n) n) (D y 0 1).toNat) := fun D x y => rfl
    rw [e, e, ih, hb.2.1]
    congr 1
    refine jfst_congr (fun j j0 j1 => ?_)
    unfold cand
    rw [RA_agr h ha hb ⟨by omega, by omega⟩]
    refine and_congr_right (fun _ => and_congr_right (fun _ => ?_))
    rw [goes_agr ha hb ⟨by omega, by omega⟩ ⟨j0, by omega⟩ (fun k => (ansF_bd C a b lv wg tm p nb n k).2)]
theorem ans_agr {C C' : jM} {a a' b b' lv wg tm : Int} {p : Int → Int} (h : C' 19 = C 19) (ha : agr C C' a a') (hb : agr C C' b b') (na : 0 ≤ C a 0 1) (nb : 0 ≤ C b 0 1) : ans C' a' b' lv wg tm p = ans C a b lv wg tm p := by
  unfold ans
  rw [ha.2.1]
  exact ansF_agr h ha hb nb _ (by omega)
theorem vld_agr {C C' : jM} {a a' b b' : Int} {q : Int → Int} (ha : agr C C' a a') (hb : agr C C' b b') : vld C' a' b' q ↔ vld C a b q := by
  unfold vld
  rw [ha.1, hb.1]
theorem prs_agr {C C' : jM} {a a' : Int} {q : Int → Int} (ha : agr C C' a a') : prs C' a' q = prs C a q := by
  unfold prs
  rw [ha.1]
theorem wth_agr {C C' : jM} {a a' b b' lv wg tm : Int} {q : Int → Int} (h : C' 19 = C 19) (ha : agr C C' a a') (hb : agr C C' b b') (na : 0 ≤ C a 0 1) (nb : 0 ≤ C b 0 1) (hv : vld C a b q) : wth C' a' b' lv wg tm q = wth C a b lv wg tm q := by
  have e : ∀ n : Nat, (n : Int) ≤ C a 0 1 → wsum C' a' b' wg (ans C a b lv wg tm q) n = wsum C a b wg (ans C a b lv wg tm q) n := by
    intro n
    induction n with
    | zero => intro _; rfl
    | succ n ih =>
      intro hn
      show wsum C' a' b' wg _ n + gI C' a' b' wg n _ = wsum C a b wg _ n + gI C a b wg n _
      rw [ih (by omega)]
      congr 1
      unfold gI
      have bd := ansF_bd C a b lv wg tm q nb (C a 0 1).toNat n
      by_cases y : ans C a b lv wg tm q n = -1
      · rw [if_pos y, if_pos y]
      · have a5 := ha.2.2.2.1 n (by omega) (by omega)
        have b5 := hb.2.2.2.1 (ans C a b lv wg tm q n) (by unfold ans at y ⊢; omega) bd.2
        rw [if_neg y, if_neg y, meet_agr h, a5.1, a5.2.2, b5.1]
  unfold wth
  rw [ans_agr h ha hb na nb, ha.2.1, e _ (by omega)]
  congr 1
  unfold srt
  rw [ha.1]
  split
  · rfl
  · refine cP_congr _ (fun x x0 x1 => ?_)
    unfold mts
    refine and_congr_right (fun hq => ?_)
    have := hv.1 x
    rw [ha.2.2.1 x x0 (by omega), hb.2.2.1 (q x) hq (by omega)]
theorem best_agr {C C' : jM} {a a' b b' lv wg tm : Int} {R : Int → Int} (h : C' 19 = C 19) (ha : agr C C' a a') (hb : agr C C' b b') (na : 0 ≤ C a 0 1) (nb : 0 ≤ C b 0 1) (hR : best C a b lv tm wg R) : best C' a' b' lv tm wg R := by
  obtain ⟨v, hR⟩ := hR
  refine ⟨(vld_agr ha hb).mpr v, fun q hq => ?_⟩
  have vq := (vld_agr ha hb).mp hq
  have := hR q vq
  unfold btr at this ⊢
  rw [wth_agr h ha hb na nb vq, wth_agr h ha hb na nb v, prs_agr ha, prs_agr ha, ha.1]
  exact this
