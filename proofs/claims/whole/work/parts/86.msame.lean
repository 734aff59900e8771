/-! the reference: same -/
theorem cP_full {U : Int → Prop} : ∀ n : Nat, cP U n = n → ∀ j : Int, 0 ≤ j → j < n → U j
  | 0, _, j, j0, j1 => by omega
  | n + 1, h, j, j0, j1 => by
    have b := cP_bd U n
    rw [cP_succ] at h
    by_cases u : U n
    · by_cases e : j = n
      · rw [e]; exact u
      · rw [if_pos u] at h
        exact cP_full n (by omega) j j0 (by omega)
    · rw [if_neg u] at h
      omega
theorem wsum_full {C : jM} {a b wg : Int} {A : Int → Int} (hwg : ¬ wg = 0) : ∀ n : Nat, (0 ≤ wsum C a b wg A n ∧ wsum C a b wg A n ≤ n) ∧ (wsum C a b wg A n = n ↔ ∀ i : Int, 0 ≤ i → i < n → ¬ A i = -1)
  | 0 => ⟨⟨Int.le_refl _, Int.le_refl _⟩, ⟨fun _ i i0 i1 => by omega, fun _ => rfl⟩⟩
  | n + 1 => by
    obtain ⟨bd, ih⟩ := wsum_full (C := C) (a := a) (b := b) (A := A) hwg n
    have e : wsum C a b wg A (n + 1) = wsum C a b wg A n + gI C a b wg n (A n) := rfl
    have g : gI C a b wg n (A n) = if A n = -1 then 0 else 1 := by
      unfold gI
      by_cases u : A n = -1
      · rw [if_pos u, if_pos u]
      · rw [if_neg u, if_neg u, if_neg hwg]
    rw [e, g]
    by_cases u : A n = -1
    · rw [if_pos u]
      refine ⟨by omega, ⟨fun h => by omega, fun h => absurd u (h n (by omega) (by omega))⟩⟩
    · rw [if_neg u]
      refine ⟨by omega, ⟨fun h i i0 i1 => ?_, fun h => ?_⟩⟩
      · by_cases e : i = n
        · rw [e]; exact u
        · exact ih.mp (by omega) i i0 (by omega)
      · have := ih.mpr (fun i i0 i1 => h i i0 (by omega))
        omega
theorem cand2 {C : jM} {a b : Int} {p A : Int → Int} {n j : Int} : cand C a b 0 2 0 p A n j ↔ (cand C a b 0 0 0 p A n j ∧ C a 7 n = C b 7 j) := by
  have : cld C a b 0 2 n j ↔ (cld C a b 0 0 n j ∧ C a 7 n = C b 7 j) := by
    unfold cld
    exact ⟨fun ⟨h1, h2, h3, h4, h5⟩ => ⟨⟨h1, h2, h3, h4, fun q => absurd q (by decide)⟩, h5 rfl⟩, fun ⟨⟨h1, h2, h3, h4, _⟩, h5⟩ => ⟨h1, h2, h3, h4, fun _ => h5⟩⟩
  unfold cand RA
  rw [this]
  exact ⟨fun ⟨⟨⟨h1, h5⟩, h2⟩, h3⟩ => ⟨⟨⟨h1, h2⟩, h3⟩, h5⟩, fun ⟨⟨⟨h1, h2⟩, h3⟩, h5⟩ => ⟨⟨⟨h1, h5⟩, h2⟩, h3⟩⟩
theorem EA_one {C : jM} {b : Int} {p A : Int → Int} {e f f' : Int} (hp : ∀ x, -1 ≤ p x) (h : EA C b p (sLS A) (fun _ => False) e f) (h' : EA C b p (sLS A) (fun _ => False) e f') : f = f' := by
  have := hp e
  unfold EA sLS at h h'
  rcases h with ⟨h1, h2, h3⟩ | ⟨h1, h2, h3⟩
  · rcases h' with ⟨k1, k2, k3⟩ | ⟨k1, k2, k3⟩
    · omega
    · omega
  · rcases h' with ⟨k1, k2, k3⟩ | ⟨k1, k2, k3⟩
    · omega
    · omega
theorem meet0 {C : jM} {k l : Int} (h0 : 0 ≤ meet C k l) (h1 : meet C k l ≤ 0) : k = l := by
  unfold meet at h0 h1
  by_cases u : lab C 0 k = lab C 0 l
  · exact u
  · rw [if_neg u] at h0 h1
    split at h0
    · rename_i h; rw [if_pos h] at h1; omega
    · rename_i h
      rw [if_neg h] at h1
      split at h0
      · rename_i h2; rw [if_pos h2] at h1; omega
      · omega
/-- without moments a tie has one candidate -/
theorem cand_one {C : jM} {a b : Int} {p A : Int → Int} {n i j : Int} (hG : gd C a b) (hU : jUq C b) (hp : ∀ x, -1 ≤ p x) (hn : 0 ≤ n ∧ n < C a 0 1) (hi : cand C a b 0 0 0 p A n i) (hj : cand C a b 0 0 0 p A n j) (h : i < j) : False := by
  obtain ⟨hL, hGa, hGb, -, -⟩ := hG
  obtain ⟨⟨ci, hi⟩, -⟩ := hi
  obtain ⟨⟨cj, hj⟩, -⟩ := hj
  have ki := meet0 ci.2.2.1 ci.2.2.2.1
  have kj := meet0 cj.2.2.1 cj.2.2.2.1
  have kk : C b 5 i = C b 5 j := by rw [← ki, ← kj]
  have K := hGa.1.2.2.1 n hn.1 hn.2
  obtain ⟨⟨l1, l3⟩, l2, le, -⟩ := hL _ K.1 K.2
  have ea := fun q q0 q1 => hGa.2.2.2.2 n q hn.1 hn.2 q0 q1
  have ei := fun q q0 q1 => hGb.2.2.2.2 i q ci.1 ci.2.1 q0 q1
  have ej := fun q q0 q1 => hGb.2.2.2.2 j q cj.1 cj.2.1 q0 q1
  rw [← ki] at ei
  rw [← kj] at ej
  have a1 := ea 1 (by omega) (by omega)
  have a2 := ea 2 (by omega) (by omega)
  have i1 := ei 1 (by omega) (by omega)
  have i2 := ei 2 (by omega) (by omega)
  have j1 := ej 1 (by omega) (by omega)
  have j2 := ej 2 (by omega) (by omega)
  refine hU i j ci.1 h cj.2.1 ?_
  have third : (C a 6 (3 * n + 2) = -1 → C b 6 (3 * i + 2) = C b 6 (3 * j + 2)) := fun q => by
    rw [i2.mpr (a2.mp q), j2.mpr (a2.mp q)]
  have second : (C a 6 (3 * n + 1) = -1 → C b 6 (3 * i + 1) = C b 6 (3 * j + 1)) := fun q => by
    rw [i1.mpr (a1.mp q), j1.mpr (a1.mp q)]
  refine ⟨kk, ?_⟩
  have evj : evn C a b n i → ¬ C 19 2 (C b 5 j) = 0 := fun q => by rw [← kj]; exact q.1
  have evj' : evn C a b n j → ¬ C 19 2 (C b 5 j) = 0 := fun q => q.2
  have ev2 : evn C a b n i → C a 6 (3 * n + 2) = -1 := fun q => a2.mpr (by have := q.1; have := le (by omega); omega)
  rcases hi with ⟨s0, s1, s2⟩ | ⟨ev, t0, t1⟩
  · rcases hj with ⟨u0, u1, u2⟩ | ⟨ev', v0, v1⟩
    · refine Or.inl ⟨EA_one hp s0 u0, ?_, ?_⟩
      · rcases s1 with s1 | s1
        · exact second s1
        · rcases u1 with u1 | u1
          · exact second u1
          · exact EA_one hp s1 u1
      · rcases s2 with s2 | s2
        · exact third s2
        · rcases u2 with u2 | u2
          · exact third u2
          · exact EA_one hp s2 u2
    · refine Or.inr ⟨evj' ev', EA_one hp s0 v0, ?_⟩
      rcases s1 with s1 | s1
      · rw [s1] at v1
        unfold EA at v1
        omega
      · exact EA_one hp s1 v1
  · rcases hj with ⟨u0, u1, u2⟩ | ⟨ev', v0, v1⟩
    · refine Or.inr ⟨evj ev, ?_, EA_one hp t0 u0⟩
      rcases u1 with u1 | u1
      · rw [u1] at t1
        unfold EA at t1
        omega
      · exact EA_one hp t1 u1
    · exact Or.inl ⟨EA_one hp t1 v1, EA_one hp t0 v0, third (ev2 ev)⟩
def smOk (C : jM) (a b : Int) (q : Int → Int) : Prop := prs C a q = C a 0 0 ∧ wth C a b 0 1 0 q = C a 0 1 ∧ (∀ x, 0 ≤ x → x < C a 0 0 → C a 4 x = C b 4 (q x)) ∧ ∀ e, 0 ≤ e → e < C a 0 1 → C a 7 e = C b 7 (ans C a b 0 0 0 q e)
theorem same_iff {C : jM} {a b : Int} {q : Int → Int} (hG : gd C a b) (hU : jUq C b) (hv : vld C a b q) : wth C a b 0 2 0 q = C a 0 0 + C a 0 1 ↔ smOk C a b q := by
  have na1 := hG.2.1.1.2.1.1
  have na2 := hG.2.1.1.2.1.2
  have nb2 := hG.2.2.1.1.2.1.2
  have hp : ∀ x, -1 ≤ q x := fun x => by rcases hv.1 x with e | e <;> omega
  have e2 : wth C a b 0 2 0 q = wsum C a b 2 (ans C a b 0 2 0 q) (C a 0 1).toNat + cP (mts C a b q) (C a 0 0).toNat := by
    unfold wth srt
    rw [if_neg (by decide)]
  have e1 : wth C a b 0 1 0 q = wsum C a b 1 (ans C a b 0 0 0 q) (C a 0 1).toNat := by
    unfold wth srt
    rw [ans_wg1, if_pos rfl, Int.add_zero]
  have w2 := wsum_full (C := C) (a := a) (b := b) (wg := 2) (A := ans C a b 0 2 0 q) (by decide) (C a 0 1).toNat
  have w1 := wsum_full (C := C) (a := a) (b := b) (wg := 1) (A := ans C a b 0 0 0 q) (by decide) (C a 0 1).toNat
  have cb := cP_bd (mts C a b q) (C a 0 0).toNat
  have stp : ∀ (wg : Int) (n : Nat), ansF C a b 0 wg 0 q (n + 1) = jfu (ansF C a b 0 wg 0 q n) n (jfst (cand C a b 0 wg 0 q (ansF C a b 0 wg 0 q n) n) (C b 0 1).toNat) := fun _ _ => rfl
  have at' : ∀ (wg : Int) (n : Nat), (n : Int) < C a 0 1 → ans C a b 0 wg 0 q n = jfst (cand C a b 0 wg 0 q (ansF C a b 0 wg 0 q n) n) (C b 0 1).toNat := fun wg n hn => by
    rw [← ansF_at]
    exact ansF_st C a b 0 wg 0 q (n + 1) _ n (by omega) (by omega)
  unfold smOk
  rw [e2, e1]
  constructor
  · intro h
    have all2 := w2.2.mp (by omega)
    have hm := cP_full (C a 0 0).toNat (U := mts C a b q) (by omega)
    have eq : ∀ n : Nat, (n : Int) ≤ C a 0 1 → ansF C a b 0 0 0 q n = ansF C a b 0 2 0 q n := by
      intro n
      induction n with
      | zero => intro _; rfl
      | succ n ih =>
        intro hn
        have ih := ih (by omega)
        rw [stp, stp, ih]
        congr 1
        have sp := jfst_sp (cand C a b 0 2 0 q (ansF C a b 0 2 0 q n) n) (C b 0 1).toNat
        have nn := all2 n (by omega) (by omega)
        rw [at' 2 n (by omega)] at nn
        rcases sp with sp | ⟨s0, s1, s2, -⟩
        · exact absurd sp.1 nn
        · have c0 := (cand2.mp s2).1
          exact jfst_is s0 s1 c0 (fun i i0 i1 hc => cand_one hG hU hp (by omega) hc c0 i1)
    have ea : ans C a b 0 0 0 q = ans C a b 0 2 0 q := eq (C a 0 1).toNat (by omega)
    rw [ea] at w1 ⊢
    refine ⟨?_, ?_, fun x x0 x1 => (hm x x0 (by omega)).2, fun e e0 e1 => ?_⟩
    · unfold prs
      rw [cP_all (C a 0 0).toNat (fun x x0 x1 => (hm x x0 x1).1)]
      omega
    · have := w1.2.mpr all2
      omega
    · obtain ⟨e, rfl⟩ : ∃ n : Nat, e = n := ⟨e.toNat, by omega⟩
      have sp := jfst_sp (cand C a b 0 2 0 q (ansF C a b 0 2 0 q e) e) (C b 0 1).toNat
      have nn := all2 e (by omega) (by omega)
      have at2 := at' 2 e e1
      rw [at2] at nn
      rcases sp with sp | ⟨s0, s1, s2, -⟩
      · exact absurd sp.1 nn
      · rw [at2]
        exact (cand2.mp s2).2
  · rintro ⟨h1, h2, h3, h4⟩
    have all0 := w1.2.mp (by omega)
    have hq := cP_full (C a 0 0).toNat (U := fun x => 0 ≤ q x) (by unfold prs at h1; omega)
    have hm := cP_all (U := mts C a b q) (C a 0 0).toNat (fun x x0 x1 => ⟨hq x x0 x1, h3 x x0 (by omega)⟩)
    have eq : ∀ n : Nat, (n : Int) ≤ C a 0 1 → ansF C a b 0 2 0 q n = ansF C a b 0 0 0 q n := by
      intro n
      induction n with
      | zero => intro _; rfl
      | succ n ih =>
        intro hn
        have ih := ih (by omega)
        rw [stp, stp, ih]
        congr 1
        have sp := jfst_sp (cand C a b 0 0 0 q (ansF C a b 0 0 0 q n) n) (C b 0 1).toNat
        have nn := all0 n (by omega) (by omega)
        have m4 := h4 n (by omega) (by omega)
        rw [at' 0 n (by omega)] at nn m4
        rcases sp with sp | ⟨s0, s1, s2, s3⟩
        · exact absurd sp.1 nn
        · exact jfst_is s0 s1 (cand2.mpr ⟨s2, m4⟩) (fun i i0 i1 hc => s3 i i0 i1 (cand2.mp hc).1)
    have ea : ans C a b 0 2 0 q = ans C a b 0 0 0 q := eq (C a 0 1).toNat (by omega)
    rw [ea] at w2 ⊢
    have := w2.2.mpr all0
    omega
