/-! pure: what may still come is bounded by what is reached -/
theorem lab_ends {C : jM} (hL : jLV C) : ∀ (n : Nat) (k : Int), 0 ≤ k → k < 16 → C 19 1 (lab C n k) = C 19 1 k
  | 0, _, _, _ => rfl
  | n + 1, k, h0, h1 => by
    unfold lab
    obtain ⟨-, -, -, hw, -, he, -⟩ := hL k h0 h1
    by_cases h : C 19 3 k = -1
    · rw [if_pos h]
    · rw [if_neg h, lab_ends hL n _ (by omega) (by omega)]
      exact he (by omega)
theorem meet_ends {C : jM} (hL : jLV C) {k l : Int} (hk : isK k) (hl : isK l) (h : 0 ≤ meet C k l) : C 19 1 k = C 19 1 l := by
  unfold meet at h
  have key : ∀ n : Nat, lab C n k = lab C n l → C 19 1 k = C 19 1 l := fun n e => by
    rw [← lab_ends hL n k hk.1 hk.2, e, lab_ends hL n l hl.1 hl.2]
  split at h
  · exact key 0 (by assumption)
  · split at h
    · exact key 1 (by assumption)
    · split at h
      · exact key 2 (by assumption)
      · omega
def hE (C : jM) (g e : Int) : Int := if 10 ≤ e then C g 8 (e - 10) else 0
def jHt (C : jM) (g : Int) : Prop := ∀ i, 0 ≤ i → i < C g 0 1 → C g 8 i = 1 + jmx (hE C g (C g 6 (3 * i))) (jmx (hE C g (C g 6 (3 * i + 1))) (hE C g (C g 6 (3 * i + 2))))
def jEc (C : jM) (g : Int) : Prop := ∀ i q, 0 ≤ i → i < C g 0 1 → 0 ≤ q → q < 3 → (C g 6 (3 * i + q) = -1 ↔ C 19 1 (C g 5 i) ≤ q)
/-- a tale as it must be -/
def jGood (C : jM) (g : Int) : Prop := jTl C g ∧ jEs C g ∧ jHs C g ∧ jHt C g ∧ jEc C g
theorem ans_cand {C : jM} {a b lv wg tm : Int} {p : Int → Int} {N n : Nat} {j : Int} (hn : n < N) (h : ansF C a b lv wg tm p N n = j) (h0 : 0 ≤ j) : cand C a b lv wg tm p (ansF C a b lv wg tm p n) n j := by
  rw [ansF_st C a b lv wg tm p (n + 1) N n (by omega) (by omega), ansF_at] at h
  have hsp := jfst_sp (cand C a b lv wg tm p (ansF C a b lv wg tm p n) n) (C b 0 1).toNat
  rw [h] at hsp
  rcases hsp with x | x
  · omega
  · exact x.2.2.1
theorem EA_hE {C : jM} {a b lv wg tm : Int} {p : Int → Int} {n : Nat} {e f : Int} (hp : ∀ x, 0 ≤ x → x < 6 → ¬ p x = -2 ∧ p x < 6) (ih : ∀ (k : Nat) (j : Int), k < n → ansF C a b lv wg tm p n k = j → 0 ≤ j → C a 8 k = C b 8 j) (he : e < 10 + n) (h : EA C b p (sLS (ansF C a b lv wg tm p n)) (fun _ => False) e f) : hE C a e = hE C b f := by
  unfold hE
  rcases h with ⟨e0, e1, h⟩ | ⟨e0, f0, h1, h2⟩
  · have := hp e e0 e1
    rcases h with h | h
    · exact absurd h.1 this.1
    · rw [if_neg (by omega), if_neg (by omega)]
  · rw [if_pos e0, if_pos f0]
    have := ih (e - 10).toNat (f - 10) (by omega) (by rw [Int.toNat_of_nonneg (by omega)]; exact h1) h2
    rw [Int.toNat_of_nonneg (by omega)] at this
    exact this
theorem jmx_comm (x y : Int) : jmx x y = jmx y x := by unfold jmx; split <;> split <;> omega
/-- a tie and its answer are as high -/
theorem ans_height {C : jM} {a b lv wg tm : Int} {p : Int → Int} (hL : jLV C) (hGa : jGood C a) (hGb : jGood C b) (hp : ∀ x, 0 ≤ x → x < 6 → ¬ p x = -2 ∧ p x < 6) : ∀ (N k : Nat) (j : Int), k < N → (N : Int) ≤ C a 0 1 → ansF C a b lv wg tm p N k = j → 0 ≤ j → C a 8 k = C b 8 j := by
  intro N
  induction N with
  | zero => intro k j h; omega
  | succ N ih =>
    intro k j hk hN hj j0
    by_cases q : k = N
    · subst q
      have hc := ans_cand (n := k) (N := k + 1) (by omega) hj j0
      obtain ⟨⟨hcl, hends⟩, -, -⟩ := hc
      have hkb := hGb.1.2.2.1 j j0 hcl.2.1
      have hka := hGa.1.2.2.1 k (by omega) (by omega)
      have hee := meet_ends hL hka hkb hcl.2.2.1
      have ih' : ∀ (k' : Nat) (j : Int), k' < k → ansF C a b lv wg tm p k k' = j → 0 ≤ j → C a 8 k' = C b 8 j := fun k' j' h1 h2 h3 => ih k' j' h1 (by omega) h2 h3
      have hes := fun q q0 q1 => hGa.2.1 k q (by omega) (by omega) q0 q1
      rw [hGa.2.2.2.1 k (by omega) (by omega), hGb.2.2.2.1 j j0 hcl.2.1]
      have ce : ∀ q, 0 ≤ q → q < 3 → (C a 6 (3 * k + q) = -1 ↔ C b 6 (3 * j + q) = -1) := fun q q0 q1 => by
        rw [hGa.2.2.2.2 k q (by omega) (by omega) q0 q1, hGb.2.2.2.2 j q j0 hcl.2.1 q0 q1, hee]
      have opt : ∀ q, 0 ≤ q → q < 3 → (C a 6 (3 * k + q) = -1 ∨ EA C b p (sLS (ansF C a b lv wg tm p k)) (fun _ => False) (C a 6 (3 * k + q)) (C b 6 (3 * j + q))) → hE C a (C a 6 (3 * k + q)) = hE C b (C b 6 (3 * j + q)) := by
        intro q q0 q1 h
        rcases h with h | h
        · rw [h, (ce q q0 q1).mp h]; rfl
        · exact EA_hE hp ih' (hes q q0 q1).2.2 h
      rcases hends with ⟨h0, h1, h2⟩ | ⟨hev, h0, h1⟩
      · have e0 := EA_hE hp ih' (by have := (hes 0 (by omega) (by omega)).2.2; rwa [Int.add_zero] at this) h0
        rw [e0, opt 1 (by omega) (by omega) h1, opt 2 (by omega) (by omega) h2]
      · have e0 := EA_hE hp ih' (by have := (hes 0 (by omega) (by omega)).2.2; rwa [Int.add_zero] at this) h0
        have e1 := EA_hE hp ih' (hes 1 (by omega) (by omega)).2.2 h1
        have h2 : C 19 1 (C a 5 k) = 2 := by
          obtain ⟨-, h01, h2, -⟩ := hL _ hka.1 hka.2
          exact h2 (h01.resolve_left hev.1)
        have e2 : C a 6 (3 * k + 2) = -1 := (hGa.2.2.2.2 k 2 (by omega) (by omega) (by omega) (by omega)).mpr (by omega)
        have f2 := (ce 2 (by omega) (by omega)).mp e2
        rw [e0, e1, e2, f2]
        have z : hE C a (-1) = 0 := rfl
        have z2 : hE C b (-1) = 0 := rfl
        rw [z, z2]
        unfold jmx
        repeat' split
        all_goals omega
    · have e : ansF C a b lv wg tm p (N + 1) k = ansF C a b lv wg tm p N k := ansF_st C a b lv wg tm p N (N + 1) k (by omega) (by omega)
      rw [e] at hj
      exact ih k j (by omega) (by omega) hj j0
/-- the ties reached, tie by tie -/
def lsF (C : jM) (a b lv wg : Int) (p : Int → Int) (tk : Int → Prop) : Nat → Int → Int → Prop
  | 0 => fun _ _ => False
  | n + 1 => fun i j => (i = n ∧ RA C a b lv wg p (lsF C a b lv wg p tk n) tk n j) ∨ (¬ i = n ∧ lsF C a b lv wg p tk n i j)
theorem lsF_cld {C : jM} {a b lv wg : Int} {p : Int → Int} {tk : Int → Prop} : ∀ (n : Nat) (i j : Int), lsF C a b lv wg p tk n i j → cld C a b lv wg i j ∧ 0 ≤ i ∧ i < n
  | 0, _, _, h => h.elim
  | n + 1, i, j, h => by
    rcases h with ⟨rfl, h⟩ | ⟨h1, h⟩
    · exact ⟨h.1, by omega, by omega⟩
    · have := lsF_cld n i j h
      exact ⟨this.1, this.2.1, by omega⟩
theorem lsF_st {C : jM} {a b lv wg : Int} {p : Int → Int} {tk : Int → Prop} (n : Nat) : ∀ (m : Nat) (i j : Int), i < n → n ≤ m → (lsF C a b lv wg p tk m i j ↔ lsF C a b lv wg p tk n i j)
  | 0, i, j, h, hm => by rw [show n = 0 by omega]
  | m + 1, i, j, h, hm => by
    rcases Nat.lt_or_ge m n with q | q
    · rw [show n = m + 1 by omega]
    · rw [← lsF_st n m i j h q]
      constructor
      · rintro (⟨x, -⟩ | ⟨-, x⟩)
        · omega
        · exact x
      · intro x
        exact Or.inr ⟨by omega, x⟩
/-- p' decides what p leaves open -/
def cmpl (C : jM) (a b : Int) (p p' : Int → Int) (tk : Int → Prop) : Prop := (∀ x, 0 ≤ x → x < C a 0 0 → (p x = -2 → p' x = -1 ∨ (0 ≤ p' x ∧ p' x < C b 0 0 ∧ ¬ tk (p' x))) ∧ (¬ p x = -2 → p' x = p x)) ∧ ∀ x, 0 ≤ x → x < 6 → ¬ p' x = -2 ∧ p' x < 6
theorem EA_mono {C : jM} {a b : Int} {p p' : Int → Int} {tk : Int → Prop} {A : Int → Int} {LS : Int → Int → Prop} {e f : Int} (hc : cmpl C a b p p' tk) (hT : e < 10 → e < C a 0 0) (hs : 10 ≤ e → ∀ j, A (e - 10) = j → 0 ≤ j → LS (e - 10) j) (h : EA C b p' (sLS A) (fun _ => False) e f) : EA C b p LS tk e f := by
  rcases h with ⟨e0, e1, h⟩ | ⟨e0, f0, h1, h2⟩
  · obtain ⟨h1, h2⟩ := hc.1 e e0 (hT (by omega))
    have h3 := (hc.2 e e0 e1).1
    rcases h with h | h
    · exact absurd h.1 h3
    · by_cases q : p e = -2
      · rcases h1 q with x | x
        · omega
        · exact Or.inl ⟨e0, e1, Or.inl ⟨q, by omega, by rw [h.2]; exact x.2.1, by rw [h.2]; exact x.2.2⟩⟩
      · have x := h2 q
        exact Or.inl ⟨e0, e1, Or.inr ⟨by omega, by omega⟩⟩
  · exact Or.inr ⟨e0, f0, hs e0 _ h1 h2⟩
/-- what answers is reached -/
theorem ans_reached {C : jM} {a b lv wg tm : Int} {p p' : Int → Int} {tk : Int → Prop} (hEa : jEs C a) (hc : cmpl C a b p p' tk) : ∀ (N k : Nat) (j : Int), k < N → (N : Int) ≤ C a 0 1 → ansF C a b lv wg tm p' N k = j → 0 ≤ j → lsF C a b lv wg p tk N k j := by
  intro N
  induction N with
  | zero => intro k j h; omega
  | succ N ih =>
    intro k j hk hN hj j0
    by_cases q : k = N
    · subst q
      obtain ⟨⟨hcl, hends⟩, -, -⟩ := ans_cand (n := k) (N := k + 1) (by omega) hj j0
      have mono : ∀ q f, 0 ≤ q → q < 3 → EA C b p' (sLS (ansF C a b lv wg tm p' k)) (fun _ => False) (C a 6 (3 * k + q)) f → EA C b p (lsF C a b lv wg p tk k) tk (C a 6 (3 * k + q)) f := fun q f q0 q1 h => by
        obtain ⟨g0, g1, g2⟩ := hEa k q (by omega) (by omega) q0 q1
        refine EA_mono hc g1 (fun x j' h1 h2 => ?_) h
        have := ih (C a 6 (3 * k + q) - 10).toNat j' (by omega) (by omega) (by rw [Int.toNat_of_nonneg (by omega)]; exact h1) h2
        rw [Int.toNat_of_nonneg (by omega)] at this
        exact this
      have mono0 : ∀ f, EA C b p' (sLS (ansF C a b lv wg tm p' k)) (fun _ => False) (C a 6 (3 * k)) f → EA C b p (lsF C a b lv wg p tk k) tk (C a 6 (3 * k)) f := fun f h => by
        have := mono 0 f (by omega) (by omega) (by rw [Int.add_zero]; exact h)
        rwa [Int.add_zero] at this
      refine Or.inl ⟨rfl, hcl, ?_⟩
      rcases hends with ⟨h0, h1, h2⟩ | ⟨hev, h0, h1⟩
      · exact Or.inl ⟨mono0 _ h0, h1.imp id (mono 1 _ (by omega) (by omega)), h2.imp id (mono 2 _ (by omega) (by omega))⟩
      · exact Or.inr ⟨hev, mono0 _ h0, mono 1 _ (by omega) (by omega) h1⟩
    · have e : ansF C a b lv wg tm p' (N + 1) k = ansF C a b lv wg tm p' N k := ansF_st C a b lv wg tm p' N (N + 1) k (by omega) (by omega)
      rw [e] at hj
      exact Or.inr ⟨by omega, ih k j (by omega) (by omega) hj j0⟩
/-- answers are apart -/
theorem ans_apart {C : jM} {a b lv wg tm : Int} {p : Int → Int} {N k n : Nat} {j : Int} (hk : k < n) (hn : n < N) (h1 : ansF C a b lv wg tm p N k = j) (h2 : ansF C a b lv wg tm p N n = j) (h0 : 0 ≤ j) : False := by
  obtain ⟨-, h3, -⟩ := ans_cand hn h2 h0
  refine h3 k (by omega) (by omega) ?_
  rw [← h1]
  exact (ansF_st C a b lv wg tm p n N k (by omega) (by omega)).symm
/-- the order of moments of what answers -/
theorem ans_order {C : jM} {a b lv wg tm : Int} {p : Int → Int} (htm : ¬ tm = 0) {N k n : Nat} (hk : k < N) (hn : n < N) (h1 : 0 ≤ ansF C a b lv wg tm p N k) (h2 : 0 ≤ ansF C a b lv wg tm p N n) (m1 : ¬ C a 7 k = -1) (m2 : ¬ C a 7 n = -1) (u1 : 0 ≤ C b 7 (ansF C a b lv wg tm p N k)) (u2 : 0 ≤ C b 7 (ansF C a b lv wg tm p N n)) : sOrd (C a 7 k) (C a 7 n) (C b 7 (ansF C a b lv wg tm p N k)) (C b 7 (ansF C a b lv wg tm p N n)) := by
  have half : ∀ {k n : Nat}, k < n → n < N → 0 ≤ ansF C a b lv wg tm p N k → 0 ≤ ansF C a b lv wg tm p N n → ¬ C a 7 k = -1 → ¬ C a 7 n = -1 → 0 ≤ C b 7 (ansF C a b lv wg tm p N k) → 0 ≤ C b 7 (ansF C a b lv wg tm p N n) → sOrd (C a 7 k) (C a 7 n) (C b 7 (ansF C a b lv wg tm p N k)) (C b 7 (ansF C a b lv wg tm p N n)) := by
    intro k n hkn hn h1 h2 m1 m2 u1 u2
    obtain ⟨-, -, h3⟩ := ans_cand hn rfl h2
    have e := ansF_st C a b lv wg tm p n N k (by omega) (by omega)
    have h4 := h3 htm k (by omega) (by omega) (by rw [← e]; exact h1)
    rw [← e] at h4
    by_cases q : sOrd (C a 7 k) (C a 7 n) (C b 7 (ansF C a b lv wg tm p N k)) (C b 7 (ansF C a b lv wg tm p N n))
    · exact q
    · exact absurd ⟨⟨m2, m1, by omega⟩, u2, q⟩ h4
  rcases Nat.lt_or_ge k n with q | q
  · exact half q hn h1 h2 m1 m2 u1 u2
  · rcases Nat.lt_or_ge n k with q2 | q2
    · have := half q2 hk h2 h1 m2 m1 u2 u1
      exact ⟨this.2, this.1⟩
    · have e : k = n := by omega
      subst e
      exact ⟨⟨fun x => by omega, fun x => by omega⟩, ⟨fun x => by omega, fun x => by omega⟩⟩
/-- which moment of the other tale a moment is answered by -/
noncomputable def fF (C : jM) (a b : Int) (A : Int → Int) (m : Int) : Int :=
  if jfst (fun i => 0 ≤ A i ∧ C a 7 i = m ∧ 0 ≤ C b 7 (A i)) (C a 0 1).toNat = -1 then -1 else C b 7 (A (jfst (fun i => 0 ≤ A i ∧ C a 7 i = m ∧ 0 ≤ C b 7 (A i)) (C a 0 1).toNat))
theorem fF_at {C : jM} {a b lv wg tm : Int} {p : Int → Int} (htm : ¬ tm = 0) {i : Nat} (hi : (i : Int) < C a 0 1) (h1 : 0 ≤ ans C a b lv wg tm p i) (m1 : ¬ C a 7 i = -1) (u1 : 0 ≤ C b 7 (ans C a b lv wg tm p i)) : fF C a b (ans C a b lv wg tm p) (C a 7 i) = C b 7 (ans C a b lv wg tm p i) := by
  unfold fF
  have hsp := jfst_sp (fun i' => 0 ≤ ans C a b lv wg tm p i' ∧ C a 7 i' = C a 7 i ∧ 0 ≤ C b 7 (ans C a b lv wg tm p i')) (C a 0 1).toNat
  generalize jfst (fun i' => 0 ≤ ans C a b lv wg tm p i' ∧ C a 7 i' = C a 7 i ∧ 0 ≤ C b 7 (ans C a b lv wg tm p i')) (C a 0 1).toNat = r at hsp ⊢
  rcases hsp with ⟨-, hno⟩ | ⟨r0, r1, ⟨g1, g2, g3⟩, -⟩
  · exact absurd ⟨h1, rfl, u1⟩ (hno i (by omega) (by omega))
  · rw [if_neg (by omega)]
    have e : ((r.toNat : Nat) : Int) = r := Int.toNat_of_nonneg r0
    have := ans_order (C := C) (a := a) (b := b) (lv := lv) (wg := wg) (tm := tm) (p := p) htm (N := (C a 0 1).toNat) (k := r.toNat) (n := i) (by omega) (by omega) (by rw [e]; exact g1) h1 (by rw [e, g2]; exact m1) m1 (by rw [e]; exact g3) u1
    rw [e] at this
    unfold ans at *
    have h2 := this.1
    have h3 := this.2
    rw [g2] at h2 h3
    have a1 : ¬ C b 7 (ansF C a b lv wg tm p (C a 0 1).toNat r) < C b 7 (ansF C a b lv wg tm p (C a 0 1).toNat i) := fun x => by have := h2.mpr x; omega
    have a2 : ¬ C b 7 (ansF C a b lv wg tm p (C a 0 1).toNat i) < C b 7 (ansF C a b lv wg tm p (C a 0 1).toNat r) := fun x => by have := h3.mpr x; omega
    omega
theorem fF_chn {C : jM} {a b lv wg tm : Int} {p : Int → Int} (htm : ¬ tm = 0) (hNb : 0 ≤ C b 0 1) (hOb : jMo C b) : chn (fF C a b (ans C a b lv wg tm p)) := by
  have sp : ∀ m, (fF C a b (ans C a b lv wg tm p) m = -1) ∨ ∃ i : Nat, (i : Int) < C a 0 1 ∧ 0 ≤ ans C a b lv wg tm p i ∧ C a 7 i = m ∧ 0 ≤ C b 7 (ans C a b lv wg tm p i) ∧ fF C a b (ans C a b lv wg tm p) m = C b 7 (ans C a b lv wg tm p i) := by
    intro m
    unfold fF
    have hsp := jfst_sp (fun i' => 0 ≤ ans C a b lv wg tm p i' ∧ C a 7 i' = m ∧ 0 ≤ C b 7 (ans C a b lv wg tm p i')) (C a 0 1).toNat
    generalize jfst (fun i' => 0 ≤ ans C a b lv wg tm p i' ∧ C a 7 i' = m ∧ 0 ≤ C b 7 (ans C a b lv wg tm p i')) (C a 0 1).toNat = r at hsp ⊢
    rcases hsp with ⟨h, -⟩ | ⟨r0, r1, ⟨g1, g2, g3⟩, -⟩
    · exact Or.inl (by rw [if_pos h])
    · refine Or.inr ⟨r.toNat, by omega, ?_⟩
      rw [Int.toNat_of_nonneg r0, if_neg (by omega)]
      exact ⟨g1, g2, g3, rfl⟩
  have bd : ∀ i, ans C a b lv wg tm p i < C b 0 1 := fun i => (ansF_bd C a b lv wg tm p hNb _ i).2
  refine ⟨fun h => ?_, fun h k h0 hk k1 fh fk => ?_⟩
  · rcases sp h with x | ⟨i, i1, g1, g2, g3, x⟩
    · omega
    · have := hOb _ g1 (bd i)
      omega
  · rcases sp h with x | ⟨i, i1, g1, g2, g3, x⟩
    · omega
    · rcases sp k with y | ⟨i', i1', g1', g2', g3', y⟩
      · omega
      · rw [x, y]
        have := ans_order (C := C) (a := a) (b := b) (lv := lv) (wg := wg) (tm := tm) (p := p) htm (N := (C a 0 1).toNat) (k := i) (n := i') (by omega) (by omega) g1 g1' (by omega) (by omega) g3 g3'
        exact this.1.mp (by omega)
theorem phi_le {W W' f : Int → Int} : ∀ n : Nat, (∀ h : Int, 0 ≤ h → h < n → 0 ≤ f h → W (10 * h + f h) ≤ W' (10 * h + f h)) → phi W f n ≤ phi W' f n
  | 0, _ => Int.le_refl _
  | n + 1, hw => by
    have ih := phi_le n (fun h h0 h1 => hw h h0 (by omega))
    have := hw n (by omega) (by omega)
    unfold phi
    split
    · have := this (by assumption)
      omega
    · omega
theorem phi_add {W W' f : Int → Int} {m g : Int} (hm : 0 ≤ m) (hf : 0 ≤ f m) (hg : W (10 * m + f m) + g ≤ W' (10 * m + f m)) : ∀ n : Nat, m < n → (∀ h : Int, 0 ≤ h → h < n → 0 ≤ f h → W (10 * h + f h) ≤ W' (10 * h + f h)) → phi W f n + g ≤ phi W' f n
  | 0, h, _ => by omega
  | n + 1, h, hw => by
    unfold phi
    by_cases q : m = n
    · subst q
      have ih := phi_le n (fun h h0 h1 => hw h h0 (by omega))
      rw [if_pos hf, if_pos hf]
      omega
    · have ih := phi_add hm hf hg n (by omega) (fun h h0 h1 => hw h h0 (by omega))
      have := hw n (by omega) (by omega)
      split
      · have := this (by assumption)
        omega
      · omega
/-- sums over the ties of the other tale, of those that answer -/
noncomputable def uS (U : Int → Prop) (G : Int → Int) : Nat → Int
  | 0 => 0
  | n + 1 => uS U G n + @ite Int (U n) (Classical.propDecidable _) (G n) 0
theorem uS_le {U : Int → Prop} {G : Int → Int} (hG : ∀ j, 0 ≤ G j) : ∀ n : Nat, 0 ≤ uS U G n ∧ uS U G n ≤ uS (fun _ => True) G n
  | 0 => ⟨Int.le_refl _, Int.le_refl _⟩
  | n + 1 => by
    have ih := uS_le hG n (U := U)
    have := hG n
    unfold uS
    rw [if_pos trivial]
    by_cases q : U n
    · rw [if_pos q]; omega
    · rw [if_neg q]; omega
theorem uS_congr {U U' : Int → Prop} {G : Int → Int} : ∀ n : Nat, (∀ j : Int, 0 ≤ j → j < n → (U j ↔ U' j)) → uS U G n = uS U' G n
  | 0, _ => rfl
  | n + 1, h => by
    unfold uS
    rw [uS_congr n (fun j j0 j1 => h j j0 (by omega))]
    by_cases q : U n
    · rw [if_pos q, if_pos ((h n (by omega) (by omega)).mp q)]
    · rw [if_neg q, if_neg (fun k => q ((h n (by omega) (by omega)).mpr k))]
theorem uS_add {U : Int → Prop} {G : Int → Int} {j0 : Int} (hj : 0 ≤ j0) (hU : ¬ U j0) : ∀ n : Nat, j0 < n → uS (fun j => U j ∨ j = j0) G n = uS U G n + G j0
  | 0, h => by omega
  | n + 1, h => by
    unfold uS
    by_cases q : j0 = n
    · subst q
      rw [if_pos (Or.inr rfl), if_neg hU, uS_congr n (U := fun j => U j ∨ j = (n : Int)) (U' := U) (fun j j0 j1 => ⟨fun x => x.resolve_right (by omega), Or.inl⟩)]
      omega
    · rw [uS_add hj hU n (by omega)]
      by_cases q2 : U n
      · rw [if_pos (Or.inl q2), if_pos q2]; omega
      · rw [if_neg (fun k => k.elim q2 (fun x => q x.symm)), if_neg q2]; omega
theorem wsum_given {C : jM} {a b lv wg tm : Int} {p : Int → Int} {G : Int → Int} (hNb : 0 ≤ C b 0 1) (hG : ∀ (k : Nat) (j : Int), (k : Int) < C a 0 1 → ans C a b lv wg tm p k = j → 0 ≤ j → gI C a b wg k j ≤ G j) : ∀ n : Nat, (n : Int) ≤ C a 0 1 → wsum C a b wg (ans C a b lv wg tm p) n ≤ uS (fun j => ∃ k : Nat, k < n ∧ ans C a b lv wg tm p k = j) G (C b 0 1).toNat
  | 0, _ => by
    have : ∀ m : Nat, uS (fun j => ∃ k : Nat, k < 0 ∧ ans C a b lv wg tm p k = j) G m = 0 := by
      intro m
      induction m with
      | zero => rfl
      | succ m ih => unfold uS; rw [ih, if_neg (fun x => by obtain ⟨k, hk, -⟩ := x; omega)]; rfl
    rw [this]
    exact Int.le_refl _
  | n + 1, hn => by
    have ih := wsum_given hNb hG n (by omega)
    unfold wsum
    have bd := ansF_bd C a b lv wg tm p hNb (C a 0 1).toNat n
    by_cases q : ans C a b lv wg tm p n = -1
    · have e : gI C a b wg n (ans C a b lv wg tm p n) = 0 := by unfold gI; rw [if_pos q]
      rw [e, Int.add_zero, uS_congr (C b 0 1).toNat (U' := fun j => ∃ k : Nat, k < n ∧ ans C a b lv wg tm p k = j) (fun j j0 j1 => ⟨fun x => ?_, fun x => ?_⟩)]
      · exact ih
      · obtain ⟨k, hk, hx⟩ := x
        refine ⟨k, ?_, hx⟩
        by_cases y : k = n
        · rw [y] at hx; omega
        · omega
      · obtain ⟨k, hk, hx⟩ := x
        exact ⟨k, by omega, hx⟩
    · have j0 : 0 ≤ ans C a b lv wg tm p n := by unfold ans at q ⊢; omega
      have g := hG n _ (by omega) rfl j0
      have hap : ¬ ∃ k : Nat, k < n ∧ ans C a b lv wg tm p k = ans C a b lv wg tm p n := by
        rintro ⟨k, hk, hx⟩
        exact ans_apart (N := (C a 0 1).toNat) hk (by omega) hx rfl j0
      have := uS_add (U := fun j => ∃ k : Nat, k < n ∧ ans C a b lv wg tm p k = j) (G := G) j0 hap (C b 0 1).toNat (by unfold ans; omega)
      rw [uS_congr (C b 0 1).toNat (U := fun j => ∃ k : Nat, k < n + 1 ∧ ans C a b lv wg tm p k = j) (U' := fun j => (∃ k : Nat, k < n ∧ ans C a b lv wg tm p k = j) ∨ j = ans C a b lv wg tm p n) (fun j _ _ => ⟨fun x => ?_, fun x => ?_⟩), this]
      · omega
      · obtain ⟨k, hk, hx⟩ := x
        by_cases y : k = n
        · rw [y] at hx; exact Or.inr hx.symm
        · exact Or.inl ⟨k, by omega, hx⟩
      · rcases x with ⟨k, hk, hx⟩ | x
        · exact ⟨k, by omega, hx⟩
        · exact ⟨n, by omega, x.symm⟩
