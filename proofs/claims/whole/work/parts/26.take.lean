/-! WHICH TIES MAY ANSWER WHICH: what take() lays -/
def cld (C : jM) (a b lv wg i j : Int) : Prop := 0 ≤ j ∧ j < C b 0 1 ∧ 0 ≤ meet C (C a 5 i) (C b 5 j) ∧ meet C (C a 5 i) (C b 5 j) ≤ lv ∧ (wg = 2 → C a 7 i = C b 7 j)
def evn (C : jM) (a b i j : Int) : Prop := ¬ C 19 2 (C a 5 i) = 0 ∧ ¬ C 19 2 (C b 5 j) = 0
/-- what the small cells hold of tie i, the ties of the other tale looked at up to n -/
def jCmp (C M : jM) (a b lv wg i n : Int) : Prop :=
  isM (M 20 9 i) (fun j => cld C a b lv wg i j ∧ j < n) ∧ isM (M 20 10 i) (fun j => (cld C a b lv wg i j ∧ evn C a b i j) ∧ j < n) ∧ isM (M 20 11 i) (fun j => (cld C a b lv wg i j ∧ meet C (C a 5 i) (C b 5 j) = 0) ∧ j < n) ∧ isM (M 20 12 i) (fun j => (cld C a b lv wg i j ∧ meet C (C a 5 i) (C b 5 j) ≤ 1) ∧ j < n)
/-- the kinds of a tale are kinds -/
def jKd (C : jM) (g : Int) : Prop := ∀ i, 0 ≤ i → i < C g 0 1 → isK (C g 5 i)
theorem meet_bd (C : jM) (k l : Int) : -1 ≤ meet C k l ∧ meet C k l ≤ 2 := by
  unfold meet
  split
  · omega
  · split
    · omega
    · split <;> omega
/-- one more number in a set, or not -/
theorem isM_more {x n : Int} {P : Int → Prop} (h : isM x (fun j => P j ∧ j < n)) (n0 : 0 ≤ n) (n1 : n < 32) (c : Prop) [Decidable c] (hc : c ↔ P n) : isM (jior x (if c then jishl 1 n else 0)) (fun j => P j ∧ j < n + 1) := by
  by_cases q : c
  · rw [if_pos q]
    refine (h.or (isM_bit n0 n1)).congr (fun j j0 j1 => ⟨fun k => ?_, fun k => ?_⟩)
    · rcases k with k | k
      · exact ⟨k.1, by omega⟩
      · rw [k]; exact ⟨hc.mp q, by omega⟩
    · by_cases e : j = n
      · exact Or.inr e
      · exact Or.inl ⟨k.1, by omega⟩
  · rw [if_neg q]
    refine (h.or isM_0).congr (fun j j0 j1 => ⟨fun k => ?_, fun k => Or.inl ⟨k.1, ?_⟩⟩)
    · rcases k with k | k
      · exact ⟨k.1, by omega⟩
      · exact k.elim
    · by_cases e : j = n
      · rw [e] at k; exact absurd (hc.mpr k.1) q
      · omega
theorem isM_same {x n : Int} {P : Int → Prop} (h : isM x (fun j => P j ∧ j < n)) (hc : ¬ P n) : isM x (fun j => P j ∧ j < n + 1) := h.congr (fun j j0 j1 => ⟨fun k => ⟨k.1, by omega⟩, fun k => ⟨k.1, by
  by_cases e : j = n
  · rw [e] at k; exact absurd k.1 hc
  · omega⟩⟩)
set_option maxHeartbeats 2000000 in
theorem c_compareTie {C M : jM} {a b lv wg i : Int} (ha : 0 ≤ a ∧ a < 18) (hb : 0 ≤ b ∧ b < 18) (hL : jLV C) (hNa : jNB C a) (hNb : jNB C b) (hKa : jKd C a) (hKb : jKd C b) (hi : 0 ≤ i ∧ i < C a 0 1)
    (hlv : 0 ≤ lv ∧ lv < 3) (hf : M 20 0 1 = a) (ht : M 20 0 2 = b) (hw : M 20 0 3 = wg) (h19 : M 19 = C 19) (hMa : M a = C a) (hMb : M b = C b) :
    jCallP 2 112 [.inr (20, 0), .inl i, .inl lv] M (fun _ M' => jCmp C M' a b lv wg i (C b 0 1) ∧ ∀ x y c, ¬ (x = 20 ∧ (y = 9 ∨ y = 10 ∨ y = 11 ∨ y = 12) ∧ c = i) → M' x y c = M x y c) := by
  have hi14 : i < 14 := by have := hNa.2.2; omega
  have b9 : 0 ≤ i ∧ i < jal 20 9 := by rw [jal_20_9]; omega
  have b10 : 0 ≤ i ∧ i < jal 20 10 := by rw [jal_20_10]; omega
  have b11 : 0 ≤ i ∧ i < jal 20 11 := by rw [jal_20_11]; omega
  have b12 : 0 ≤ i ∧ i < jal 20 12 := by rw [jal_20_12]; omega
  refine jstart (by decide) rfl (fX0_compareTie_0 ⟨b9, b10, b11, b12, ?_⟩)
  have key : ∀ n, 0 ≤ n → n ≤ C b 0 1 → ∀ M1 : jM, jCmp C M1 a b lv wg i n → (∀ x y c, ¬ (x = 20 ∧ (y = 9 ∨ y = 10 ∨ y = 11 ∨ y = 12) ∧ c = i) → M1 x y c = M x y c) →
      jWP 2 112 30 [some (.inr (20, 0)), some (.inl i), some (.inl lv), some (.inl n), none, none, none, none] [] M1 (fun _ M' => jCmp C M' a b lv wg i (C b 0 1) ∧ ∀ x y c, ¬ (x = 20 ∧ (y = 9 ∨ y = 10 ∨ y = 11 ∨ y = 12) ∧ c = i) → M' x y c = M x y c) := by
    refine jloop (e := C b 0 1) (fun M1 h1 h2 => ?_) (fun n n0 n1 ih M1 h1 h2 => ?_)
    · have e2 : M1 20 0 2 = b := by rw [h2 _ _ _ (by simp)]; exact ht
      have eb : M1 b 0 1 = C b 0 1 := by rw [h2 _ _ _ (by simp), hMb]
      refine fX0_compareTie_30 ?_
      rw [e2, eb]
      exact ⟨hb, fun _ => ⟨h1, h2⟩, fun q => by exfalso; omega⟩
    · have n14 : n < 14 := by have := hNb.2.2; omega
      have fr : ∀ x y, ¬ (x = 20 ∧ (y = 9 ∨ y = 10 ∨ y = 11 ∨ y = 12)) → M1 x y = M x y := fun x y h => by funext c; exact h2 x y c (fun q => h ⟨q.1, q.2.1⟩)
      have e1 : M1 20 0 1 = a := by rw [fr _ _ (by simp)]; exact hf
      have e2 : M1 20 0 2 = b := by rw [fr _ _ (by simp)]; exact ht
      have e3 : M1 20 0 3 = wg := by rw [fr _ _ (by simp)]; exact hw
      have e19 : ∀ y, M1 19 y = C 19 y := fun y => by rw [fr _ _ (by simp), h19]
      have ea : ∀ y, y < 9 → M1 a y = C a y := fun y hy => by rw [fr _ _ (by omega), hMa]
      have eb : ∀ y, y < 9 → M1 b y = C b y := fun y hy => by rw [fr _ _ (by omega), hMb]
      have hka := hKa i hi.1 hi.2
      have hkb := hKb n n0 n1
      have hL1 : jLV M1 := by unfold jLV; rw [e19, e19, e19, e19]; exact hL
      have labe : ∀ (k : Nat) (x : Int), lab M1 k x = lab C k x := by
        intro k
        induction k with
        | zero => intro x; rfl
        | succ k ihk => intro x; unfold lab; rw [e19, ihk]
      have meete : ∀ x y, meet M1 x y = meet C x y := fun x y => by unfold meet; simp only [labe]
      have next : ∀ M2 : jM, jCmp C M2 a b lv wg i (n + 1) → (∀ x y c, ¬ (x = 20 ∧ (y = 9 ∨ y = 10 ∨ y = 11 ∨ y = 12) ∧ c = i) → M2 x y c = M1 x y c) → jWP 2 112 30 [some (.inr (20, 0)), some (.inl i), some (.inl lv), some (.inl (jwr (n + 1))), none, none, none, none] [] M2 (fun _ M' => jCmp C M' a b lv wg i (C b 0 1) ∧ ∀ x y c, ¬ (x = 20 ∧ (y = 9 ∨ y = 10 ∨ y = 11 ∨ y = 12) ∧ c = i) → M' x y c = M x y c) := by
        intro M2 g1 g2
        rw [jwr_id (by omega) (by omega)]
        exact ih M2 g1 (fun x y c hc => by rw [g2 x y c hc, h2 x y c hc])
      refine fX0_compareTie_30 ?_
      rw [e2, e1, eb 0 (by omega), ea 5 (by omega), eb 5 (by omega)]
      refine ⟨hb, fun q => by exfalso; omega, fun _ => ⟨ha, ⟨hi.1, by rw [jal_n5 ha]; omega⟩, hb, ⟨n0, by rw [jal_n5 hb]; omega⟩, ?_⟩⟩
      refine jc (c_meetingLevel hL1 _ _ hka hkb) (by decide) ?_
      rw [meete, e1, e2, e3, ea 7 (by omega), eb 7 (by omega)]
      have mb := meet_bd C (C a 5 i) (C b 5 n)
      -- what follows, with whether the moments fit
      have main : ∀ s0 : Int, (¬ s0 = 0 ↔ (wg = 2 → C a 7 i = C b 7 n)) → jWP 2 112 102 [some (.inr (20, 0)), some (.inl i), some (.inl lv), some (.inl n), some (.inl (meet C (C a 5 i) (C b 5 n))), none, none, none] [.inl s0] M1 (fun _ M' => jCmp C M' a b lv wg i (C b 0 1) ∧ ∀ x y c, ¬ (x = 20 ∧ (y = 9 ∨ y = 10 ∨ y = 11 ∨ y = 12) ∧ c = i) → M' x y c = M x y c) := by
        intro s0 hs
        have no : ¬ cld C a b lv wg i n → jWP 2 112 30 [some (.inr (20, 0)), some (.inl i), some (.inl lv), some (.inl (jwr (n + 1))), none, none, none, none] [] M1 (fun _ M' => jCmp C M' a b lv wg i (C b 0 1) ∧ ∀ x y c, ¬ (x = 20 ∧ (y = 9 ∨ y = 10 ∨ y = 11 ∨ y = 12) ∧ c = i) → M' x y c = M x y c) := fun hno =>
          next M1 ⟨isM_same h1.1 hno, isM_same h1.2.1 (fun q => hno q.1), isM_same h1.2.2.1 (fun q => hno q.1), isM_same h1.2.2.2 (fun q => hno q.1)⟩ (fun _ _ _ _ => rfl)
        refine fX0_compareTie_102 ⟨fun q => no (fun k => hs.mpr k.2.2.2.2 q), fun q => ⟨fun q2 => no (fun k => by have := k.2.2.1; omega), fun q2 => ⟨fun q3 => no (fun k => by have := k.2.2.2.1; omega), fun q3 => ⟨b9, b9, b11, ?_⟩⟩⟩⟩
        have hc : cld C a b lv wg i n := ⟨n0, n1, by omega, q3, hs.mp q⟩
        -- the four sets, one after the other
        have fin : ∀ s0 : Int, (s0 = if meet C (C a 5 i) (C b 5 n) = 0 then jishl 1 n else 0) → jWP 2 112 155 [some (.inr (20, 0)), some (.inl i), some (.inl lv), some (.inl n), some (.inl (meet C (C a 5 i) (C b 5 n))), none, some (.inl (jishl 1 n)), none] [.inl s0, .inl ((jup M1 20 9 i (jior (M1 20 9 i) (jishl 1 n))) 20 11 i), .inl i, .inr (20, 11)] (jup M1 20 9 i (jior (M1 20 9 i) (jishl 1 n))) (fun _ M' => jCmp C M' a b lv wg i (C b 0 1) ∧ ∀ x y c, ¬ (x = 20 ∧ (y = 9 ∨ y = 10 ∨ y = 11 ∨ y = 12) ∧ c = i) → M' x y c = M x y c) := by
          intro s0 hs0
          rw [jup_ne (by simp)]
          generalize hM2 : jup M1 20 9 i (jior (M1 20 9 i) (jishl 1 n)) = M2
          have n2 : ∀ x y c, ¬ (x = 20 ∧ y = 9 ∧ c = i) → M2 x y c = M1 x y c := fun x y c h => by rw [← hM2, jup_ne h]
          have v9 : M2 20 9 i = jior (M1 20 9 i) (jishl 1 n) := by rw [← hM2, jup_eq]
          have fin2 : ∀ t0 : Int, (t0 = if meet C (C a 5 i) (C b 5 n) ≤ 1 then jishl 1 n else 0) → jWP 2 112 176 [some (.inr (20, 0)), some (.inl i), some (.inl lv), some (.inl n), none, none, some (.inl (jishl 1 n)), none] [.inl t0, .inl ((jup M2 20 11 i (jior (M1 20 11 i) s0)) 20 12 i), .inl i, .inr (20, 12)] (jup M2 20 11 i (jior (M1 20 11 i) s0)) (fun _ M' => jCmp C M' a b lv wg i (C b 0 1) ∧ ∀ x y c, ¬ (x = 20 ∧ (y = 9 ∨ y = 10 ∨ y = 11 ∨ y = 12) ∧ c = i) → M' x y c = M x y c) := by
            intro t0 ht0
            rw [jup_ne (by simp), n2 _ _ _ (by simp)]
            generalize hM3 : jup M2 20 11 i (jior (M1 20 11 i) s0) = M3
            have n3 : ∀ x y c, ¬ (x = 20 ∧ (y = 9 ∨ y = 11) ∧ c = i) → M3 x y c = M1 x y c := fun x y c h => by rw [← hM3, jup_ne (fun q => h ⟨q.1, Or.inr q.2.1, q.2.2⟩), n2 _ _ _ (fun q => h ⟨q.1, Or.inl q.2.1, q.2.2⟩)]
            have w9 : M3 20 9 i = jior (M1 20 9 i) (jishl 1 n) := by rw [← hM3, jup_ne (by simp), v9]
            have w11 : M3 20 11 i = jior (M1 20 11 i) s0 := by rw [← hM3, jup_eq]
            have key223 : ∀ s0' : Int, (¬ s0' = 0 ↔ evn C a b i n) → jWP 2 112 223 [some (.inr (20, 0)), some (.inl i), some (.inl lv), some (.inl n), none, none, some (.inl (jishl 1 n)), none] [.inl s0'] (jup M3 20 12 i (jior (M1 20 12 i) t0)) (fun _ M' => jCmp C M' a b lv wg i (C b 0 1) ∧ ∀ x y c, ¬ (x = 20 ∧ (y = 9 ∨ y = 10 ∨ y = 11 ∨ y = 12) ∧ c = i) → M' x y c = M x y c) := by
              intro s0' hs'
              generalize hM4 : jup M3 20 12 i (jior (M1 20 12 i) t0) = M4
              have n4 : ∀ x y c, ¬ (x = 20 ∧ (y = 9 ∨ y = 11 ∨ y = 12) ∧ c = i) → M4 x y c = M1 x y c := fun x y c h => by rw [← hM4, jup_ne (fun q => h ⟨q.1, Or.inr (Or.inr q.2.1), q.2.2⟩), n3 _ _ _ (fun q => h ⟨q.1, by rcases q.2.1 with q | q <;> simp [q], q.2.2⟩)]
              have x9 : M4 20 9 i = jior (M1 20 9 i) (jishl 1 n) := by rw [← hM4, jup_ne (by simp), w9]
              have x11 : M4 20 11 i = jior (M1 20 11 i) s0 := by rw [← hM4, jup_ne (by simp), w11]
              have x12 : M4 20 12 i = jior (M1 20 12 i) t0 := by rw [← hM4, jup_eq]
              have x10 : M4 20 10 i = M1 20 10 i := n4 _ _ _ (by simp)
              have last : ∀ u : Int, u = (if ¬ s0' = 0 then jishl 1 n else 0) → jWP 2 112 30 [some (.inr (20, 0)), some (.inl i), some (.inl lv), some (.inl (jwr (n + 1))), none, none, none, none] [] (jup M4 20 10 i (jior (M4 20 10 i) u)) (fun _ M' => jCmp C M' a b lv wg i (C b 0 1) ∧ ∀ x y c, ¬ (x = 20 ∧ (y = 9 ∨ y = 10 ∨ y = 11 ∨ y = 12) ∧ c = i) → M' x y c = M x y c) := by
                intro u hu
                refine next _ ⟨?_, ?_, ?_, ?_⟩ (fun x y c h => ?_)
                · rw [jup_ne (by simp), x9]
                  have := isM_more h1.1 n0 (by omega) True ⟨fun _ => hc, fun _ => trivial⟩
                  rw [if_pos trivial] at this
                  exact this
                · rw [jup_eq, x10, hu]
                  exact isM_more h1.2.1 n0 (by omega) _ ⟨fun q => ⟨hc, hs'.mp q⟩, fun q => hs'.mpr q.2⟩
                · rw [jup_ne (by simp), x11, hs0]
                  exact isM_more h1.2.2.1 n0 (by omega) _ ⟨fun q => ⟨hc, q⟩, fun q => q.2⟩
                · rw [jup_ne (by simp), x12, ht0]
                  exact isM_more h1.2.2.2 n0 (by omega) _ ⟨fun q => ⟨hc, q⟩, fun q => q.2⟩
                · rw [jup_ne (fun q => h ⟨q.1, Or.inr (Or.inl q.2.1), q.2.2⟩), n4 _ _ _ (fun q => h ⟨q.1, by rcases q.2.1 with q | q | q <;> simp [q], q.2.2⟩)]
              exact fX0_compareTie_223 ⟨b10, fun q => ⟨b10, last 0 (by rw [if_neg (fun k => k q)])⟩, fun q => ⟨b10, last _ (by rw [if_pos q])⟩⟩
            have y1 : jup M3 20 12 i (jior (M1 20 12 i) t0) 20 0 1 = a := by rw [jup_ne (by simp), n3 _ _ _ (by simp)]; exact e1
            have y2 : jup M3 20 12 i (jior (M1 20 12 i) t0) 20 0 2 = b := by rw [jup_ne (by simp), n3 _ _ _ (by simp)]; exact e2
            have ya : ∀ c, jup M3 20 12 i (jior (M1 20 12 i) t0) a 5 c = C a 5 c := fun c => by rw [jup_ne (by simp), n3 _ _ _ (by simp), ea 5 (by omega)]
            have yb : ∀ c, jup M3 20 12 i (jior (M1 20 12 i) t0) b 5 c = C b 5 c := fun c => by rw [jup_ne (by simp), n3 _ _ _ (by simp), eb 5 (by omega)]
            have y19 : ∀ c, jup M3 20 12 i (jior (M1 20 12 i) t0) 19 2 c = C 19 2 c := fun c => by rw [jup_ne (by simp), n3 _ _ _ (by simp), e19]
            refine fX0_compareTie_176 ?_
            rw [y1, y2, ya, yb, y19, y19]
            refine ⟨b12, ha, ⟨hi.1, by rw [jal_n5 ha]; omega⟩, by rw [jbl_19_2]; exact hka, fun q => key223 0 ⟨fun k => absurd rfl k, fun k => absurd q k.1⟩, fun q => ⟨hb, ⟨n0, by rw [jal_n5 hb]; omega⟩, by rw [jbl_19_2]; exact hkb, fun q2 => key223 0 ⟨fun k => absurd rfl k, fun k => absurd q2 k.2⟩, fun q2 => key223 1 ⟨fun _ => ⟨q, q2⟩, fun _ => by decide⟩⟩⟩
          exact fX0_compareTie_155 ⟨b11, b12, fun q => fin2 0 (by rw [if_neg (by omega)]), fun q => fin2 _ (by rw [if_pos q])⟩
        exact ⟨fun q4 => fin 0 (by rw [if_neg q4]), fun q4 => fin _ (by rw [if_pos q4])⟩
      exact ⟨fun q => main 1 ⟨fun _ k => absurd k q, fun _ => by decide⟩, fun q => ⟨ha, ⟨hi.1, by rw [jal_n7 ha]; omega⟩, hb, ⟨n0, by rw [jal_n7 hb]; omega⟩, fun q2 => main 0 ⟨fun k => absurd rfl k, fun k => absurd (k q) q2⟩, fun q2 => main 1 ⟨fun _ _ => q2, fun _ => by decide⟩⟩⟩
  refine key 0 (by omega) hNb.2.1 _ ⟨?_, ?_, ?_, ?_⟩ (fun x y c h => ?_)
  · rw [jup_ne (by simp), jup_ne (by simp), jup_ne (by simp), jup_eq]
    exact isM_0.congr (fun j j0 j1 => ⟨fun q => q.elim, fun q => by have := q.2; omega⟩)
  · rw [jup_ne (by simp), jup_ne (by simp), jup_eq]
    exact isM_0.congr (fun j j0 j1 => ⟨fun q => q.elim, fun q => by have := q.2; omega⟩)
  · rw [jup_ne (by simp), jup_eq]
    exact isM_0.congr (fun j j0 j1 => ⟨fun q => q.elim, fun q => by have := q.2; omega⟩)
  · rw [jup_eq]
    exact isM_0.congr (fun j j0 j1 => ⟨fun q => q.elim, fun q => by have := q.2; omega⟩)
  · rw [jup_ne (fun q => h ⟨q.1, by simp [q.2.1], q.2.2⟩), jup_ne (fun q => h ⟨q.1, by simp [q.2.1], q.2.2⟩), jup_ne (fun q => h ⟨q.1, by simp [q.2.1], q.2.2⟩), jup_ne (fun q => h ⟨q.1, by simp [q.2.1], q.2.2⟩)]
