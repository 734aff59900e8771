/-! A TALE: its words, as the cells of a net hold them -/
def jNB (M : jM) (g : Int) : Prop := (0 ≤ M g 0 0 ∧ M g 0 0 ≤ 6) ∧ (0 ≤ M g 0 1 ∧ M g 0 1 ≤ 14)
/-- the first of the numbers below n with P; -1 -/
noncomputable def jfst (P : Int → Prop) : Nat → Int
  | 0 => -1
  | n + 1 => if 0 ≤ jfst P n then jfst P n else @ite Int (P n) (Classical.propDecidable _) (n : Int) (-1)
theorem jfst_sp (P : Int → Prop) : ∀ n : Nat, (jfst P n = -1 ∧ ∀ i : Int, 0 ≤ i → i < n → ¬ P i) ∨ (0 ≤ jfst P n ∧ jfst P n < n ∧ P (jfst P n) ∧ ∀ i : Int, 0 ≤ i → i < jfst P n → ¬ P i)
  | 0 => Or.inl ⟨rfl, fun i h0 h1 => by omega⟩
  | n + 1 => by
    have ih := jfst_sp P n
    rcases ih with ⟨h, hno⟩ | ⟨h0, h1, h2, h3⟩
    · by_cases hP : P n
      · have e : jfst P (n + 1) = (n : Int) := by
          unfold jfst
          rw [if_neg (by omega), if_pos hP]
        rw [e]
        refine Or.inr ⟨by omega, by omega, hP, fun i h0 h1 => hno i h0 h1⟩
      · have e : jfst P (n + 1) = -1 := by
          unfold jfst
          rw [if_neg (by omega), if_neg hP]
        rw [e]
        refine Or.inl ⟨rfl, fun i h0 h1 => ?_⟩
        by_cases hi : i = n
        · rw [hi]; exact hP
        · exact hno i h0 (by omega)
    · have e : jfst P (n + 1) = jfst P n := by
        conv => lhs; unfold jfst
        rw [if_pos h0]
      rw [e]
      exact Or.inr ⟨h0, by omega, h2, h3⟩
theorem jfst_none {P : Int → Prop} {n : Nat} (h : ∀ i : Int, 0 ≤ i → i < n → ¬ P i) : jfst P n = -1 := by
  rcases jfst_sp P n with ⟨h1, -⟩ | ⟨h0, h1, h2, -⟩
  · exact h1
  · exact absurd h2 (h _ h0 h1)
theorem jfst_is {P : Int → Prop} {n : Nat} {r : Int} (h0 : 0 ≤ r) (h1 : r < n) (hP : P r) (h : ∀ i : Int, 0 ≤ i → i < r → ¬ P i) : jfst P n = r := by
  rcases jfst_sp P n with ⟨-, h2⟩ | ⟨g0, g1, g2, g3⟩
  · exact absurd hP (h2 r h0 h1)
  · rcases Int.lt_or_le (jfst P n) r with q | q
    · exact absurd g2 (h _ g0 q)
    · rcases Int.lt_or_le r (jfst P n) with q2 | q2
      · exact absurd hP (g3 r h0 q2)
      · omega
theorem jfst_congr {P P' : Int → Prop} {n : Nat} (h : ∀ i : Int, 0 ≤ i → i < n → (P i ↔ P' i)) : jfst P n = jfst P' n := by
  rcases jfst_sp P n with ⟨h1, h2⟩ | ⟨g0, g1, g2, g3⟩
  · rw [h1, jfst_none (fun i h0 h1 q => h2 i h0 h1 ((h i h0 h1).mpr q))]
  · rw [jfst_is (P := P') g0 g1 ((h _ g0 g1).mp g2) (fun i h0 h1 q => g3 i h0 h1 ((h i h0 (by omega)).mpr q))]
theorem jfst_bd (P : Int → Prop) (n : Nat) : -1 ≤ jfst P n ∧ jfst P n < n := by
  rcases jfst_sp P n with ⟨h1, -⟩ | ⟨g0, g1, -⟩
  · omega
  · omega
def isE (M : jM) (g e : Int) : Prop := (0 ≤ e ∧ e < M g 0 0) ∨ (10 ≤ e ∧ e < 10 + M g 0 1)
theorem c_isEnd {M : jM} {g : Int} (hg : 0 ≤ g ∧ g < 18) (hN : jNB M g) (e : Int) : jCallP 0 143 [.inr (g, 0), .inl e] M (fun r M' => jBl r (isE M g e) ∧ M' = M) := by
  refine jstart (by decide) rfl (fX4_isEnd_0 ?_)
  obtain ⟨hT, hE⟩ := hN
  have e1 : jwr (10 + M g 0 1) = 10 + M g 0 1 := jwr_id (by omega) (by omega)
  have snd : ¬ (0 ≤ e ∧ e < M g 0 0) → jWP 0 143 12 [some (.inr (g, 0)), some (.inl e)] [] M (fun r M' => jBl r (isE M g e) ∧ M' = M) := by
    intro hno
    refine fX4_isEnd_12 ?_
    rw [e1]
    refine ⟨fun q => ⟨Or.inl rfl, Or.inr ⟨rfl, fun k => ?_⟩, rfl⟩, fun q => ⟨hg, fun q2 => ⟨Or.inl rfl, Or.inr ⟨rfl, fun k => ?_⟩, rfl⟩, fun q2 => ⟨Or.inr rfl, Or.inl ⟨rfl, Or.inr ⟨q, q2⟩⟩, rfl⟩⟩⟩
    · rcases k with k | k
      · exact hno k
      · omega
    · rcases k with k | k
      · exact hno k
      · omega
  refine ⟨fun q => snd (by omega), fun q => ⟨hg, fun q2 => ⟨Or.inr rfl, Or.inl ⟨rfl, Or.inl ⟨q, q2⟩⟩, rfl⟩, fun q2 => snd (by omega)⟩⟩
def hasE (M : jM) (g n x y z : Int) : Prop := isE M g x ∧ (2 ≤ n → isE M g y) ∧ (n < 2 → y = -1) ∧ (3 ≤ n → isE M g z) ∧ (n < 3 → z = -1)
theorem c_hasEnds {M : jM} {g : Int} (hg : 0 ≤ g ∧ g < 18) (hN : jNB M g) (n x y z : Int) : jCallP 1 142 [.inr (g, 0), .inl n, .inl x, .inl y, .inl z] M (fun r M' => jBl r (hasE M g n x y z) ∧ M' = M) := by
  refine jstart (by decide) rfl (fX4_hasEnds_0 ⟨hg, ?_⟩)
  refine jcq (c_isEnd hg hN x) (by decide) ?_
  rintro r1 M1 ⟨b1, rfl⟩
  refine ⟨fun q => ⟨Or.inl rfl, Or.inr ⟨rfl, fun k => (jBl_eq b1).mp q k.1⟩, rfl⟩, fun q => ?_⟩
  have hx := (jBl_ne b1).mp q
  have third : (2 ≤ n → isE M1 g y) → (n < 2 → y = -1) → jWP 1 142 29 [some (.inr (g, 0)), some (.inl n), none, none, some (.inl z)] [] M1 (fun r M' => jBl r (hasE M1 g n x y z) ∧ M' = M1) := by
    intro h2 h2'
    refine fX4_hasEnds_29 ⟨fun q3 => ⟨fun q4 => ⟨Or.inl rfl, Or.inr ⟨rfl, fun k => q4 (k.2.2.2.2 q3)⟩, rfl⟩, fun q4 => ⟨Or.inr rfl, Or.inl ⟨rfl, hx, h2, h2', fun q5 => by omega, fun _ => q4⟩, rfl⟩⟩, fun q3 => ⟨hg, ?_⟩⟩
    refine jcq (c_isEnd hg hN z) (by decide) ?_
    rintro r2 M2 ⟨b2, rfl⟩
    exact ⟨fun q4 => ⟨Or.inl rfl, Or.inr ⟨rfl, fun k => (jBl_eq b2).mp q4 (k.2.2.2.1 q3)⟩, rfl⟩, fun q4 => ⟨Or.inr rfl, Or.inl ⟨rfl, hx, h2, h2', fun _ => (jBl_ne b2).mp q4, fun q5 => by omega⟩, rfl⟩⟩
  refine ⟨fun q2 => ⟨fun q4 => ⟨Or.inl rfl, Or.inr ⟨rfl, fun k => q4 (k.2.2.1 q2)⟩, rfl⟩, fun q4 => third (fun _ => by omega) (fun _ => q4)⟩, fun q2 => ⟨hg, ?_⟩⟩
  refine jcq (c_isEnd hg hN y) (by decide) ?_
  rintro r2 M2 ⟨b2, rfl⟩
  exact ⟨fun q4 => ⟨Or.inl rfl, Or.inr ⟨rfl, fun k => (jBl_eq b2).mp q4 (k.2.1 q2)⟩, rfl⟩, fun q4 => third (fun _ => (jBl_ne b2).mp q4) (fun _ => by omega)⟩
/-- tie i has that kind and those ends -/
def mtie (M : jM) (g k x y z i : Int) : Prop := M g 5 i = k ∧ ((M g 6 (3 * i) = x ∧ M g 6 (3 * i + 1) = y ∧ M g 6 (3 * i + 2) = z) ∨ (¬ M 19 2 k = 0 ∧ M g 6 (3 * i) = y ∧ M g 6 (3 * i + 1) = x))
noncomputable def fnd (M : jM) (g k x y z : Int) : Int := jfst (mtie M g k x y z) (M g 0 1).toNat
theorem c_find {M : jM} {g : Int} (hg : 0 ≤ g ∧ g < 18) (hN : jNB M g) (k : Int) (hk : 0 ≤ k ∧ k < 16) (x y z : Int) : jCallP 0 144 [.inr (g, 0), .inr (19, 0), .inl k, .inl x, .inl y, .inl z] M (fun r M' => r = fnd M g k x y z ∧ M' = M) := by
  refine jstart (by decide) rfl (fX4_find_0 ?_)
  obtain ⟨hT, hE⟩ := hN
  have hn : (((M g 0 1).toNat : Nat) : Int) = M g 0 1 := by omega
  have key : ∀ i, 0 ≤ i → i ≤ M g 0 1 → (∀ j, 0 ≤ j → j < i → ¬ mtie M g k x y z j) → jWP 0 144 3 [some (.inr (g, 0)), some (.inr (19, 0)), some (.inl k), some (.inl x), some (.inl y), some (.inl z), some (.inl i), none, none, none] [] M (fun r M' => r = fnd M g k x y z ∧ M' = M) := by
    refine jloop (e := M g 0 1) (fun hno => ?_) (fun i h0 h1 ih hno => ?_)
    · refine fX4_find_3 ⟨hg, fun _ => ⟨?_, rfl⟩, fun q => by exfalso; omega⟩
      exact (jfst_none (fun i h0 h1 => hno i h0 (by omega))).symm
    · have next : ¬ mtie M g k x y z i → jWP 0 144 3 [some (.inr (g, 0)), some (.inr (19, 0)), some (.inl k), some (.inl x), some (.inl y), some (.inl z), some (.inl (jwr (i + 1))), none, none, none] [] M (fun r M' => r = fnd M g k x y z ∧ M' = M) := by
        intro hm
        rw [jwr_id (by omega) (by omega)]
        refine ih (fun j j0 j1 => ?_)
        by_cases hj : j = i
        · rw [hj]; exact hm
        · exact hno j j0 (by omega)
      have hit : mtie M g k x y z i → (fun (r : Int) (M' : jM) => r = fnd M g k x y z ∧ M' = M) i M := fun hm => ⟨(jfst_is h0 (by omega) hm hno).symm, rfl⟩
      have b5 : 0 ≤ i ∧ i < jal g 5 := by rw [jal_n5 hg]; omega
      have w0 : jwr (i * 3) = 3 * i := by rw [jwr_id (by omega) (by omega)]; omega
      have w1 : jwr (3 * i + 1) = 3 * i + 1 := jwr_id (by omega) (by omega)
      have w2 : jwr (3 * i + 2) = 3 * i + 2 := jwr_id (by omega) (by omega)
      refine fX4_find_3 ⟨hg, fun q => by exfalso; omega, fun _ => ⟨hg, b5, fun q => next (fun m => q m.1), fun q => ⟨hg, ?_⟩⟩⟩
      rw [w0, w1, w2]
      have b6 : ∀ c, 0 ≤ c → c ≤ 2 → 0 ≤ 3 * i + c ∧ 3 * i + c < jal g 6 := fun c c0 c1 => by rw [jal_n6 hg]; omega
      -- the end of the comparison, with whether the ends are straight
      have last : ∀ s0 : Int, (s0 = 0 ∨ s0 = 1) → (s0 = 1 ↔ (M g 6 (3 * i) = x ∧ M g 6 (3 * i + 1) = y ∧ M g 6 (3 * i + 2) = z)) → jWP 0 144 81 [some (.inr (g, 0)), some (.inr (19, 0)), some (.inl k), some (.inl x), some (.inl y), some (.inl z), some (.inl i), some (.inl (M g 6 (3 * i))), some (.inl (M g 6 (3 * i + 1))), none] [.inl s0] M (fun r M' => r = fnd M g k x y z ∧ M' = M) := by
        intro s0 h01 hs
        refine fX4_find_81 ⟨fun q0 => hit ⟨q, Or.inl (hs.mp (by omega))⟩, fun q0 => ⟨by rw [jbl_19_2]; exact hk, fun q1 => next (fun m => ?_), fun q1 => ⟨fun q2 => next (fun m => ?_), fun q2 => ⟨fun q3 => next (fun m => ?_), fun q3 => hit ⟨q, Or.inr ⟨q1, q2, q3⟩⟩⟩⟩⟩⟩
        · rcases m.2 with m | m
          · have := hs.mpr m; omega
          · exact m.1 q1
        · rcases m.2 with m | m
          · have := hs.mpr m; omega
          · exact q2 m.2.1
        · rcases m.2 with m | m
          · have := hs.mpr m; omega
          · exact q3 m.2.2
      refine ⟨by have := b6 0 (by omega) (by omega); rw [Int.add_zero] at this; exact this, hg, b6 1 (by omega) (by omega), fun e0 => last 0 (Or.inl rfl) ⟨fun a => absurd a (by decide), fun a => absurd a.1 e0⟩, fun e0 => ⟨fun e1 => last 0 (Or.inl rfl) ⟨fun a => absurd a (by decide), fun a => absurd a.2.1 e1⟩, fun e1 => ⟨hg, b6 2 (by omega) (by omega), fun e2 => last 0 (Or.inl rfl) ⟨fun a => absurd a (by decide), fun a => absurd a.2.2 e2⟩, fun e2 => last 1 (Or.inr rfl) ⟨fun _ => ⟨e0, e1, e2⟩, fun _ => rfl⟩⟩⟩⟩
  exact key 0 (by omega) (by omega) (fun j j0 j1 => by omega)
/-- the height of an end -/
def hEnd (M : jM) (g e : Int) : Int := if 10 ≤ e ∧ e < 10 + M g 0 1 then M g 8 (e - 10) else 0
theorem c_heightOfEnd {M : jM} {g : Int} (hg : 0 ≤ g ∧ g < 18) (hN : jNB M g) (e : Int) : jCallP 0 146 [.inr (g, 0), .inl e] M (fun r M' => r = hEnd M g e ∧ M' = M) := by
  refine jstart (by decide) rfl (fX4_heightOfEnd_0 ?_)
  obtain ⟨hT, hE⟩ := hN
  have e1 : jwr (10 + M g 0 1) = 10 + M g 0 1 := jwr_id (by omega) (by omega)
  rw [e1]
  unfold hEnd
  refine ⟨fun q => ⟨by rw [if_neg (by omega)], rfl⟩, fun q => ⟨hg, fun q2 => ⟨by rw [if_neg (by omega)], rfl⟩, fun q2 => ?_⟩⟩
  have e2 : jwr (e - 10) = e - 10 := jwr_id (by omega) (by omega)
  rw [e2]
  exact ⟨hg, ⟨by omega, by rw [jal_n8 hg]; omega⟩, by rw [if_pos ⟨q, q2⟩], rfl⟩
def jmx (a b : Int) : Int := if a < b then b else a
def hTie (M : jM) (g x y z : Int) : Int := 1 + jmx (hEnd M g x) (jmx (hEnd M g y) (hEnd M g z))
/-- a tie is put behind the others -/
def jput (M : jM) (g k x y z m : Int) : jM :=
  jset (jset (jset (jset (jset M g 5 (jfu (M g 5) (M g 0 1) k)) g 6 (jfu (jfu (jfu (M g 6) (3 * M g 0 1) x) (3 * M g 0 1 + 1) y) (3 * M g 0 1 + 2) z)) g 7 (jfu (M g 7) (M g 0 1) m)) g 8 (jfu (M g 8) (M g 0 1) (hTie M g x y z))) g 0 (jfu (M g 0) 1 (M g 0 1 + 1))
theorem jput_at {M : jM} {g k x y z m : Int} {a : Int} {b : Nat} (h : ¬ (a = g ∧ (b = 0 ∨ b = 5 ∨ b = 6 ∨ b = 7 ∨ b = 8))) : jput M g k x y z m a b = M a b := by
  unfold jput
  rw [jset_ne (fun q => h ⟨q.1, Or.inl q.2⟩), jset_ne (fun q => h ⟨q.1, Or.inr (Or.inr (Or.inr (Or.inr q.2)))⟩), jset_ne (fun q => h ⟨q.1, Or.inr (Or.inr (Or.inr (Or.inl q.2)))⟩), jset_ne (fun q => h ⟨q.1, Or.inr (Or.inr (Or.inl q.2))⟩), jset_ne (fun q => h ⟨q.1, Or.inr (Or.inl q.2)⟩)]
theorem jput_0 (M : jM) (g k x y z m : Int) : jput M g k x y z m g 0 = jfu (M g 0) 1 (M g 0 1 + 1) := by
  unfold jput
  rw [jset_eq]
theorem jput_5 (M : jM) (g k x y z m : Int) : jput M g k x y z m g 5 = jfu (M g 5) (M g 0 1) k := by
  unfold jput
  rw [jset_ne (by simp), jset_ne (by simp), jset_ne (by simp), jset_ne (by simp), jset_eq]
theorem jput_6 (M : jM) (g k x y z m : Int) : jput M g k x y z m g 6 = jfu (jfu (jfu (M g 6) (3 * M g 0 1) x) (3 * M g 0 1 + 1) y) (3 * M g 0 1 + 2) z := by
  unfold jput
  rw [jset_ne (by simp), jset_ne (by simp), jset_ne (by simp), jset_eq]
theorem jput_7 (M : jM) (g k x y z m : Int) : jput M g k x y z m g 7 = jfu (M g 7) (M g 0 1) m := by
  unfold jput
  rw [jset_ne (by simp), jset_ne (by simp), jset_eq]
theorem jput_8 (M : jM) (g k x y z m : Int) : jput M g k x y z m g 8 = jfu (M g 8) (M g 0 1) (hTie M g x y z) := by
  unfold jput
  rw [jset_ne (by simp), jset_eq]
/-- heights of a tale: 1 to 14 -/
def jHB (M : jM) (g : Int) : Prop := ∀ i, 0 ≤ i → i < M g 0 1 → 1 ≤ M g 8 i ∧ M g 8 i ≤ i + 1
theorem hEnd_bd {M : jM} {g : Int} (hN : jNB M g) (hH : jHB M g) (e : Int) : 0 ≤ hEnd M g e ∧ hEnd M g e ≤ M g 0 1 := by
  unfold hEnd
  obtain ⟨hT, hE⟩ := hN
  by_cases h : 10 ≤ e ∧ e < 10 + M g 0 1
  · rw [if_pos h]
    have := hH (e - 10) (by omega) (by omega)
    omega
  · rw [if_neg h]
    omega
theorem jmx_le {a b c : Int} (h1 : a ≤ c) (h2 : b ≤ c) : jmx a b ≤ c := by
  unfold jmx
  split <;> assumption
theorem jmx_ge (a b : Int) : a ≤ jmx a b ∧ b ≤ jmx a b := by
  unfold jmx
  split <;> omega
theorem c_put {M : jM} {g : Int} (hg : 0 ≤ g ∧ g < 18) (hN : jNB M g) (hH : jHB M g) (k x y z m : Int) : jCallP 1 145 [.inr (g, 0), .inl k, .inl x, .inl y, .inl z, .inl m] M (fun r M' => (M g 0 1 < 14 → r = M g 0 1 ∧ M' = jput M g k x y z m) ∧ (14 ≤ M g 0 1 → r = -1 ∧ M' = M)) := by
  refine jstart (by decide) rfl (fX4_put_0 ⟨hg, fun q => ?_, fun q => ⟨fun q2 => by exfalso; omega, fun _ => ⟨rfl, rfl⟩⟩⟩)
  obtain ⟨hT, hE⟩ := id hN
  have w0 : jwr (M g 0 1 * 3) = 3 * M g 0 1 := by rw [jwr_id (by omega) (by omega)]; omega
  have w1 : jwr (3 * M g 0 1 + 1) = 3 * M g 0 1 + 1 := jwr_id (by omega) (by omega)
  have w2 : jwr (3 * M g 0 1 + 2) = 3 * M g 0 1 + 2 := jwr_id (by omega) (by omega)
  rw [w0, w1, w2]
  refine ⟨hg, hg, ⟨hE.1, by rw [jal_n5 hg]; exact q⟩, hg, ⟨by omega, by rw [jal_n6 hg]; omega⟩, hg, ⟨by omega, by rw [jal_n6 hg]; omega⟩, hg, ⟨by omega, by rw [jal_n6 hg]; omega⟩, hg, ⟨hE.1, by rw [jal_n7 hg]; exact q⟩, hg, hg, ?_⟩
  -- the world with kind, ends and moment laid
  generalize hM1 : jup (jup (jup (jup (jup M g 5 (M g 0 1) k) g 6 (3 * M g 0 1) x) g 6 (3 * M g 0 1 + 1) y) g 6 (3 * M g 0 1 + 2) z) g 7 (M g 0 1) m = M1
  have e1 : M1 = jset (jset (jset M g 5 (jfu (M g 5) (M g 0 1) k)) g 6 (jfu (jfu (jfu (M g 6) (3 * M g 0 1) x) (3 * M g 0 1 + 1) y) (3 * M g 0 1 + 2) z)) g 7 (jfu (M g 7) (M g 0 1) m) := by
    rw [← hM1]
    simp only [jup_set, jset_set, jset_eq]
    rw [jset_ne (by simp), jset_ne (by simp), jset_ne (by simp)]
  have e0 : M1 g 0 = M g 0 := by rw [e1, jset_ne (by simp), jset_ne (by simp), jset_ne (by simp)]
  have e8 : M1 g 8 = M g 8 := by rw [e1, jset_ne (by simp), jset_ne (by simp), jset_ne (by simp)]
  have hN1 : jNB M1 g := by unfold jNB; rw [e0]; exact hN
  have eh : ∀ e, hEnd M1 g e = hEnd M g e := fun e => by unfold hEnd; rw [e0, e8]
  refine jc (c_heightOfEnd hg hN1 x) (by decide) ⟨hg, ?_⟩
  refine jc (c_heightOfEnd hg hN1 y) (by decide) ⟨hg, ?_⟩
  refine jc (c_heightOfEnd hg hN1 z) (by decide) ?_
  rw [eh, eh, eh]
  have hx := hEnd_bd hN hH x
  have hy := hEnd_bd hN hH y
  have hz := hEnd_bd hN hH z
  have w3 : jwr (1 + if hEnd M g x < (if hEnd M g y < hEnd M g z then hEnd M g z else hEnd M g y) then (if hEnd M g y < hEnd M g z then hEnd M g z else hEnd M g y) else hEnd M g x) = hTie M g x y z := by
    have h1 := jmx_le (a := hEnd M g y) (b := hEnd M g z) hy.2 hz.2
    have h2 := jmx_le hx.2 h1
    have h3 := jmx_ge (hEnd M g x) (jmx (hEnd M g y) (hEnd M g z))
    show jwr (1 + jmx (hEnd M g x) (jmx (hEnd M g y) (hEnd M g z))) = _
    rw [jwr_id (by omega) (by omega)]
    rfl
  rw [w3]
  refine ⟨⟨hE.1, by rw [jal_n8 hg]; exact q⟩, hg, hg, fun _ => ⟨rfl, ?_⟩, fun q2 => by exfalso; omega⟩
  have w4 : jup M1 g 8 (M g 0 1) (hTie M g x y z) g 0 1 = M g 0 1 := by rw [jup_ne (by simp), e0]
  rw [w4, jwr_id (by omega) (by omega)]
  unfold jput
  rw [jup_set, jup_set, jset_ne (by simp), e8, e0, e1]
