/-! pure: without moments that matter a further pair takes no answer away -/
theorem EA_nn {C : jM} {b : Int} {p : Int → Int} {LS : Int → Int → Prop} {e f : Int} (hp : ∀ x, ¬ p x = -2) (h : EA C b p LS (fun _ => False) e f) : (0 ≤ e ∧ e < 6 ∧ 0 ≤ p e ∧ f = p e) ∨ (10 ≤ e ∧ 10 ≤ f ∧ LS (e - 10) (f - 10)) := by
  rcases h with ⟨h0, h1, h | h⟩ | h
  · exact absurd h.1 (hp e)
  · exact Or.inl ⟨h0, h1, h⟩
  · exact Or.inr h
theorem ansF_add {C : jM} {a b lv wg tm : Int} {q q' : Int → Int} (hL : jLV C) (hGa : jGood C a) (hGb : jGood C b) (hm : ¬ tm = 0 → ¬ mat C a b tm) (hv : vld C a b q) (hv' : vld C a b q') (hx : ∀ x, 0 ≤ q x → q' x = q x) :
    ∀ N : Nat, (N : Int) ≤ C a 0 1 → ∀ i : Int, 0 ≤ i → i < N → 0 ≤ ansF C a b lv wg tm q N i → ansF C a b lv wg tm q' N i = ansF C a b lv wg tm q N i := by
  have nb6 := hGb.1.2.1.1
  have nbt := hGb.1.2.1.2
  have n2 : ∀ x, ¬ q x = -2 := fun x => by rcases hv.1 x with e | e <;> omega
  have n2' : ∀ x, ¬ q' x = -2 := fun x => by rcases hv'.1 x with e | e <;> omega
  intro N
  induction N with
  | zero => intro _ i i0 i1; omega
  | succ N ih =>
    intro hN i i0 i1 hA
    have IH := ih (by omega)
    by_cases y : i = N
    rotate_left
    · rw [ansF_st C a b lv wg tm q N (N + 1) i (by omega) (by omega)] at hA ⊢
      rw [ansF_st C a b lv wg tm q' N (N + 1) i (by omega) (by omega)]
      exact IH i i0 (by omega) hA
    · subst y
      generalize hj : ansF C a b lv wg tm q (N + 1) N = j at hA
      have hsp := jfst_sp (cand C a b lv wg tm q (ansF C a b lv wg tm q N) N) (C b 0 1).toNat
      rw [← ansF_at, hj] at hsp
      obtain ⟨-, j1, ⟨⟨hcl, hends⟩, hfree, -⟩, hfirst⟩ := hsp.resolve_left (by omega)
      have j1' : j < C b 0 1 := by omega
      have kN := hGa.1.2.2.1 N (by omega) (by omega)
      have kj := hGb.1.2.2.1 j hA j1'
      have eNj := meet_ends hL kN kj hcl.2.2.1
      have bA := fun k => (ansF_bd C a b lv wg tm q nbt.1 N k).2
      have bA' := fun k => (ansF_bd C a b lv wg tm q' nbt.1 N k).2
      -- an end stays answered
      have up : ∀ e f, EA C b q (sLS (ansF C a b lv wg tm q N)) (fun _ => False) e f → EA C b q' (sLS (ansF C a b lv wg tm q' N)) (fun _ => False) e f := fun e f h => by
        rcases EA_nn n2 h with ⟨h0, h1, h2, h3⟩ | ⟨h0, h1, h2, h3⟩
        · exact Or.inl ⟨h0, h1, Or.inr (by rw [hx e h2]; exact ⟨h2, h3⟩)⟩
        · by_cases u : e - 10 < N
          · exact Or.inr ⟨h0, h1, by rw [IH (e - 10) (by omega) u (by omega)]; exact h2, h3⟩
          · rw [ansF_ge C a b lv wg tm q N (e - 10) (by omega)] at h2
            omega
      -- the ends of tie N and of its answer
      have two : evn C a b N j → C 19 1 (C a 5 N) = 2 := fun hev => by
        obtain ⟨-, h01, h2, -⟩ := hL _ kN.1 kN.2
        exact h2 (h01.resolve_left hev.1)
      have endN : ∀ pl, 0 ≤ pl → pl < 3 → (C a 6 (3 * N + pl) = -1 ↔ C 19 1 (C a 5 N) ≤ pl) := fun pl p0 p1 => hGa.2.2.2.2 N pl (by omega) (by omega) p0 p1
      have endj : ∀ pl, 0 ≤ pl → pl < 3 → (C b 6 (3 * j + pl) = -1 ↔ C 19 1 (C b 5 j) ≤ pl) := fun pl p0 p1 => hGb.2.2.2.2 j pl hA j1' p0 p1
      have G : ∀ pl, 0 ≤ pl → pl < 3 → ¬ C b 6 (3 * j + pl) = -1 → ∃ e1, EA C b q (sLS (ansF C a b lv wg tm q N)) (fun _ => False) e1 (C b 6 (3 * j + pl)) := fun pl p0 p1 hne => by
        have hlt : ¬ C 19 1 (C b 5 j) ≤ pl := fun z => hne ((endj pl p0 p1).mpr z)
        have hc : pl = 0 ∨ pl = 1 ∨ pl = 2 := by omega
        rcases hends with ⟨h0, h1, h2⟩ | ⟨hev, h0, h1⟩
        · rcases hc with rfl | rfl | rfl
          · exact ⟨_, by rw [Int.add_zero]; exact h0⟩
          · exact ⟨_, h1.resolve_left (fun z => by have := (endN 1 (by omega) (by omega)).mp z; omega)⟩
          · exact ⟨_, h2.resolve_left (fun z => by have := (endN 2 (by omega) (by omega)).mp z; omega)⟩
        · have := two hev
          rcases hc with rfl | rfl | rfl
          · exact ⟨_, by rw [Int.add_zero]; exact h1⟩
          · exact ⟨_, h0⟩
          · omega
      have H : ∀ pl, 0 ≤ pl → pl < 3 → ¬ C a 6 (3 * N + pl) = -1 → ∃ f, EA C b q (sLS (ansF C a b lv wg tm q N)) (fun _ => False) (C a 6 (3 * N + pl)) f := fun pl p0 p1 hne => by
        have hlt : ¬ C 19 1 (C a 5 N) ≤ pl := fun z => hne ((endN pl p0 p1).mpr z)
        have hc : pl = 0 ∨ pl = 1 ∨ pl = 2 := by omega
        rcases hends with ⟨h0, h1, h2⟩ | ⟨hev, h0, h1⟩
        · rcases hc with rfl | rfl | rfl
          · exact ⟨_, by rw [Int.add_zero]; exact h0⟩
          · exact ⟨_, h1.resolve_left hne⟩
          · exact ⟨_, h2.resolve_left hne⟩
        · have := two hev
          rcases hc with rfl | rfl | rfl
          · exact ⟨_, by rw [Int.add_zero]; exact h0⟩
          · exact ⟨_, h1⟩
          · omega
      -- nothing that comes new takes j
      have free' : ∀ k, 0 ≤ k → k < (N : Int) → ¬ ansF C a b lv wg tm q' N k = j := by
        intro k k0 k1 hk
        obtain ⟨n, rfl⟩ : ∃ n : Nat, k = n := ⟨k.toNat, by omega⟩
        by_cases u : 0 ≤ ansF C a b lv wg tm q N n
        · have := IH n k0 k1 u
          exact hfree n k0 k1 (by omega)
        · obtain ⟨⟨kcl, kends⟩, -, -⟩ := ans_cand (N := N) (n := n) (by omega) hk hA
          -- an end answered by an end of j was answered before
          have back : ∀ e pl, 0 ≤ pl → pl < 3 → EA C b q' (sLS (ansF C a b lv wg tm q' n)) (fun _ => False) e (C b 6 (3 * j + pl)) → EA C b q (sLS (ansF C a b lv wg tm q n)) (fun _ => False) e (C b 6 (3 * j + pl)) := fun e pl p0 p1 h => by
            have h' := EA_nn n2' h
            have hne : ¬ C b 6 (3 * j + pl) = -1 := fun z => by rw [z] at h'; omega
            obtain ⟨e1, h1⟩ := G pl p0 p1 hne
            have u1 := EA_nn n2 h1
            have u2 := EA_nn n2' (up _ _ h1)
            have ee : e = e1 ∧ (10 ≤ e → e - 10 < n) := by
              rcases h' with ⟨a0, a1, a2, a3⟩ | ⟨a0, a1, a2, a3⟩
              · rcases u2 with ⟨c0, c1, c2, c3⟩ | ⟨c0, c1, c2, c3⟩
                · exact ⟨hv'.2 e e1 a2 (by rw [← a3, ← c3]), fun z => by omega⟩
                · rcases hv'.1 e with w | w <;> omega
              · have lt : e - 10 < n := by
                  by_cases z : e - 10 < n
                  · exact z
                  · rw [ansF_ge C a b lv wg tm q' n (e - 10) (by omega)] at a2; omega
                rcases u2 with ⟨c0, c1, c2, c3⟩ | ⟨c0, c1, c2, c3⟩
                · rcases hv'.1 e1 with w | w <;> omega
                · refine ⟨?_, fun _ => lt⟩
                  have a2' : ansF C a b lv wg tm q' N (e - 10) = C b 6 (3 * j + pl) - 10 := by rw [ansF_st C a b lv wg tm q' n N (e - 10) lt (by omega)]; exact a2
                  have lt1 : e1 - 10 < N := by
                    by_cases z : e1 - 10 < N
                    · exact z
                    · rw [ansF_ge C a b lv wg tm q' N (e1 - 10) (by omega)] at c2; omega
                  rcases Int.lt_trichotomy e e1 with z | z | z
                  · exact (ans_apart (k := (e - 10).toNat) (n := (e1 - 10).toNat) (N := N) (by omega) (by omega) (by rw [Int.toNat_of_nonneg (by omega)]; exact a2') (by rw [Int.toNat_of_nonneg (by omega)]; exact c2) a3).elim
                  · exact z
                  · exact (ans_apart (k := (e1 - 10).toNat) (n := (e - 10).toNat) (N := N) (by omega) (by omega) (by rw [Int.toNat_of_nonneg (by omega)]; exact c2) (by rw [Int.toNat_of_nonneg (by omega)]; exact a2') a3).elim
            obtain ⟨rfl, lt⟩ := ee
            rcases u1 with ⟨c0, c1, c2, c3⟩ | ⟨c0, c1, c2, c3⟩
            · exact Or.inl ⟨c0, c1, Or.inr ⟨c2, c3⟩⟩
            · exact Or.inr ⟨c0, c1, by rw [← ansF_st C a b lv wg tm q n N (e - 10) (lt c0) (by omega)]; exact c2, c3⟩
          have b0 := fun e => back e 0 (by omega) (by omega)
          simp only [Int.add_zero] at b0
          have rk : RA C a b lv wg q (sLS (ansF C a b lv wg tm q n)) (fun _ => False) n j := by
            refine ⟨kcl, ?_⟩
            rcases kends with ⟨h0, h1, h2⟩ | ⟨hev, h0, h1⟩
            · exact Or.inl ⟨b0 _ h0, h1.imp id (back _ 1 (by omega) (by omega)), h2.imp id (back _ 2 (by omega) (by omega))⟩
            · exact Or.inr ⟨hev, back _ 1 (by omega) (by omega) h0, b0 _ h1⟩
          have fr : ∀ k', 0 ≤ k' → k' < (n : Int) → ¬ ansF C a b lv wg tm q n k' = j := fun k' k0' k1' z => hfree k' k0' (by omega) (by rw [ansF_st C a b lv wg tm q n N k' k1' (by omega)]; exact z)
          have cn : cand C a b lv wg tm q (ansF C a b lv wg tm q n) n j := ⟨rk, fr, fun htm => goes_free htm (hm htm) ⟨k0, by omega⟩ ⟨hA, j1'⟩ (fun k => (ansF_bd C a b lv wg tm q nbt.1 n k).2) fr⟩
          have sp2 := jfst_sp (cand C a b lv wg tm q (ansF C a b lv wg tm q n) n) (C b 0 1).toNat
          rw [← ansF_at, ← ansF_st C a b lv wg tm q (n + 1) N n (by omega) (by omega)] at sp2
          rcases sp2 with w | w
          · exact w.2 j hA (by omega) cn
          · omega
      have cN : cand C a b lv wg tm q' (ansF C a b lv wg tm q' N) N j := by
        refine ⟨⟨hcl, ?_⟩, free', fun htm => goes_free htm (hm htm) ⟨by omega, by omega⟩ ⟨hA, j1'⟩ bA' free'⟩
        rcases hends with ⟨h0, h1, h2⟩ | ⟨hev, h0, h1⟩
        · exact Or.inl ⟨up _ _ h0, h1.imp id (up _ _), h2.imp id (up _ _)⟩
        · exact Or.inr ⟨hev, up _ _ h0, up _ _ h1⟩
      rw [ansF_at]
      refine jfst_is hA (by omega) cN (fun j' j0' j1'' cj => hfirst j' j0' j1'' ?_)
      obtain ⟨⟨ccl, cends⟩, cfree, -⟩ := cj
      -- what answers an end of N answered it before
      have down : ∀ pl f, 0 ≤ pl → pl < 3 → EA C b q' (sLS (ansF C a b lv wg tm q' N)) (fun _ => False) (C a 6 (3 * N + pl)) f → EA C b q (sLS (ansF C a b lv wg tm q N)) (fun _ => False) (C a 6 (3 * N + pl)) f := fun pl f p0 p1 h => by
        have h' := EA_nn n2' h
        have hne : ¬ C a 6 (3 * N + pl) = -1 := fun z => by rw [z] at h'; omega
        obtain ⟨f1, h1⟩ := H pl p0 p1 hne
        have h2 := EA_nn n2' (up _ _ h1)
        have : f = f1 := by
          rcases h' with ⟨a0, a1, a2, a3⟩ | ⟨a0, a1, a2, a3⟩
          · rcases h2 with ⟨c0, c1, c2, c3⟩ | ⟨c0, c1, c2, c3⟩
            · omega
            · omega
          · rcases h2 with ⟨c0, c1, c2, c3⟩ | ⟨c0, c1, c2, c3⟩
            · omega
            · omega
        rw [this]
        exact h1
      have d0 := fun f => down 0 f (by omega) (by omega)
      simp only [Int.add_zero] at d0
      have fr : ∀ k, 0 ≤ k → k < (N : Int) → ¬ ansF C a b lv wg tm q N k = j' := fun k k0 k1 z => cfree k k0 k1 (by rw [IH k k0 k1 (by omega)]; exact z)
      refine ⟨⟨ccl, ?_⟩, fr, fun htm => goes_free htm (hm htm) ⟨by omega, by omega⟩ ⟨j0', by omega⟩ bA fr⟩
      rcases cends with ⟨h0, h1, h2⟩ | ⟨hev, h0, h1⟩
      · exact Or.inl ⟨d0 _ h0, h1.imp id (down 1 _ (by omega) (by omega)), h2.imp id (down 2 _ (by omega) (by omega))⟩
      · exact Or.inr ⟨hev, d0 _ h0, down 1 _ (by omega) (by omega) h1⟩
