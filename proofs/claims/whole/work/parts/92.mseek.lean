/-! the reference: likest, seek, sought, trial -/
theorem gB_sp {f : Int → Int} : ∀ n : Nat, (gB f n = -1 ∧ ∀ t : Int, 0 ≤ t → t < n → f t = -1) ∨ ((0 ≤ gB f n ∧ gB f n < n) ∧ ¬ f (gB f n) = -1 ∧ ∀ t : Int, 0 ≤ t → t < n → ¬ f t = -1 → f t ≤ f (gB f n) ∧ (f t = f (gB f n) → gB f n ≤ t))
  | 0 => Or.inl ⟨rfl, fun t t0 t1 => by omega⟩
  | n + 1 => by
    have e : gB f (n + 1) = if f n = -1 then gB f n else if gB f n = -1 then (n : Int) else if f (gB f n) < f n then (n : Int) else gB f n := rfl
    rw [e]
    by_cases u : f n = -1
    · rw [if_pos u]
      rcases gB_sp (f := f) n with ⟨h1, h2⟩ | ⟨h1, h2, h3⟩
      · exact Or.inl ⟨h1, fun t t0 t1 => by
          by_cases e : t = n
          · rw [e]; exact u
          · exact h2 t t0 (by omega)⟩
      · refine Or.inr ⟨by omega, h2, fun t t0 t1 ht => ?_⟩
        have : ¬ t = n := fun e => ht (by rw [e]; exact u)
        exact h3 t t0 (by omega) ht
    · rw [if_neg u]
      rcases gB_sp (f := f) n with ⟨h1, h2⟩ | ⟨h1, h2, h3⟩
      · rw [if_pos h1]
        refine Or.inr ⟨by omega, u, fun t t0 t1 ht => ?_⟩
        have : t = n := by
          apply Classical.byContradiction
          intro q
          exact ht (h2 t t0 (by omega))
        rw [this]
        exact ⟨Int.le_refl _, fun _ => Int.le_refl _⟩
      · rw [if_neg (by omega)]
        by_cases v : f (gB f n) < f n
        · rw [if_pos v]
          refine Or.inr ⟨by omega, u, fun t t0 t1 ht => ?_⟩
          by_cases w : t = n
          · rw [w]; exact ⟨Int.le_refl _, fun _ => Int.le_refl _⟩
          · have := h3 t t0 (by omega) ht
            omega
        · rw [if_neg v]
          refine Or.inr ⟨by omega, h2, fun t t0 t1 ht => ?_⟩
          by_cases w : t = n
          · rw [w]; exact ⟨by omega, fun _ => by omega⟩
          · exact h3 t t0 (by omega) ht
def stp (B : Int → Int) (w b : Int) : Prop := gB B 12 = -1 ∨ B (gB B 12) < w ∨ (B (gB B 12) = w ∧ b < gB B 12)
theorem stp_on {B : Int → Int} {w b : Int} (h : stp B w b) (hg : ¬ gB B 12 = -1) : stp (jfu B (gB B 12) (-1)) w b := by
  have s1 := gB_sp (f := B) 12
  have s2 := gB_sp (f := jfu B (gB B 12) (-1)) 12
  unfold stp at h ⊢
  rcases s1 with ⟨s, -⟩ | ⟨a1, a2, a3⟩
  · exact absurd s hg
  · generalize hg1 : gB B 12 = g at *
    rcases s2 with ⟨s, -⟩ | ⟨b1, b2, b3⟩
    · exact Or.inl s
    · generalize gB (jfu B g (-1)) 12 = g' at *
      have ne : ¬ g' = g := fun e => b2 (by rw [e, jfu_eq])
      rw [jfu_ne ne] at b2
      have := a3 g' b1.1 b1.2 b2
      rw [jfu_ne ne]
      omega
/-- what the reference's search for the likest changes -/
theorem m_likest {C M : jM} {a : Int} (hI : Inv C) (hR : rel C M) (ha : isT a) : jCallP 5 101 [.inr (28, 0), .inl a] M (fun r M' => r = jno (lkX C a (C 18 0 8)).2.2 ∧ M' 28 0 25 = (lkX C a (C 18 0 8)).1 ∧ M' 28 0 26 = jno (lkX C a (C 18 0 8)).2.1 ∧ fS M M') := by
  have hm4 : M 28 0 4 = C 18 0 8 := hR.2.2.2.2.1
  have htm := hI.tm
  generalize htme : C 18 0 8 = tm at hm4 htm
  have hNa := hI.N ha.1 (by omega)
  have hHa := (hI.G ha.1 (by omega)).2.2.1
  have bnn : ∀ t, 0 ≤ t → t < 12 → 0 ≤ bnd C a t := fun t t0 t1 => (bnd_bd hNa (hI.N t0 (by omega)) hHa).1
  unfold lkX
  generalize hX : lkR (fun t => bwo C a t 0 tm 0) 12 (lkB C a) 0 (-1) (-1) = X
  generalize hQ : (fun (r : Int) (M' : jM) => r = jno X.2.2 ∧ M' 28 0 25 = X.1 ∧ M' 28 0 26 = jno X.2.1 ∧ fS M M') = Q
  refine jstart (by decide) rfl (fX10_likest_0 ?_)
  have fz : ∀ (N : jM) z v, (z = 25 ∨ z = 26) → fS N (jup N 28 0 z v) := fun N z v hz => ⟨f28_up, fun y q => by rw [jup_set, jset_ne (by omega)], fun u q => by rw [jup_ne (by omega)]⟩
  have key : ∀ (j n : Nat) (B : Int → Int) (h w b : Int) (L : Int) (N : jM), n + j = 12 → fS M N → isM L (fun t => t = a ∨ ((0 ≤ t ∧ t < 12) ∧ B t = -1 ∧ 0 < C t 0 1)) → (∀ t, 0 ≤ t → t < 12 → (B t = -1 ∨ (B t = bnd C a t ∧ ¬ t = a ∧ 0 < C t 0 1))) → N 28 0 25 = h → (0 ≤ h ∧ h ≤ n) → N 28 0 26 = jno w → ((b = -1 ∧ w = -1) ∨ ((0 ≤ b ∧ b < 12) ∧ 0 ≤ w ∧ B b = -1)) → (X = lkR (fun t => bwo C a t 0 tm 0) j B h w b ∨ (stp B w b ∧ X = (h, w, b))) →
      jWP 5 101 21 [some (.inr (28, 0)), some (.inl a), some (.inl L), some (.inl (jno b)), some (.inl (n : Int)), none, none, none] [] N Q := by
    intro j
    induction j with
    | zero =>
      intro n B h w b L N hn hf hL hB h25 hb h26 hbw hx
      refine fX10_likest_21 ⟨fun _ => ?_, fun z => by exfalso; omega⟩
      have : X = (h, w, b) := by
        rcases hx with e | e
        · exact e
        · exact e.2
      rw [← hQ, this]
      exact ⟨rfl, h25, h26, hf⟩
    | succ j ih =>
      intro n B h w b L N hn hf hL hB h25 hb h26 hbw hx
      have hx : (¬ stp B w b ∧ X = lkR (fun t => bwo C a t 0 tm 0) (j + 1) B h w b) ∨ (stp B w b ∧ X = (h, w, b)) := by
        rcases hx with e | e
        · by_cases u : stp B w b
          · refine Or.inr ⟨u, ?_⟩
            rw [e, lkR_s]
            exact if_pos u
          · exact Or.inl ⟨u, e⟩
        · exact Or.inr e
      have en : (n : Int) + 1 = ((n + 1 : Nat) : Int) := by omega
      have hRN : rel C N := hR.sc hf (cR_r C)
      have mr : ∀ t, 0 ≤ t → t < 12 → mR C N a t := fun t t0 t1 => hRN.mR ⟨ha.1, by omega⟩ ⟨t0, by omega⟩
      have gd' : ∀ t, 0 ≤ t → t < 12 → gd C a t := fun t t0 t1 => hI.gd ⟨ha.1, by omega⟩ ⟨t0, by omega⟩
      have sp := gB_sp (f := B) 12
      have jb : jno b < 0 ↔ b = -1 := jno_lt (by omega)
      -- nothing more is done
      have idle : ∀ B' L', stp B' w b → (stp B w b ∧ X = (h, w, b)) → isM L' (fun t => t = a ∨ ((0 ≤ t ∧ t < 12) ∧ B' t = -1 ∧ 0 < C t 0 1)) → (∀ t, 0 ≤ t → t < 12 → (B' t = -1 ∨ (B' t = bnd C a t ∧ ¬ t = a ∧ 0 < C t 0 1))) → ((b = -1 ∧ w = -1) ∨ ((0 ≤ b ∧ b < 12) ∧ 0 ≤ w ∧ B' b = -1)) → jWP 5 101 21 [some (.inr (28, 0)), some (.inl a), some (.inl L'), some (.inl (jno b)), some (.inl (jwr ((n : Int) + 1))), none, none, none] [] N Q := fun B' L' h1 h2 h3 h4 h5 => by
        rw [jwr_id (by omega) (by omega), en]
        exact ih (n + 1) B' h w b L' N (by omega) hf h3 h4 h25 (by omega) h26 h5 (Or.inr ⟨h1, h2.2⟩)
      -- the greatest bound g
      have k35 : jWP 5 101 35 [some (.inr (28, 0)), some (.inl a), some (.inl L), some (.inl (jno b)), some (.inl (n : Int)), some (.inl (jno (gB B 12))), some (.inl 12), none] [] N Q := by
        refine fX10_likest_35 ⟨fun _ => ⟨fun z => ?_, fun z => ?_⟩, fun z => by exfalso; omega⟩
        · have g1 : gB B 12 = -1 := (jno_lt (by omega)).mp z
          have hst : stp B w b := Or.inl g1
          exact idle B L hst ⟨hst, (hx.resolve_left (fun q => q.1 hst)).2⟩ hL hB hbw
        · have g0 : ¬ gB B 12 = -1 := fun q => by rw [q] at z; exact absurd z (by decide)
          obtain ⟨s1, s2, s3⟩ := sp.resolve_left (fun q => g0 q.1)
          rw [jno_ge s1.1]
          have stpd : stp B w b ↔ (B (gB B 12) < w ∨ (B (gB B 12) = w ∧ b < gB B 12)) := by unfold stp; omega
          have son := fun q => stp_on (B := B) (w := w) (b := b) q g0
          have xs : X = lkR (fun t => bwo C a t 0 tm 0) (j + 1) B h w b → ¬ stp B w b → X = if w < bwo C a (gB B 12) 0 tm 0 ∨ (bwo C a (gB B 12) 0 tm 0 = w ∧ gB B 12 < b) then lkR (fun t => bwo C a t 0 tm 0) j (jfu B (gB B 12) (-1)) (h + 1) (bwo C a (gB B 12) 0 tm 0) (gB B 12) else lkR (fun t => bwo C a t 0 tm 0) j (jfu B (gB B 12) (-1)) (h + 1) w b := fun e q => by
            rw [e, lkR_s]
            exact if_neg q
          generalize hg : gB B 12 = g at s1 s2 s3 stpd son xs
          have hBg := (hB g s1.1 s1.2).resolve_left s2
          have bg := bnn g s1.1 s1.2
          -- the world after g is taken
          have hL' : isM (jior L (jishl 1 g)) (fun t => t = a ∨ ((0 ≤ t ∧ t < 12) ∧ jfu B g (-1) t = -1 ∧ 0 < C t 0 1)) := (hL.or (isM_bit (k := g) s1.1 (by omega))).congr (fun t t0 t1 => by
            by_cases u : t = g
            · rw [u, jfu_eq]
              exact ⟨fun _ => Or.inr ⟨s1, rfl, hBg.2.2⟩, fun _ => Or.inr rfl⟩
            · rw [jfu_ne u]
              exact ⟨fun q => q.elim id (fun e => absurd e u), Or.inl⟩)
          have hB' : ∀ t, 0 ≤ t → t < 12 → (jfu B g (-1) t = -1 ∨ (jfu B g (-1) t = bnd C a t ∧ ¬ t = a ∧ 0 < C t 0 1)) := fun t t0 t1 => by
            by_cases u : t = g
            · rw [u, jfu_eq]; exact Or.inl rfl
            · rw [jfu_ne u]; exact hB t t0 t1
          have hbw' : (b = -1 ∧ w = -1) ∨ ((0 ≤ b ∧ b < 12) ∧ 0 ≤ w ∧ jfu B g (-1) b = -1) := by
            rcases hbw with e | ⟨e1, e2, e3⟩
            · exact Or.inl e
            · refine Or.inr ⟨e1, e2, ?_⟩
              by_cases u : b = g
              · rw [u, jfu_eq]
              · rw [jfu_ne u]; exact e3
          have nb : 0 ≤ b → ¬ g = b := fun q e => by
            rcases hbw with e1 | ⟨-, -, e3⟩
            · omega
            · rw [← e] at e3; exact s2 e3
          have stop' : stp B w b → jWP 5 101 21 [some (.inr (28, 0)), some (.inl a), some (.inl (jior L (jishl 1 g))), some (.inl (jno b)), some (.inl (jwr ((n : Int) + 1))), none, none, none] [] N Q := fun q => idle _ _ (son q) ⟨q, (hx.resolve_left (fun q2 => q2.1 q)).2⟩ hL' hB' hbw'
          -- g is held against the asked tale
          have hold : ¬ stp B w b → jWP 5 101 159 [some (.inr (28, 0)), some (.inl a), some (.inl (jior L (jishl 1 g))), some (.inl (jno b)), some (.inl (n : Int)), some (.inl g), none, none] [] N Q := fun q => by
            have hxx := xs (hx.resolve_right (fun q2 => q q2.1)).2 q
            have hml := m_likeness (M := jup N 28 0 25 (h + 1)) (lv := 0) (tm := tm) (gd' g s1.1 s1.2) ((hR.sc (hf.tr (fz N 25 _ (by omega))) (cR_r C)).mR ⟨ha.1, by omega⟩ ⟨s1.1, by omega⟩) (by omega)
            have k187 : jWP 5 101 187 [some (.inr (28, 0)), some (.inl a), some (.inl (jior L (jishl 1 g))), some (.inl (jno b)), some (.inl (n : Int)), some (.inl g), none, none] [.inl tm, .inl 0, .inl g, .inl a, .inr (28, 0)] (jup N 28 0 25 (h + 1)) Q := by
              refine fX10_likest_187 (jcq hml (by decide) ?_)
              rintro r1 M1 ⟨R, hBs, e1, -, -, -, -, -, f1⟩
              have ew : r1 = bwo C a g 0 tm 0 := by rw [e1, bwo_eq (hI.N s1.1 (by omega)).1.2 hBs]
              have wp : 0 ≤ r1 := by rw [e1]; exact (wth_bd (C := C) (a := a) (b := g) (lv := 0) (wg := 0) (tm := tm) hNa hHa R).1
              rw [← ew] at hxx
              have f1' : fS M M1 := (hf.tr (fz N 25 _ (by omega))).tr f1.s
              have v25 : M1 28 0 25 = h + 1 := by rw [f1.2.2 25 (by decide), jup_eq]
              have v26 : M1 28 0 26 = jno w := by rw [f1.2.2 26 (by decide), jup_ne (by omega), h26]
              have better : (w < r1 ∨ (r1 = w ∧ g < b)) → jWP 5 101 21 [some (.inr (28, 0)), some (.inl a), some (.inl (jior L (jishl 1 g))), some (.inl g), some (.inl (jwr ((n : Int) + 1))), none, none, none] [] (jup M1 28 0 26 r1) Q := fun hh => by
                rw [if_pos hh] at hxx
                rw [jwr_id (by omega) (by omega), en]
                have := ih (n + 1) (jfu B g (-1)) (h + 1) r1 g (jior L (jishl 1 g)) (jup M1 28 0 26 r1) (by omega) (f1'.tr (fz M1 26 _ (by omega))) hL' hB' (by rw [jup_ne (by omega), v25]) (by omega) (by rw [jup_eq, jno_ge wp]) (Or.inr ⟨s1, wp, by rw [jfu_eq]⟩) (Or.inl hxx)
                rw [jno_ge s1.1] at this
                exact this
              have not' : ¬ (w < r1 ∨ (r1 = w ∧ g < b)) → jWP 5 101 21 [some (.inr (28, 0)), some (.inl a), some (.inl (jior L (jishl 1 g))), some (.inl (jno b)), some (.inl (jwr ((n : Int) + 1))), none, none, none] [] M1 Q := fun hh => by
                rw [if_neg hh] at hxx
                rw [jwr_id (by omega) (by omega), en]
                exact ih (n + 1) (jfu B g (-1)) (h + 1) w b (jior L (jishl 1 g)) M1 (by omega) f1' hL' hB' v25 (by omega) v26 hbw' (Or.inl hxx)
              rw [v26]
              refine ⟨fun z2 => better ?_, fun z2 => ?_⟩
              · have := jb.mp z2
                omega
              · have b0 : 0 ≤ b := by
                  apply Classical.byContradiction
                  intro q2
                  rw [jno_neg (by omega)] at z2
                  exact absurd z2 (by decide)
                have w0 : 0 ≤ w := by omega
                rw [jno_ge b0, jno_ge w0] at *
                exact ⟨fun z3 => better (Or.inl z3), fun z3 => ⟨fun z4 => not' (by omega), fun z4 => ⟨fun z5 => not' (by omega), fun z5 => better (Or.inr ⟨z4, z5⟩)⟩⟩⟩
            refine fX10_likest_159 ?_
            rw [h25, jwr_id (by omega) (by omega), jup_ne (M := N) (by omega), hf.2.2 4 (by omega), hm4]
            exact ⟨fun z2 => by rw [show tm = 0 by omega] at k187; exact k187, fun z2 => by rw [z2] at k187; exact k187⟩
          refine jc (m_boundOf (gd' g s1.1 s1.2) (mr g s1.1 s1.2)) (by decide) ?_
          rw [h26, ← hBg.1]
          refine ⟨fun z2 => hold ?_, fun z2 => ?_⟩
          · have := jb.mp z2
            rw [stpd]
            omega
          · have b0 : 0 ≤ b := by
              apply Classical.byContradiction
              intro q2
              rw [jno_neg (by omega)] at z2
              exact absurd z2 (by decide)
            have w0 : 0 ≤ w := by omega
            have := nb b0
            rw [jno_ge w0]
            refine ⟨fun z3 => hold (by rw [stpd]; omega), fun z3 => ⟨fun z4 => stop' (by rw [stpd]; omega), fun z4 => ?_⟩⟩
            have jb0 := jno_ge b0
            rw [jb0]
            rw [jb0] at stop' hold
            exact ⟨fun z5 => stop' (by rw [stpd]; omega), fun z5 => hold (by rw [stpd]; omega)⟩
      -- the search for it
      have find : ∀ i m : Nat, m + i = 12 → jWP 5 101 35 [some (.inr (28, 0)), some (.inl a), some (.inl L), some (.inl (jno b)), some (.inl (n : Int)), some (.inl (jno (gB B m))), some (.inl (m : Int)), none] [] N Q := by
        intro i
        induction i with
        | zero =>
          intro m hm
          have : m = 12 := by omega
          subst this
          exact k35
        | succ i ih2 =>
          intro m hm
          have h2 := ih2 (m + 1) (by omega)
          have em : (m : Int) + 1 = ((m + 1 : Nat) : Int) := by omega
          have e : gB B (m + 1) = if B m = -1 then gB B m else if gB B m = -1 then (m : Int) else if B (gB B m) < B m then (m : Int) else gB B m := rfl
          have bd := gB_bd B m
          have spm := gB_sp (f := B) m
          have hBm := hB m (by omega) (by omega)
          have no : B m = -1 → jWP 5 101 66 [some (.inr (28, 0)), some (.inl a), some (.inl L), some (.inl (jno b)), some (.inl (n : Int)), some (.inl (jno (gB B m))), some (.inl (m : Int)), none] [.inl 0] N Q := fun q => fX10_likest_66 ⟨fun _ => by
            rw [e, if_pos q] at h2
            rw [jwr_id (by omega) (by omega), em]
            exact h2, fun z => absurd rfl z⟩
          have yes : ¬ B m = -1 → jWP 5 101 66 [some (.inr (28, 0)), some (.inl a), some (.inl L), some (.inl (jno b)), some (.inl (n : Int)), some (.inl (jno (gB B m))), some (.inl (m : Int)), none] [.inl 1] N Q := fun q => by
            rw [e, if_neg q] at h2
            refine fX10_likest_66 ⟨fun z => absurd z (by decide), fun _ => ?_⟩
            rw [jwr_id (z := (m : Int) + 1) (by omega) (by omega), em]
            refine ⟨fun z => ?_, fun z => ?_⟩
            · rw [if_pos ((jno_lt bd.1).mp z), jno_ge (v := (m : Int)) (by omega)] at h2
              exact h2
            · have g0 : 0 ≤ gB B m := by
                apply Classical.byContradiction
                intro q2
                rw [jno_neg (by omega)] at z
                exact absurd z (by decide)
              rw [if_neg (by omega)] at h2
              have hBg := (hB (gB B m) g0 (by omega)).resolve_left (by
                rcases spm with q2 | q2
                · omega
                · exact q2.2.1)
              have hBm := hBm.resolve_left q
              rw [jno_ge g0]
              refine jc (m_boundOf (gd' m (by omega) (by omega)) (mr m (by omega) (by omega))) (by decide) (jc (m_boundOf (gd' (gB B m) g0 (by omega)) (mr (gB B m) g0 (by omega))) (by decide) ?_)
              rw [← hBm.1, ← hBg.1]
              refine ⟨fun z2 => ?_, fun z2 => ?_⟩
              · rw [if_neg (by omega), jno_ge g0] at h2
                exact h2
              · rw [if_pos z2, jno_ge (v := (m : Int)) (by omega)] at h2
                exact h2
          refine fX10_likest_35 ⟨fun z => by exfalso; omega, fun _ => ?_⟩
          rw [hL.test (by omega) (by omega)]
          refine ⟨fun z => no ?_, fun z => ⟨by rw [jal_28_9]; omega, ?_⟩⟩
          · have := Classical.byContradiction z
            rcases this with q | q
            · rcases hBm with q2 | q2
              · exact q2
              · exact absurd q q2.2.1
            · exact q.2.1
          · rw [(hRN.2.1 m (by omega) (by omega)).2.1]
            refine ⟨fun z2 => no ?_, fun z2 => yes (fun q => z (Or.inr ⟨by omega, q, z2⟩))⟩
            rcases hBm with q2 | q2
            · exact q2
            · omega
      exact fX10_likest_21 ⟨fun z => by exfalso; omega, fun _ => find 12 0 (by omega)⟩
  have := key 12 0 (lkB C a) 0 (-1) (-1) (jishl 1 a) (jup (jup M 28 0 25 0) 28 0 26 (-6)) (by omega) ((fz M 25 0 (by omega)).tr (fz _ 26 (-6) (by omega))) ((isM_bit (k := a) ha.1 (by omega)).congr (fun t t0 t1 => ⟨Or.inl, fun q => ?_⟩)) (fun t t0 t1 => ?_) (by rw [jup_ne (by omega), jup_eq]) (by omega) (by rw [jup_eq]; rfl) (Or.inl ⟨rfl, rfl⟩) (Or.inl hX.symm)
  · exact this
  · rcases q with q | ⟨q1, q2, q3⟩
    · exact q
    · apply Classical.byContradiction
      intro ne
      unfold lkB at q2
      rw [if_pos ⟨ne, q3⟩] at q2
      have := bnn t q1.1 q1.2
      omega
  · unfold lkB
    by_cases u : ¬ t = a ∧ 0 < C t 0 1
    · rw [if_pos u]; exact Or.inr ⟨rfl, u⟩
    · rw [if_neg u]; exact Or.inl rfl
