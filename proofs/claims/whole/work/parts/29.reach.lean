/-! which ties of the other tale a tie reaches -/
def gn (wg h o nr an : Int) : Int := if wg = 0 then h * (if ¬ o = 0 then 6 else if ¬ nr = 0 then 4 else if ¬ an = 0 then 3 else 0) else (if an = 0 then 0 else 1)
theorem c_gain {M : jM} {h o nr an : Int} (h0 : 0 ≤ h) (h1 : h ≤ 1000) : jCallP 0 118 [.inr (20, 0), .inl h, .inl o, .inl nr, .inl an] M (fun r M' => r = gn (M 20 0 3) h o nr an ∧ M' = M) := by
  refine jstart (by decide) rfl (fX0_gain_0 ?_)
  unfold gn
  refine ⟨fun q => ?_, fun q => ⟨fun q2 => ⟨by rw [if_neg q, if_pos q2], rfl⟩, fun q2 => ⟨by rw [if_neg q, if_neg q2], rfl⟩⟩⟩
  rw [if_pos q]
  refine ⟨fun q2 => ⟨fun q3 => ⟨fun q4 => ⟨?_, rfl⟩, fun q4 => ⟨?_, rfl⟩⟩, fun q3 => ⟨?_, rfl⟩⟩, fun q2 => ⟨?_, rfl⟩⟩
  · rw [if_neg (fun k => k q2), if_neg (fun k => k q3), if_neg (fun k => k q4), jwr_id (by omega) (by omega)]
  · rw [if_neg (fun k => k q2), if_neg (fun k => k q3), if_pos q4, jwr_id (by omega) (by omega)]
  · rw [if_neg (fun k => k q2), if_pos q3, jwr_id (by omega) (by omega)]
  · rw [if_pos q2, jwr_id (by omega) (by omega)]
def EA (C : jM) (b : Int) (p : Int → Int) (LS : Int → Int → Prop) (tk : Int → Prop) (e f : Int) : Prop :=
  (0 ≤ e ∧ e < 6 ∧ ((p e = -2 ∧ 0 ≤ f ∧ f < C b 0 0 ∧ ¬ tk f) ∨ (0 ≤ p e ∧ f = p e))) ∨ (10 ≤ e ∧ 10 ≤ f ∧ LS (e - 10) (f - 10))
/-- what the cells hold of an end -/
def jEnd (C M : jM) (b : Int) (p : Int → Int) (LS : Int → Int → Prop) (tk : Int → Prop) (e : Int) : Prop :=
  (-1 ≤ e ∧ e < 24 ∧ ¬ (6 ≤ e ∧ e < 10)) ∧ (0 ≤ e → e < 6 → M 20 6 e = p e ∧ -2 ≤ p e ∧ p e < 6 ∧ (p e = -2 → ∀ pl, 0 ≤ pl → pl < 3 → isM (M 20 14 pl) (fun j => j < C b 0 1 ∧ 0 ≤ C b 6 (3 * j + pl) ∧ C b 6 (3 * j + pl) < C b 0 0 ∧ ¬ tk (C b 6 (3 * j + pl))))) ∧
  (10 ≤ e → isM (M 20 8 (e - 10)) (LS (e - 10)) ∧ ∀ j, LS (e - 10) j → 0 ≤ j ∧ j < C b 0 1)
def jHav (C M : jM) (b : Int) : Prop := ∀ p e, 0 ≤ p → p < 3 → 0 ≤ e → e < 24 → isM (M 20 13 (24 * p + e)) (fun j => j < C b 0 1 ∧ C b 6 (3 * j + p) = e)
theorem c_reach {C M : jM} {b : Int} {p : Int → Int} {LS : Int → Int → Prop} {tk : Int → Prop} {e pl : Int} (hb : 0 ≤ b ∧ b < 18) (hNb : jNB C b) (ht : M 20 0 2 = b) (hMb : M b = C b) (hh : jHav C M b) (he : jEnd C M b p LS tk e) (hp : 0 ≤ pl ∧ pl < 3) :
    jCallP 0 120 [.inr (20, 0), .inl e, .inl pl] M (fun r M' => isM r (fun j => j < C b 0 1 ∧ EA C b p LS tk e (C b 6 (3 * j + pl))) ∧ M' = M) := by
  obtain ⟨⟨e0, e1, e2⟩, hth, hti⟩ := he
  have w24 : jwr (pl * 24) = 24 * pl := by rw [jwr_id (by omega) (by omega)]; omega
  refine jstart (by decide) rfl (fX0_reach_0 ⟨fun q => ?_, fun q => ?_⟩)
  · have we : jwr (e - 10) = e - 10 := jwr_id (by omega) (by omega)
    rw [we]
    refine ⟨fun q2 => by exfalso; omega, fun q2 => ⟨fun q3 => ⟨⟨q2, by rw [jal_20_8]; exact q3⟩, ?_⟩, fun q3 => by exfalso; omega⟩⟩
    obtain ⟨hl, hlb⟩ := hti (by omega)
    have n14 := hNb.2.2
    have h31 : ¬ LS (e - 10) 31 := fun k => by have := hlb 31 k; omega
    have key : ∀ n, 0 ≤ n → n ≤ C b 0 1 → ∀ v : Int, isM v (fun j => j < C b 0 1 ∧ 10 ≤ C b 6 (3 * j + pl) ∧ LS (e - 10) (C b 6 (3 * j + pl) - 10) ∧ C b 6 (3 * j + pl) - 10 < n) →
        jWP 0 120 87 [some (.inr (20, 0)), none, some (.inl pl), none, some (.inl (M 20 8 (e - 10))), some (.inl v), some (.inl n)] [] M (fun r M' => isM r (fun j => j < C b 0 1 ∧ EA C b p LS tk e (C b 6 (3 * j + pl))) ∧ M' = M) := by
      have fin : ∀ n v : Int, (∀ j, LS (e - 10) j → j < n) → isM v (fun j => j < C b 0 1 ∧ 10 ≤ C b 6 (3 * j + pl) ∧ LS (e - 10) (C b 6 (3 * j + pl) - 10) ∧ C b 6 (3 * j + pl) - 10 < n) → isM v (fun j => j < C b 0 1 ∧ EA C b p LS tk e (C b 6 (3 * j + pl))) := by
        intro n v hn hv
        refine hv.congr (fun j _ _ => ⟨fun k => ⟨k.1, Or.inr ⟨by omega, k.2.1, k.2.2.1⟩⟩, fun k => ?_⟩)
        rcases k.2 with k2 | k2
        · omega
        · exact ⟨k.1, k2.2.1, k2.2.2, hn _ k2.2.2⟩
      refine jloop (e := C b 0 1) (fun v hv => ?_) (fun n n0 n1 ih v hv => ?_)
      · refine fX0_reach_87 ?_
        rw [ht, hMb]
        exact ⟨hb, fun _ => ⟨fin _ v (fun j hj => (hlb j hj).2) hv, rfl⟩, fun k => by exfalso; omega⟩
      · refine fX0_reach_87 ?_
        rw [ht, hMb]
        have wn : jwr (jwr (jwr (pl * 24) + 10) + n) = 24 * pl + (10 + n) := by
          rw [w24, jwr_id (z := 24 * pl + 10) (by omega) (by omega), jwr_id (by omega) (by omega)]
          omega
        rw [wn, jwr_id (z := n + 1) (by omega) (by omega)]
        refine ⟨hb, fun k => by exfalso; omega, fun _ => ⟨fun k => ⟨fin n v (fun j hj => ?_) hv, rfl⟩, fun _ => ⟨fun k => ih v (hv.congr (fun j _ _ => ⟨fun x => ⟨x.1, x.2.1, x.2.2.1, by omega⟩, fun x => ⟨x.1, x.2.1, x.2.2.1, ?_⟩⟩)), fun k => ⟨⟨by omega, by rw [jal_20_13]; omega⟩, ih _ ?_⟩⟩⟩⟩
        · have hj2 := hlb j hj
          rcases Int.lt_or_le j n with x | x
          · exact x
          · exact absurd hj ((hl.shr0 h31 n0 (by omega)).mp k j x (by omega))
        · have hno := (hl.test n0 (by omega)).mp k
          by_cases x2 : C b 6 (3 * j + pl) - 10 = n
          · rw [x2] at x; exact absurd x.2.2.1 hno
          · omega
        · have hyes : LS (e - 10) n := by
            by_cases x : LS (e - 10) n
            · exact x
            · exact absurd ((hl.test n0 (by omega)).mpr x) k
          refine (hv.or (hh pl (10 + n) hp.1 hp.2 (by omega) (by omega))).congr (fun j _ _ => ⟨fun x => ?_, fun x => ?_⟩)
          · rcases x with x | x
            · exact ⟨x.1, x.2.1, x.2.2.1, by omega⟩
            · exact ⟨x.1, by omega, by rw [show C b 6 (3 * j + pl) - 10 = n by omega]; exact hyes, by omega⟩
          · by_cases x2 : C b 6 (3 * j + pl) - 10 = n
            · exact Or.inr ⟨x.1, by omega⟩
            · exact Or.inl ⟨x.1, x.2.1, x.2.2.1, by omega⟩
    exact key 0 (by omega) hNb.2.1 0 (isM_0.congr (fun j _ _ => ⟨fun k => k.elim, fun k => by
      have := (hlb _ k.2.2.1).1
      omega⟩))
  · refine ⟨fun q2 => ⟨⟨q2, by rw [jal_20_6]; exact q⟩, ?_⟩, fun q2 => ?_⟩
    · obtain ⟨g1, g2, g3, g4⟩ := hth q2 q
      rw [g1]
      refine fX0_reach_20 ⟨fun q3 => ⟨fun q4 => ?_, fun q4 => ⟨isM_0.congr (fun j _ _ => ⟨fun k => k.elim, fun k => ?_⟩), rfl⟩⟩, fun q3 => ⟨⟨hp.1, by rw [jal_20_14]; exact hp.2⟩, ?_, rfl⟩⟩
      · have wn : jwr (jwr (pl * 24) + p e) = 24 * pl + p e := by rw [w24, jwr_id (by omega) (by omega)]
        rw [wn]
        refine ⟨⟨by omega, by rw [jal_20_13]; omega⟩, (hh pl (p e) hp.1 hp.2 q4 (by omega)).congr (fun j _ _ => ⟨fun k => ⟨k.1, Or.inl ⟨q2, q, Or.inr ⟨q4, k.2⟩⟩⟩, fun k => ?_⟩), rfl⟩
        rcases k.2 with k2 | k2
        · rcases k2.2.2 with k3 | k3
          · exact absurd k3.1 q3
          · exact ⟨k.1, k3.2⟩
        · omega
      · rcases k.2 with k2 | k2
        · rcases k2.2.2 with k3 | k3
          · exact absurd k3.1 q3
          · omega
        · omega
      · refine (g4 q3 pl hp.1 hp.2).congr (fun j _ _ => ⟨fun k => ⟨k.1, Or.inl ⟨q2, q, Or.inl ⟨q3, k.2⟩⟩⟩, fun k => ?_⟩)
        rcases k.2 with k2 | k2
        · rcases k2.2.2 with k3 | k3
          · exact ⟨k.1, k3.2⟩
          · omega
        · omega
    · refine fX0_reach_20 ⟨fun q3 => ⟨fun q4 => by exfalso; omega, fun q4 => ⟨isM_0.congr (fun j _ _ => ⟨fun k => k.elim, fun k => ?_⟩), rfl⟩⟩, fun q3 => by exfalso; omega⟩
      rcases k.2 with k2 | k2 <;> omega
/-- tie i of a may be answered by tie j of b, by what is decided -/
def RA (C : jM) (a b lv wg : Int) (p : Int → Int) (LS : Int → Int → Prop) (tk : Int → Prop) (i j : Int) : Prop :=
  cld C a b lv wg i j ∧ ((EA C b p LS tk (C a 6 (3 * i)) (C b 6 (3 * j)) ∧ (C a 6 (3 * i + 1) = -1 ∨ EA C b p LS tk (C a 6 (3 * i + 1)) (C b 6 (3 * j + 1))) ∧ (C a 6 (3 * i + 2) = -1 ∨ EA C b p LS tk (C a 6 (3 * i + 2)) (C b 6 (3 * j + 2)))) ∨
    (evn C a b i j ∧ EA C b p LS tk (C a 6 (3 * i)) (C b 6 (3 * j + 1)) ∧ EA C b p LS tk (C a 6 (3 * i + 1)) (C b 6 (3 * j))))
theorem c_reachable {C M : jM} {a b lv wg i : Int} {p : Int → Int} {LS : Int → Int → Prop} {tk : Int → Prop} (ha : 0 ≤ a ∧ a < 18) (hb : 0 ≤ b ∧ b < 18) (hNa : jNB C a) (hNb : jNB C b) (hi : 0 ≤ i ∧ i < C a 0 1) (hf : M 20 0 1 = a) (ht : M 20 0 2 = b) (hMa : M a = C a) (hMb : M b = C b)
    (hc : jCmp C M a b lv wg i (C b 0 1)) (hh : jHav C M b) (he : ∀ q, 0 ≤ q → q < 3 → jEnd C M b p LS tk (C a 6 (3 * i + q))) :
    jCallP 1 119 [.inr (20, 0), .inl i] M (fun r M' => isM r (RA C a b lv wg p LS tk i) ∧ M' = M) := by
  have n14 := hNa.2.2
  have w0 : jwr (i * 3) = 3 * i := by rw [jwr_id (by omega) (by omega)]; omega
  have w1 : jwr (3 * i + 1) = 3 * i + 1 := jwr_id (by omega) (by omega)
  have w2 : jwr (3 * i + 2) = 3 * i + 2 := jwr_id (by omega) (by omega)
  have he0 : jEnd C M b p LS tk (C a 6 (3 * i)) := by have := he 0 (by omega) (by omega); rwa [Int.add_zero] at this
  have he1 := he 1 (by omega) (by omega)
  have he2 := he 2 (by omega) (by omega)
  have b6 : ∀ c, 0 ≤ c → c < 3 → 0 ≤ 3 * i + c ∧ 3 * i + c < jal a 6 := fun c c0 c1 => by rw [jal_n6 ha]; omega
  have b60 : 0 ≤ 3 * i ∧ 3 * i < jal a 6 := by rw [jal_n6 ha]; omega
  obtain ⟨hc9, hc10, hc11, hc12⟩ := hc
  have cl : ∀ j, cld C a b lv wg i j → j < C b 0 1 := fun j h => h.2.1
  refine jstart (by decide) rfl (fX0_reachable_0 ?_)
  rw [w0, w1, w2, hf, hMa]
  refine ⟨ha, b60, ha, b6 1 (by omega) (by omega), ha, b6 2 (by omega) (by omega), ⟨hi.1, by rw [jal_20_9]; omega⟩, fun q => ?_, fun q => ⟨?_, rfl⟩⟩
  · -- straight
    have tail : ∀ v : Int, isM v (fun j => cld C a b lv wg i j ∧ EA C b p LS tk (C a 6 (3 * i)) (C b 6 (3 * j)) ∧ (C a 6 (3 * i + 1) = -1 ∨ EA C b p LS tk (C a 6 (3 * i + 1)) (C b 6 (3 * j + 1)))) →
        jWP 1 119 83 [some (.inr (20, 0)), some (.inl i), some (.inl (C a 6 (3 * i))), some (.inl (C a 6 (3 * i + 1))), some (.inl (C a 6 (3 * i + 2))), some (.inl v)] [] M (fun r M' => isM r (RA C a b lv wg p LS tk i) ∧ M' = M) := by
      intro v hv
      have tail2 : ∀ v : Int, isM v (fun j => cld C a b lv wg i j ∧ EA C b p LS tk (C a 6 (3 * i)) (C b 6 (3 * j)) ∧ (C a 6 (3 * i + 1) = -1 ∨ EA C b p LS tk (C a 6 (3 * i + 1)) (C b 6 (3 * j + 1))) ∧ (C a 6 (3 * i + 2) = -1 ∨ EA C b p LS tk (C a 6 (3 * i + 2)) (C b 6 (3 * j + 2)))) →
          jWP 1 119 101 [some (.inr (20, 0)), some (.inl i), some (.inl (C a 6 (3 * i))), some (.inl (C a 6 (3 * i + 1))), none, some (.inl v)] [] M (fun r M' => isM r (RA C a b lv wg p LS tk i) ∧ M' = M) := by
        intro v hv
        have b10 : 0 ≤ i ∧ i < jal 20 10 := by rw [jal_20_10]; omega
        refine fX0_reachable_101 ⟨b10, fun k => ⟨hv.congr (fun j j0 j1 => ⟨fun x => ⟨x.1, Or.inl x.2⟩, fun x => ?_⟩), rfl⟩, fun k => ⟨b10, ?_⟩⟩
        · rcases x.2 with x2 | x2
          · exact ⟨x.1, x2⟩
          · exact absurd ⟨⟨x.1, x2.1⟩, cl j x.1⟩ (hc10.zero.mp k j j0 j1)
        · refine jcq (c_reach hb hNb ht hMb hh he0 (pl := 1) (by omega)) (by decide) ?_
          rintro r1 M1 ⟨g1, rfl⟩
          refine jcq (c_reach hb hNb ht hMb hh he1 (pl := 0) (by omega)) (by decide) ?_
          rintro r2 M2 ⟨g2, rfl⟩
          refine ⟨(hv.or ((hc10.and g1).and g2)).congr (fun j j0 j1 => ⟨fun x => ?_, fun x => ?_⟩), rfl⟩
          · rcases x with x | x
            · exact ⟨x.1, Or.inl x.2⟩
            · have e3 := x.2.2
              rw [Int.add_zero] at e3
              exact ⟨x.1.1.1.1, Or.inr ⟨x.1.1.1.2, x.1.2.2, e3⟩⟩
          · rcases x.2 with x2 | x2
            · exact Or.inl ⟨x.1, x2⟩
            · refine Or.inr ⟨⟨⟨⟨x.1, x2.1⟩, cl j x.1⟩, cl j x.1, x2.2.1⟩, cl j x.1, ?_⟩
              rw [Int.add_zero]
              exact x2.2.2
      refine fX0_reachable_83 ⟨fun k => tail2 v (hv.congr (fun j _ _ => ⟨fun x => ⟨x.1, x.2.1, x.2.2, Or.inl k⟩, fun x => ⟨x.1, x.2.1, x.2.2.1⟩⟩)), fun k => ?_⟩
      refine jcq (c_reach hb hNb ht hMb hh he2 (pl := 2) (by omega)) (by decide) ?_
      rintro r1 M1 ⟨g1, rfl⟩
      exact tail2 _ ((hv.and g1).congr (fun j _ _ => ⟨fun x => ⟨x.1.1, x.1.2.1, x.1.2.2, Or.inr x.2.2⟩, fun x => ⟨⟨x.1, x.2.1, x.2.2.1⟩, cl j x.1, x.2.2.2.resolve_left k⟩⟩))
    refine jcq (c_reach hb hNb ht hMb hh he0 (pl := 0) (by omega)) (by decide) ?_
    rintro r1 M1 ⟨g1, rfl⟩
    have g1' := (hc9.and g1).congr (P' := fun j => cld C a b lv wg i j ∧ EA C b p LS tk (C a 6 (3 * i)) (C b 6 (3 * j))) (fun j _ _ => ⟨fun x => ⟨x.1.1, by have := x.2.2; rwa [Int.add_zero] at this⟩, fun x => ⟨⟨x.1, cl j x.1⟩, cl j x.1, by rw [Int.add_zero]; exact x.2⟩⟩)
    refine ⟨fun k => tail _ (g1'.congr (fun j _ _ => ⟨fun x => ⟨x.1, x.2, Or.inl k⟩, fun x => ⟨x.1, x.2.1⟩⟩)), fun k => ?_⟩
    refine jcq (c_reach hb hNb ht hMb hh he1 (pl := 1) (by omega)) (by decide) ?_
    rintro r2 M2 ⟨g2, rfl⟩
    exact tail _ ((g1'.and g2).congr (fun j _ _ => ⟨fun x => ⟨x.1.1, x.1.2, Or.inr x.2.2⟩, fun x => ⟨⟨x.1, x.2.1⟩, cl j x.1, x.2.2.resolve_left k⟩⟩))
  · exact isM_0.congr (fun j j0 j1 => ⟨fun k => k.elim, fun k => hc9.zero.mp q j j0 j1 ⟨k.1, cl j k.1⟩⟩)
theorem c_firstOf {C M : jM} {b v : Int} {P : Int → Prop} (hb : 0 ≤ b ∧ b < 18) (hNb : jNB C b) (ht : M 20 0 2 = b) (hMb : M b = C b) (hv : isM v P) (hP : ∀ j, P j → j < C b 0 1) :
    jCallP 0 121 [.inr (20, 0), .inl v] M (fun r M' => r = jfst P (C b 0 1).toNat ∧ M' = M) := by
  have n14 := hNb.2.2
  have h31 : ¬ P 31 := fun k => by have := hP 31 k; omega
  refine jstart (by decide) rfl (fX0_firstOf_0 ?_)
  have key : ∀ n, 0 ≤ n → n ≤ C b 0 1 → (∀ j, 0 ≤ j → j < n → ¬ P j) → jWP 0 121 2 [some (.inr (20, 0)), some (.inl v), some (.inl n)] [] M (fun r M' => r = jfst P (C b 0 1).toNat ∧ M' = M) := by
    refine jloop (e := C b 0 1) (fun hno => ?_) (fun n n0 n1 ih hno => ?_)
    · refine fX0_firstOf_2 ?_
      rw [ht, hMb]
      exact ⟨hb, fun _ => ⟨(jfst_none (fun i i0 i1 => hno i i0 (by omega))).symm, rfl⟩, fun k => by exfalso; omega⟩
    · refine fX0_firstOf_2 ?_
      rw [ht, hMb, jwr_id (z := n + 1) (by omega) (by omega)]
      refine ⟨hb, fun k => by exfalso; omega, fun _ => ⟨fun k => ⟨(jfst_none (fun i i0 i1 => ?_)).symm, rfl⟩, fun _ => ⟨fun k => ih (fun j j0 j1 => ?_), fun k => ⟨(jfst_is n0 (by omega) ?_ hno).symm, rfl⟩⟩⟩⟩
      · rcases Int.lt_or_le i n with x | x
        · exact hno i i0 x
        · exact (hv.shr0 h31 n0 (by omega)).mp k i x (by omega)
      · by_cases x : j = n
        · rw [x]; exact (hv.test n0 (by omega)).mp k
        · exact hno j j0 (by omega)
      · by_cases x : P n
        · exact x
        · exact absurd ((hv.test n0 (by omega)).mpr x) k
  exact key 0 (by omega) hNb.2.1 (fun j j0 j1 => by omega)
