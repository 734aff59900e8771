/-! the heaviest order of moments -/
def chn (f : Int → Int) : Prop := (∀ h, -1 ≤ f h ∧ f h < 10) ∧ ∀ h k, 0 ≤ h → h < k → k < 10 → 0 ≤ f h → 0 ≤ f k → f h < f k
def phi (W : Int → Int) (f : Int → Int) : Nat → Int
  | 0 => 0
  | n + 1 => phi W f n + if 0 ≤ f n then W (10 * n + f n) else 0
theorem phi_0 (W : Int → Int) (f : Int → Int) : ∀ n : Nat, (∀ h : Int, 0 ≤ h → h < n → f h < 0) → phi W f n = 0
  | 0, _ => rfl
  | n + 1, hf => by
    unfold phi
    rw [phi_0 W f n (fun k k0 k1 => hf k k0 (by omega)), if_neg (by have := hf n (by omega) (by omega); omega)]
    rfl
/-- the row of the heaviest, when h moments of the one tale have been looked at -/
def hvy (W H : Int → Int) (B : Int) (h : Nat) : Prop :=
  (∀ t, 0 ≤ t → t < 10 → 0 ≤ H t ∧ H t ≤ B * h) ∧ (∀ t, 0 ≤ t → t < 9 → H t ≤ H (t + 1)) ∧ ∀ f, chn f → ∀ t, 0 ≤ t → t < 10 → (∀ k : Int, 0 ≤ k → k < h → f k ≤ t) → phi W f h ≤ H t
theorem hvy_mono {W H : Int → Int} {B : Int} {h : Nat} (hv : hvy W H B h) : ∀ (n : Nat) (t : Int), 0 ≤ t → t + n < 10 → H t ≤ H (t + n)
  | 0, t, _, _ => by rw [show t + ((0 : Nat) : Int) = t by omega]; exact Int.le_refl _
  | n + 1, t, h0, h1 => by
    have a := hvy_mono hv n t h0 (by omega)
    have b := hv.2.1 (t + n) (by omega) (by omega)
    rw [show t + ((n + 1 : Nat) : Int) = t + n + 1 by omega]
    omega
/-- one moment more: the row that comes of the old one -/
def hvN (W H : Int → Int) (h : Nat) (t : Int) : Int := jmx (H t) ((if 0 < t then H (t - 1) else 0) + W (10 * h + t))
def hvM (W H : Int → Int) (h : Nat) : Nat → Int
  | 0 => hvN W H h 0
  | t + 1 => jmx (hvN W H h (t + 1)) (hvM W H h t)
theorem hvM_ge (W H : Int → Int) (h : Nat) : ∀ (t s : Nat), s ≤ t → hvN W H h s ≤ hvM W H h t
  | 0, s, hs => by rw [show s = 0 by omega]; exact Int.le_refl _
  | t + 1, s, hs => by
    unfold hvM
    have h1 := jmx_ge (hvN W H h (t + 1)) (hvM W H h t)
    rcases Nat.lt_or_ge t s with q | q
    · rw [show s = t + 1 by omega]
      exact h1.1
    · exact Int.le_trans (hvM_ge W H h t s q) h1.2
theorem hvM_le {W H : Int → Int} {h : Nat} {c : Int} : ∀ (t : Nat), (∀ s : Nat, s ≤ t → hvN W H h s ≤ c) → hvM W H h t ≤ c
  | 0, hs => hs 0 (Nat.le_refl 0)
  | t + 1, hs => jmx_le (hs (t + 1) (Nat.le_refl _)) (hvM_le t (fun s q => hs s (by omega)))
theorem hvy_next {W H : Int → Int} {B : Int} {h : Nat} (hB : 0 ≤ B) (hW : ∀ c, 0 ≤ c → c < 100 → 0 ≤ W c ∧ W c ≤ B) (hh : h < 10) (hv : hvy W H B h) : hvy W (fun t => hvM W H h t.toNat) B (h + 1) := by
  have hN : ∀ t, 0 ≤ t → t < 10 → H t ≤ hvN W H h t := fun t _ _ => (jmx_ge _ _).1
  have e1 : B * ((h + 1 : Nat) : Int) = B * h + B := by
    rw [show ((h + 1 : Nat) : Int) = (h : Int) + 1 by omega, Int.mul_add, Int.mul_one]
  refine ⟨fun t t0 t1 => ⟨?_, ?_⟩, fun t t0 t1 => ?_, fun f hf t t0 t1 hb => ?_⟩
  · have a := (hv.1 t t0 t1).1
    have b := hN t t0 t1
    have c := hvM_ge W H h t.toNat t.toNat (Nat.le_refl _)
    rw [Int.toNat_of_nonneg t0] at c
    show 0 ≤ hvM W H h t.toNat
    omega
  · refine hvM_le _ (fun s hs => jmx_le ?_ ?_)
    · have := (hv.1 s (by omega) (by omega)).2
      omega
    · have a := hW (10 * h + s) (by omega) (by omega)
      by_cases q : 0 < (s : Int)
      · rw [if_pos q]
        have := (hv.1 (s - 1) (by omega) (by omega)).2
        omega
      · rw [if_neg q]
        have := (hv.1 s (by omega) (by omega))
        omega
  · show hvM W H h t.toNat ≤ hvM W H h (t + 1).toNat
    rw [show (t + 1).toNat = t.toNat + 1 by omega]
    exact (jmx_ge _ _).2
  · show phi W f (h + 1) ≤ hvM W H h t.toNat
    unfold phi
    have hr := hf.1 h
    by_cases q : 0 ≤ f h
    · rw [if_pos q]
      have hft : f h ≤ t := hb h (by omega) (by omega)
      have c := hvM_ge W H h t.toNat (f h).toNat (by omega)
      rw [Int.toNat_of_nonneg q] at c
      have d := (jmx_ge (H (f h)) ((if 0 < f h then H (f h - 1) else 0) + W (10 * h + f h))).2
      have e : phi W f h ≤ if 0 < f h then H (f h - 1) else 0 := by
        by_cases z : 0 < f h
        · rw [if_pos z]
          refine hv.2.2 f hf (f h - 1) (by omega) (by omega) (fun k k0 k1 => ?_)
          by_cases y : 0 ≤ f k
          · have := hf.2 k h k0 k1 (by omega) y q
            omega
          · omega
        · rw [if_neg z, phi_0 W f h (fun k k0 k1 => ?_)]
          · omega
          · by_cases y : 0 ≤ f k
            · have := hf.2 k h k0 k1 (by omega) y q
              omega
            · omega
      have g : hvN W H h (f h) = jmx (H (f h)) ((if 0 < f h then H (f h - 1) else 0) + W (10 * h + f h)) := rfl
      omega
    · rw [if_neg q, Int.add_zero]
      have c := hvM_ge W H h t.toNat t.toNat (Nat.le_refl _)
      rw [Int.toNat_of_nonneg t0] at c
      have d := hN t t0 t1
      have e := hv.2.2 f hf t t0 t1 (fun k k0 k1 => hb k k0 (by omega))
      omega
set_option maxHeartbeats 1000000 in
theorem c_heaviestOrder {M : jM} {B : Int} (hB : 0 ≤ B ∧ B ≤ 100000) (hW : ∀ c, 0 ≤ c → c < 100 → 0 ≤ M 21 7 c ∧ M 21 7 c ≤ B) :
    jCallP 0 171 [.inr (21, 0)] M (fun r M' => (∀ f, chn f → phi (M 21 7) f 10 ≤ r) ∧ (0 ≤ r ∧ r ≤ B * 10) ∧ (∀ c, 0 ≤ c → c < 100 → M' 21 7 c = 0) ∧ ∀ x y, ¬ (x = 21 ∧ (y = 7 ∨ y = 8)) → M' x y = M x y) := by
  refine jstart (by decide) rfl (fX7_heaviestOrder_0 ?_)
  generalize hQ : (fun (r : Int) (M' : jM) => (∀ f, chn f → phi (M 21 7) f 10 ≤ r) ∧ (0 ≤ r ∧ r ≤ B * 10) ∧ (∀ c, 0 ≤ c → c < 100 → M' 21 7 c = 0) ∧ ∀ x y, ¬ (x = 21 ∧ (y = 7 ∨ y = 8)) → M' x y = M x y) = Q
  -- the outer loop
  have outer : ∀ k (h : Nat), h + k = 10 → ∀ M1 : jM, hvy (M 21 7) (M1 21 8) B h → (∀ c, 0 ≤ c → c < 100 → M1 21 7 c = if c < 10 * h then 0 else M 21 7 c) → (∀ x y, ¬ (x = 21 ∧ (y = 7 ∨ y = 8)) → M1 x y = M x y) →
      jWP 0 171 23 [some (.inr (21, 0)), some (.inl (h : Int)), none, none] [] M1 Q := by
    intro k
    induction k with
    | zero =>
      intro h hk M1 g1 g2 g3
      have e : h = 10 := by omega
      subst e
      refine fX7_heaviestOrder_23 ⟨fun _ => ⟨by rw [jal_21_8]; omega, ?_⟩, fun q => by exfalso; omega⟩
      rw [← hQ]
      refine ⟨fun f hf => g1.2.2 f hf 9 (by omega) (by omega) (fun k _ _ => by have := (hf.1 k).2; omega), ?_, fun c c0 c1 => ?_, g3⟩
      · have := g1.1 9 (by omega) (by omega)
        exact this
      · rw [g2 c c0 c1, if_pos (by omega)]
    | succ k ih =>
      intro h hk M1 g1 g2 g3
      refine fX7_heaviestOrder_23 ⟨fun q => by exfalso; omega, fun _ => ?_⟩
      have bnd : ∀ t, 0 ≤ t → t < 10 → 0 ≤ M1 21 8 t ∧ M1 21 8 t ≤ 1000000 := fun t t0 t1 => by
        have := g1.1 t t0 t1
        have h2 : B * h ≤ 100000 * 10 := Int.mul_le_mul hB.2 (by omega) (by omega) (by omega)
        omega
      -- the inner loop, downward
      have down : ∀ n : Nat, n ≤ 10 → ∀ M2 : jM, (∀ t, 0 ≤ t → t < 10 → M2 21 8 t = if t < n then M1 21 8 t else hvN (M 21 7) (M1 21 8) h t) → (∀ c, 0 ≤ c → c < 100 → M2 21 7 c = if c < 10 * h ∨ (c < 10 * h + 10 ∧ 10 * h + n ≤ c) then 0 else M 21 7 c) → (∀ x y, ¬ (x = 21 ∧ (y = 7 ∨ y = 8)) → M2 x y = M x y) →
          jWP 0 171 32 [some (.inr (21, 0)), some (.inl (h : Int)), some (.inl ((n : Int) - 1)), none] [] M2 Q := by
        intro n
        induction n with
        | zero =>
          intro _ M2 k1 k2 k3
          refine fX7_heaviestOrder_32 ⟨fun _ => ?_, fun q => by exfalso; omega⟩
          -- then upward
          have up : ∀ n, 1 ≤ n → n ≤ 10 → ∀ M3 : jM, (∀ t, 0 ≤ t → t < 10 → M3 21 8 t = if t < n then hvM (M 21 7) (M1 21 8) h t.toNat else hvN (M 21 7) (M1 21 8) h t) → (∀ c, 0 ≤ c → c < 100 → M3 21 7 c = if c < 10 * h + 10 then 0 else M 21 7 c) → (∀ x y, ¬ (x = 21 ∧ (y = 7 ∨ y = 8)) → M3 x y = M x y) →
              jWP 0 171 101 [some (.inr (21, 0)), some (.inl (h : Int)), some (.inl n), none] [] M3 Q := by
            refine (fun hyp n n1 n10 => hyp n (by omega) n10 n1) (jloop (P := fun n => 1 ≤ n → ∀ M3 : jM, (∀ t, 0 ≤ t → t < 10 → M3 21 8 t = if t < n then hvM (M 21 7) (M1 21 8) h t.toNat else hvN (M 21 7) (M1 21 8) h t) → (∀ c, 0 ≤ c → c < 100 → M3 21 7 c = if c < 10 * h + 10 then 0 else M 21 7 c) → (∀ x y, ¬ (x = 21 ∧ (y = 7 ∨ y = 8)) → M3 x y = M x y) →
              jWP 0 171 101 [some (.inr (21, 0)), some (.inl (h : Int)), some (.inl n), none] [] M3 Q) (e := 10) ?_ ?_)
            · intro _ M3 u1 u2 u3
              refine fX7_heaviestOrder_101 ⟨fun _ => ?_, fun q => by exfalso; omega⟩
              rw [jwr_id (by omega) (by omega), show (h : Int) + 1 = ((h + 1 : Nat) : Int) by omega]
              refine ih (h + 1) (by omega) M3 ?_ (fun c c0 c1 => ?_) u3
              · have hn := hvy_next hB.1 hW (by omega) g1
                refine ⟨fun t t0 t1 => ?_, fun t t0 t1 => ?_, fun f hf t t0 t1 hb => ?_⟩
                · rw [u1 t t0 t1, if_pos t1]; exact hn.1 t t0 t1
                · rw [u1 t t0 (by omega), if_pos (by omega), u1 (t + 1) (by omega) (by omega), if_pos (by omega)]; exact hn.2.1 t t0 t1
                · rw [u1 t t0 t1, if_pos t1]; exact hn.2.2 f hf t t0 t1 hb
              · rw [u2 c c0 c1]
                by_cases q : c < 10 * (h : Int) + 10
                · rw [if_pos q, if_pos (by omega)]
                · rw [if_neg q, if_neg (by omega)]
            · intro n n0 n1 ih2 n1' M3 u1 u2 u3
              refine fX7_heaviestOrder_101 ⟨fun q => by exfalso; omega, fun _ => ⟨⟨n0, by rw [jal_21_8]; exact n1⟩, ?_⟩⟩
              rw [jwr_id (z := n - 1) (by omega) (by omega), jwr_id (z := n + 1) (by omega) (by omega)]
              refine ⟨by rw [jal_21_8]; omega, ⟨n0, by rw [jal_21_8]; exact n1⟩, ih2 (by omega) _ (fun t t0 t1 => ?_) (fun c c0 c1 => by rw [jup_ne (by simp)]; exact u2 c c0 c1) (fun x y hxy => by rw [jup_set, jset_ne (fun q => hxy ⟨q.1, Or.inr q.2⟩)]; exact u3 x y hxy)⟩
              by_cases q : t = n
              · subst q
                have a1 : M3 21 8 t = hvN (M 21 7) (M1 21 8) h t := by rw [u1 t t0 t1, if_neg (by omega)]
                have a2 : M3 21 8 (t - 1) = hvM (M 21 7) (M1 21 8) h (t - 1).toNat := by rw [u1 (t - 1) (by omega) (by omega), if_pos (by omega)]
                have a3 : (if t < t + 1 then hvM (M 21 7) (M1 21 8) h t.toNat else hvN (M 21 7) (M1 21 8) h t) = jmx (hvN (M 21 7) (M1 21 8) h t) (hvM (M 21 7) (M1 21 8) h (t - 1).toNat) := by
                  rw [if_pos (by omega), show t.toNat = (t - 1).toNat + 1 by omega]
                  show jmx (hvN (M 21 7) (M1 21 8) h (((t - 1).toNat : Int) + 1)) _ = _
                  rw [show (((t - 1).toNat : Nat) : Int) + 1 = t by omega]
                rw [jup_eq, a3, a1, a2]
                rfl
              · rw [jup_ne (by simp [q]), u1 t t0 t1]
                by_cases q2 : t < n
                · rw [if_pos q2, if_pos (by omega)]
                · rw [if_neg q2, if_neg (by omega)]
          refine up 1 (by omega) (by omega) M2 (fun t t0 t1 => ?_) (fun c c0 c1 => ?_) k3
          · rw [k1 t t0 t1, if_neg (by omega)]
            by_cases q : t < 1
            · rw [if_pos q, show t = 0 by omega]; rfl
            · rw [if_neg q]
          · rw [k2 c c0 c1]
            by_cases q : c < 10 * (h : Int) + 10
            · rw [if_pos q, if_pos (by omega)]
            · rw [if_neg q, if_neg (by omega)]
        | succ n ihn =>
          intro hn M2 k1 k2 k3
          have e1 : ((n + 1 : Nat) : Int) - 1 = n := by omega
          rw [e1]
          have w : jwr (jwr ((h : Int) * 10) + n) = 10 * h + n := by rw [jwr_id (z := (h : Int) * 10) (by omega) (by omega), jwr_id (by omega) (by omega)]; omega
          have step : ∀ s0 : Int, (s0 = if (0 : Int) < n then M1 21 8 ((n : Int) - 1) else 0) → jWP 0 171 52 [some (.inr (21, 0)), some (.inl (h : Int)), some (.inl (n : Int)), none] [.inl s0] M2 Q := by
            intro s0 hs
            have hwv : M2 21 7 (10 * h + n) = M 21 7 (10 * h + n) := by rw [k2 _ (by omega) (by omega), if_neg (by omega)]
            have hb := hW (10 * h + n) (by omega) (by omega)
            have hs0 : 0 ≤ s0 ∧ s0 ≤ 1000000 := by
              rw [hs]
              by_cases q : (0 : Int) < n
              · rw [if_pos q]; exact bnd _ (by omega) (by omega)
              · rw [if_neg q]; omega
            have ev : M2 21 8 n = M1 21 8 n := by rw [k1 n (by omega) (by omega), if_pos (by omega)]
            refine fX7_heaviestOrder_52 ?_
            rw [w, hwv, jwr_id (z := s0 + M 21 7 (10 * h + n)) (by omega) (by omega), jwr_id (z := (n : Int) + -1) (by omega) (by omega), show (n : Int) + -1 = n - 1 by omega, ev]
            refine ⟨⟨by omega, by rw [jal_21_8]; omega⟩, ⟨by omega, by rw [jal_21_7]; omega⟩, ⟨by omega, by rw [jal_21_8]; omega⟩, ⟨by omega, by rw [jal_21_7]; omega⟩, ihn (by omega) _ (fun t t0 t1 => ?_) (fun c c0 c1 => ?_) (fun x y hxy => ?_)⟩
            · rw [jup_ne (by simp)]
              by_cases q : t = n
              · have a3 : (if t < (n : Int) then M1 21 8 t else hvN (M 21 7) (M1 21 8) h t) = hvN (M 21 7) (M1 21 8) h n := by rw [if_neg (by omega), q]
                rw [a3, q, jup_eq]
                show jmx (M1 21 8 n) (s0 + M 21 7 (10 * h + n)) = _
                rw [hs]
                rfl
              · rw [jup_ne (by simp [q]), k1 t t0 t1]
                by_cases q2 : t < n
                · rw [if_pos (by omega), if_pos q2]
                · rw [if_neg (by omega), if_neg q2]
            · by_cases q : c = 10 * h + n
              · rw [q, jup_eq, if_pos (by omega)]
              · rw [jup_ne (by simp [q]), jup_ne (by simp), k2 c c0 c1]
                by_cases q2 : c < 10 * (h : Int) ∨ (c < 10 * h + 10 ∧ 10 * h + ((n + 1 : Nat) : Int) ≤ c)
                · rw [if_pos q2, if_pos (by omega)]
                · rw [if_neg q2, if_neg (by omega)]
            · rw [jup_set, jset_ne (fun q => hxy ⟨q.1, Or.inl q.2⟩), jup_set, jset_ne (fun q => hxy ⟨q.1, Or.inr q.2⟩)]
              exact k3 x y hxy
          refine fX7_heaviestOrder_32 ⟨fun q => by exfalso; omega, fun _ => ⟨fun q => step 0 (by rw [if_neg (by omega)]), fun q => ?_⟩⟩
          rw [jwr_id (z := (n : Int) - 1) (by omega) (by omega)]
          refine ⟨by rw [jal_21_8]; omega, step _ ?_⟩
          rw [if_pos q, k1 _ (by omega) (by omega), if_pos (by omega)]
      have := down 10 (by omega) M1 (fun t t0 t1 => by rw [if_pos (by omega)]) (fun c c0 c1 => by
        rw [g2 c c0 c1]
        by_cases q : c < 10 * (h : Int)
        · rw [if_pos q, if_pos (Or.inl q)]
        · rw [if_neg q, if_neg (by omega)]) g3
      exact this
  -- the row is emptied first
  refine (show ∀ n, 0 ≤ n → n ≤ 10 → ∀ M1 : jM, (∀ t, 0 ≤ t → t < n → M1 21 8 t = 0) → (∀ x y, ¬ (x = 21 ∧ y = 8) → M1 x y = M x y) → jWP 0 171 2 [some (.inr (21, 0)), some (.inl n), none, none] [] M1 Q from ?_) 0 (by omega) (by omega) M (fun t t0 t1 => by omega) (fun _ _ _ => rfl)
  refine jloop (e := 10) (fun M1 g1 g2 => ?_) (fun n n0 n1 ih M1 g1 g2 => ?_)
  · refine fX7_heaviestOrder_2 ⟨fun _ => ?_, fun q => by exfalso; omega⟩
    refine outer 10 0 (by omega) M1 ⟨fun t t0 t1 => by rw [g1 t t0 t1]; omega, fun t t0 t1 => by rw [g1 t t0 (by omega), g1 (t + 1) (by omega) (by omega)]; omega, fun f hf t t0 t1 _ => by rw [g1 t t0 t1]; exact Int.le_refl _⟩ (fun c c0 c1 => ?_) (fun x y h => g2 x y (fun q => h ⟨q.1, Or.inr q.2⟩))
    rw [if_neg (by omega), g2 _ _ (by simp)]
  · refine fX7_heaviestOrder_2 ⟨fun q => by exfalso; omega, fun _ => ⟨⟨n0, by rw [jal_21_8]; exact n1⟩, ?_⟩⟩
    rw [jwr_id (by omega) (by omega)]
    refine ih _ (fun t t0 t1 => ?_) (fun x y h => by rw [jup_set, jset_ne h]; exact g2 x y h)
    by_cases q : t = n
    · rw [q, jup_eq]
    · rw [jup_ne (by simp [q])]; exact g1 t t0 (by omega)
