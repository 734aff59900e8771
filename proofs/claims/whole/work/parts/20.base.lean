/-! plain rows of the small machine's world -/
theorem jal_19_1 : jal 19 1 = 16 := by decide +kernel
theorem jbl_19_2 : jbl 19 2 = 16 := by decide +kernel
theorem jal_19_3 : jal 19 3 = 16 := by decide +kernel
theorem jal_19_4 : jal 19 4 = 16 := by decide +kernel
theorem jal_20_6 : jal 20 6 = 6 := by decide +kernel
theorem jal_20_7 : jal 20 7 = 14 := by decide +kernel
theorem jal_20_8 : jal 20 8 = 14 := by decide +kernel
theorem jal_20_9 : jal 20 9 = 14 := by decide +kernel
theorem jal_20_10 : jal 20 10 = 14 := by decide +kernel
theorem jal_20_11 : jal 20 11 = 14 := by decide +kernel
theorem jal_20_12 : jal 20 12 = 14 := by decide +kernel
theorem jal_20_13 : jal 20 13 = 72 := by decide +kernel
theorem jal_20_14 : jal 20 14 = 3 := by decide +kernel
theorem jal_21_4 : jal 21 4 = 10 := by decide +kernel
theorem jal_21_5 : jal 21 5 = 10 := by decide +kernel
theorem jal_21_7 : jal 21 7 = 100 := by decide +kernel
theorem jal_21_8 : jal 21 8 = 10 := by decide +kernel
theorem jal_22_6 : jal 22 6 = 6 := by decide +kernel
theorem jal_22_11 : jal 22 11 = 6 := by decide +kernel
theorem jal_23_6 : jal 23 6 = 6 := by decide +kernel
theorem jal_23_7 : jal 23 7 = 14 := by decide +kernel
theorem jal_24_5 : jal 24 5 = 14 := by decide +kernel
theorem jal_24_6 : jal 24 6 = 14 := by decide +kernel
theorem jal_25_5 : jal 25 5 = 14 := by decide +kernel
theorem jal_25_6 : jal 25 6 = 14 := by decide +kernel
theorem jal_26_4 : jal 26 4 = 6 := by decide +kernel
theorem jal_26_5 : jal 26 5 = 14 := by decide +kernel
theorem jal_26_6 : jal 26 6 = 6 := by decide +kernel
theorem jal_26_7 : jal 26 7 = 14 := by decide +kernel
theorem jal_26_8 : jal 26 8 = 14 := by decide +kernel
theorem jal_26_9 : jal 26 9 = 3 := by decide +kernel
theorem jal_27_3 : jal 27 3 = 12 := by decide +kernel
theorem jal_28_1 : jal 28 1 = 16 := by decide +kernel
theorem jbl_28_2 : jbl 28 2 = 16 := by decide +kernel
theorem jal_28_3 : jal 28 3 = 16 := by decide +kernel
theorem jal_28_4 : jal 28 4 = 16 := by decide +kernel
theorem jal_28_6 : jal 28 6 = 15 := by decide +kernel
theorem jal_28_7 : jal 28 7 = 90 := by decide +kernel
theorem jal_28_8 : jal 28 8 = 15 := by decide +kernel
theorem jal_28_9 : jal 28 9 = 15 := by decide +kernel
theorem jal_28_10 : jal 28 10 = 1260 := by decide +kernel
theorem jal_28_11 : jal 28 11 = 6 := by decide +kernel
theorem jal_28_12 : jal 28 12 = 14 := by decide +kernel
theorem jal_28_14 : jal 28 14 = 6 := by decide +kernel
theorem jal_28_21 : jal 28 21 = 6 := by decide +kernel
theorem jal_28_22 : jal 28 22 = 14 := by decide +kernel
theorem jal_28_24 : jal 28 24 = 14 := by decide +kernel
theorem jal_28_25 : jal 28 25 = 14 := by decide +kernel
theorem jal_28_31 : jal 28 31 = 6 := by decide +kernel
theorem jal_28_32 : jal 28 32 = 14 := by decide +kernel
theorem jal_28_33 : jal 28 33 = 6 := by decide +kernel
theorem jal_28_34 : jal 28 34 = 14 := by decide +kernel
theorem jal_28_35 : jal 28 35 = 14 := by decide +kernel
theorem jal_28_36 : jal 28 36 = 14 := by decide +kernel
theorem jal_net {g : Int} (h : 0 ≤ g ∧ g < 18) : jal g 4 = 6 ∧ jal g 5 = 14 ∧ jal g 6 = 42 ∧ jal g 7 = 14 ∧ jal g 8 = 14 := by
  obtain ⟨n, rfl⟩ : ∃ n : Nat, g = n := ⟨g.toNat, by omega⟩
  have hn : n < 18 := by omega
  have : ∀ n : Nat, n < 18 → jal n 4 = 6 ∧ jal n 5 = 14 ∧ jal n 6 = 42 ∧ jal n 7 = 14 ∧ jal n 8 = 14 := by decide +kernel
  exact this n hn
theorem jal_n4 {g : Int} (h : 0 ≤ g ∧ g < 18) : jal g 4 = 6 := (jal_net h).1
theorem jal_n5 {g : Int} (h : 0 ≤ g ∧ g < 18) : jal g 5 = 14 := (jal_net h).2.1
theorem jal_n6 {g : Int} (h : 0 ≤ g ∧ g < 18) : jal g 6 = 42 := (jal_net h).2.2.1
theorem jal_n7 {g : Int} (h : 0 ≤ g ∧ g < 18) : jal g 7 = 14 := (jal_net h).2.2.2.1
theorem jal_n8 {g : Int} (h : 0 ≤ g ∧ g < 18) : jal g 8 = 14 := (jal_net h).2.2.2.2
theorem jstart {d y : Nat} {as : List jV} {M : jM} {Q : Int → jM → Prop} (hy : y < 182) (hlen : Nat.ble as.length (jmt y).2.2.1 = true) (h : jWP d y 0 (jini y as) [] M Q) : jCallP d y as M Q := jCallP_of (Nat.le_of_ble_eq_true hlen) (jh_plain hy) h
/-- a call whose answer and world are known -/
theorem jc {d d' z : Nat} {as : List jV} {M : jM} {r0 : Int} {M0 : jM} {K : Int → jM → Prop} (h : jCallP d' z as M (fun r M' => r = r0 ∧ M' = M0)) (hd : d' < d) (k : K r0 M0) : jCall d z as M K :=
  jCall.of h hd (fun r M' q => by obtain ⟨rfl, rfl⟩ := q; exact k)
/-- the same, for a call without an answer -/
theorem jcv {d d' z : Nat} {as : List jV} {M : jM} {M0 : jM} {K : Int → jM → Prop} (h : jCallP d' z as M (fun _ M' => M' = M0)) (hd : d' < d) (k : ∀ r, K r M0) : jCall d z as M K :=
  jCall.of h hd (fun r M' q => by subst q; exact k r)
theorem jcq {d d' z : Nat} {as : List jV} {M : jM} {P K : Int → jM → Prop} (h : jCallP d' z as M P) (hd : d' < d) (k : ∀ r M', P r M' → K r M') : jCall d z as M K := jCall.of h hd k
theorem jite_ne {p : Prop} [Decidable p] : (¬ (if p then (1 : Int) else 0) = 0) ↔ p := by by_cases h : p <;> simp [h]
theorem jite_eq {p : Prop} [Decidable p] : ((if p then (1 : Int) else 0) = 0) ↔ ¬ p := by by_cases h : p <;> simp [h]
theorem jite_01 {p : Prop} [Decidable p] : (if p then (1 : Int) else 0) = 0 ∨ (if p then (1 : Int) else 0) = 1 := by by_cases h : p <;> simp [h]
def jset (M : jM) (g : Int) (k : Nat) (f : Int → Int) : jM := fun a b => if a = g ∧ b = k then f else M a b
def jfu (f : Int → Int) (j v : Int) : Int → Int := fun c => if c = j then v else f c
theorem jup_set (M : jM) (g : Int) (k : Nat) (j v : Int) : jup M g k j v = jset M g k (jfu (M g k) j v) := by
  funext a b c
  unfold jup jset jfu
  by_cases h : a = g ∧ b = k
  · rw [if_pos h]
    by_cases hc : c = j
    · rw [if_pos ⟨h.1, h.2, hc⟩, if_pos hc]
    · rw [if_neg (fun q => hc q.2.2), if_neg hc, h.1, h.2]
  · rw [if_neg h, if_neg (fun q => h ⟨q.1, q.2.1⟩)]
theorem jset_eq (M : jM) (g : Int) (k : Nat) (f : Int → Int) : jset M g k f g k = f := by unfold jset; rw [if_pos ⟨rfl, rfl⟩]
theorem jset_ne {M : jM} {g a : Int} {k b : Nat} {f : Int → Int} (h : ¬ (a = g ∧ b = k)) : jset M g k f a b = M a b := by unfold jset; rw [if_neg h]
theorem jset_set (M : jM) (g : Int) (k : Nat) (f f' : Int → Int) : jset (jset M g k f) g k f' = jset M g k f' := by
  funext a b
  unfold jset
  by_cases h : a = g ∧ b = k
  · rw [if_pos h, if_pos h]
  · rw [if_neg h, if_neg h, if_neg h]
theorem jset_self (M : jM) (g : Int) (k : Nat) : jset M g k (M g k) = M := by
  funext a b
  unfold jset
  by_cases h : a = g ∧ b = k
  · rw [if_pos h, h.1, h.2]
  · rw [if_neg h]
theorem jfu_eq (f : Int → Int) (j v : Int) : jfu f j v j = v := by unfold jfu; rw [if_pos rfl]
theorem jfu_ne {f : Int → Int} {j v c : Int} (h : ¬ c = j) : jfu f j v c = f c := by unfold jfu; rw [if_neg h]
theorem jup_eq (M : jM) (g : Int) (k : Nat) (j v : Int) : jup M g k j v g k j = v := by unfold jup; rw [if_pos ⟨rfl, rfl, rfl⟩]
theorem jup_ne {M : jM} {g a : Int} {k b : Nat} {j v c : Int} (h : ¬ (a = g ∧ b = k ∧ c = j)) : jup M g k j v a b c = M a b c := by unfold jup; rw [if_neg h]
/-- a loop that counts up to e -/
theorem jloop {P : Int → Prop} {e : Int} (hx : P e) (hs : ∀ i, 0 ≤ i → i < e → P (i + 1) → P i) : ∀ i, 0 ≤ i → i ≤ e → P i := by
  intro i h0 h1
  obtain ⟨n, hn⟩ : ∃ n : Nat, (n : Int) = e - i := ⟨(e - i).toNat, by omega⟩
  induction n generalizing i with
  | zero => rw [show i = e by omega]; exact hx
  | succ n ih => exact hs i h0 (by omega) (ih (i + 1) (by omega) (by omega) (by omega))
/-! small helpers without loops -/
theorem c_isKind (M : jM) (v : Int) : jCallP 0 29 [.inl v] M (fun r M' => r = (if 0 ≤ v ∧ v < 16 then 1 else 0) ∧ M' = M) := by
  refine jstart (by decide) rfl (fX9_isKind_0 ?_)
  by_cases h : 0 ≤ v ∧ v < 16
  · simp only [if_pos h]
    repeat' (first | intro _ | apply And.intro)
    all_goals first | rfl | trivial | omega | simp
  · simp only [if_neg h]
    repeat' (first | intro _ | apply And.intro)
    all_goals first | rfl | trivial | omega | simp
theorem c_isTale (M : jM) (v : Int) : jCallP 0 30 [.inl v] M (fun r M' => r = (if 0 ≤ v ∧ v < 12 then 1 else 0) ∧ M' = M) := by
  refine jstart (by decide) rfl (fX9_isTale_0 ?_)
  by_cases h : 0 ≤ v ∧ v < 12
  · simp only [if_pos h]
    repeat' (first | intro _ | apply And.intro)
    all_goals first | rfl | trivial | omega | simp
  · simp only [if_neg h]
    repeat' (first | intro _ | apply And.intro)
    all_goals first | rfl | trivial | omega | simp
theorem c_isLevel (M : jM) (v : Int) : jCallP 0 31 [.inl v] M (fun r M' => r = (if 0 ≤ v ∧ v < 3 then 1 else 0) ∧ M' = M) := by
  refine jstart (by decide) rfl (fX9_isLevel_0 ?_)
  by_cases h : 0 ≤ v ∧ v < 3
  · simp only [if_pos h]
    repeat' (first | intro _ | apply And.intro)
    all_goals first | rfl | trivial | omega | simp
  · simp only [if_neg h]
    repeat' (first | intro _ | apply And.intro)
    all_goals first | rfl | trivial | omega | simp
theorem c_isDigit (M : jM) (v : Int) : jCallP 0 32 [.inl v] M (fun r M' => r = (if 0 ≤ v ∧ v < 10 then 1 else 0) ∧ M' = M) := by
  refine jstart (by decide) rfl (fX9_isDigit_0 ?_)
  by_cases h : 0 ≤ v ∧ v < 10
  · simp only [if_pos h]
    repeat' (first | intro _ | apply And.intro)
    all_goals first | rfl | trivial | omega | simp
  · simp only [if_neg h]
    repeat' (first | intro _ | apply And.intro)
    all_goals first | rfl | trivial | omega | simp
theorem c_orNone (M : jM) (v : Int) : jCallP 0 33 [.inl v] M (fun r M' => r = (if v < 0 then -6 else v) ∧ M' = M) := by
  refine jstart (by decide) rfl (fX9_orNone_0 ?_)
  by_cases h : v < 0
  · simp only [if_pos h]
    repeat' (first | intro _ | apply And.intro)
    all_goals first | rfl | trivial | omega | simp
  · simp only [if_neg h]
    repeat' (first | intro _ | apply And.intro)
    all_goals first | rfl | trivial | omega | simp
theorem c_refusedLikeness (M : jM) (a b l : Int) : jCallP 1 34 [.inl a, .inl b, .inl l] M (fun r M' => r = (if (0 ≤ a ∧ a < 12) ∧ (0 ≤ b ∧ b < 12) then (if 0 ≤ l ∧ l < 3 then 0 else -2) else -1) ∧ M' = M) := by
  refine jstart (by decide) rfl (fX9_refusedLikeness_0 ?_)
  refine jc (c_isTale M a) (by decide) ?_
  refine ⟨fun q => ⟨by rw [if_neg (fun q2 => jite_eq.mp q q2.1)], rfl⟩, fun q => ?_⟩
  have ha := jite_ne.mp q
  refine jc (c_isTale M b) (by decide) ?_
  refine ⟨fun q => ?_, fun q => ⟨by rw [if_neg (fun q2 => jite_eq.mp q q2.2)], rfl⟩⟩
  have hb := jite_ne.mp q
  refine jc (c_isLevel M l) (by decide) ?_
  exact ⟨fun q => ⟨by rw [if_pos ⟨ha, hb⟩, if_neg (jite_eq.mp q)], rfl⟩, fun q => ⟨by rw [if_pos ⟨ha, hb⟩, if_pos (jite_ne.mp q)], rfl⟩⟩
