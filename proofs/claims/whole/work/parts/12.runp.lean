/-! the small machine goes with what comes behind -/
theorem jb2_mono {st : List jV} {K K' : Int → Int → List jV → Prop} (hK : ∀ a b r, K a b r → K' a b r) (h : jb2 st K) : jb2 st K' := by
  unfold jb2 at h ⊢
  split at h
  · exact hK _ _ _ h
  · exact h.elim
theorem jb1_mono {st : List jV} {K K' : Int → List jV → Prop} (hK : ∀ a r, K a r → K' a r) (h : jb1 st K) : jb1 st K' := by
  unfold jb1 at h ⊢
  split at h
  · exact hK _ _ h
  · exact h.elim
theorem jbr_mono {st : List jV} {K K' : Int → Nat → List jV → Prop} (hK : ∀ a b r, K a b r → K' a b r) (h : jbr st K) : jbr st K' := by
  unfold jbr at h ⊢
  split at h
  · exact hK _ _ _ h
  · exact h.elim
theorem jldi_mono {ls : List (Option jV)} {i : Nat} {K K' : Int → Prop} (hK : ∀ z, K z → K' z) (h : jldi ls i K) : jldi ls i K' := by
  unfold jldi at h ⊢
  split at h
  · exact hK _ h
  · exact h.elim
theorem jldr_mono {ls : List (Option jV)} {i : Nat} {K K' : Int → Nat → Prop} (hK : ∀ g k, K g k → K' g k) (h : jldr ls i K) : jldr ls i K' := by
  unfold jldr at h ⊢
  split at h
  · exact hK _ _ h
  · exact h.elim
theorem jsw_mono {z : Int} {K K' : Int → Prop} (hK : ∀ o, K o → K' o) : ∀ {os : List Int} {lo : Int}, jsw z lo os K → jsw z lo os K'
  | [], _, h => h
  | _ :: _, _, h => ⟨fun q => hK _ (h.1 q), jsw_mono hK h.2⟩
theorem jCall_mono {d z : Nat} {as : List jV} {M : jM} {Q Q2 : Int → jM → Prop} (hq : ∀ r M', Q r M' → Q2 r M') (h : jCall d z as M Q) : jCall d z as M Q2 := by
  obtain ⟨d', hd, h⟩ := h
  exact ⟨d', hd, h.mono hq⟩
theorem jrc_mono {cz : Nat} {as : List jV} {P P' : Prop} (hP : P → P') (h : jrc cz as P) : jrc cz as P' := by
  unfold jrc at h ⊢
  split at h
  · rename_i q r
    revert h
    generalize (q.2 == 0) = b0
    generalize (cz == 4) = b1
    generalize (jCl q.1 == cz) = b2
    cases b0 <;> cases b1 <;> cases b2 <;> intro h <;> first | exact h.elim | exact hP h | exact ⟨h.1, hP h.2⟩
  · exact h.elim
set_option maxHeartbeats 4000000 in
theorem jst_mono {d : Nat} {Q : Int → jM → Prop} {o : jO} {pc : Nat} {ls : List (Option jV)} {st : List jV} {M : jM} {K K' : jK} (hK : ∀ a b c e, K a b c e → K' a b c e) (h : jst (jCall d) Q o pc ls st M K) : jst (jCall d) Q o pc ls st M K' := by
  obtain ⟨ins, n, a1, a2, a3, a4⟩ := o
  cases ins
  case tableswitch dflt lo hi offs => exact jb1_mono (fun _ _ q => ⟨fun z => hK _ _ _ _ (q.1 z), jsw_mono (fun _ => hK _ _ _ _) q.2⟩) h
  case if_icmp cc off => exact jb2_mono (fun _ _ _ q => ⟨fun z => hK _ _ _ _ (q.1 z), fun z => hK _ _ _ _ (q.2 z)⟩) h
  case ifCond cc off => exact jb1_mono (fun _ _ q => ⟨fun z => hK _ _ _ _ (q.1 z), fun z => hK _ _ _ _ (q.2 z)⟩) h
  case idiv => exact jb2_mono (fun _ _ _ q => ⟨q.1, hK _ _ _ _ q.2⟩) h
  case irem => exact jb2_mono (fun _ _ _ q => ⟨q.1, hK _ _ _ _ q.2⟩) h
  case dup =>
    match st, h with
    | v :: r, h => exact hK _ _ _ _ h
  case dup2 =>
    match st, h with
    | v :: w :: r, h => exact hK _ _ _ _ h
  case pop =>
    match st, h with
    | v :: r, h => exact hK _ _ _ _ h
  case iaload =>
    match st, h with
    | .inl i :: .inr q :: r, h => exact ⟨h.1, hK _ _ _ _ h.2⟩
  case baload =>
    match st, h with
    | .inl i :: .inr q :: r, h => exact ⟨h.1, hK _ _ _ _ h.2⟩
  case iastore =>
    match st, h with
    | .inl z :: .inl i :: .inr q :: r, h => exact ⟨h.1, hK _ _ _ _ h.2⟩
  case bastore =>
    match st, h with
    | .inl z :: .inl i :: .inr q :: r, h => exact ⟨h.1, h.2.1, hK _ _ _ _ h.2.2⟩
  case aaload =>
    match st, h with
    | .inl i :: .inr q :: r, h =>
      have h : (bif decide (q = (18, 2)) then (0 ≤ i ∧ i < 12) ∧ K (pc + 1) ls (.inr (i, 0) :: r) M else False) := h
      show (bif decide (q = (18, 2)) then (0 ≤ i ∧ i < 12) ∧ K' (pc + 1) ls (.inr (i, 0) :: r) M else False)
      revert h
      generalize decide (q = (18, 2)) = b
      cases b <;> intro h
      · exact h.elim
      · exact ⟨h.1, hK _ _ _ _ h.2⟩
  case arraylength => exact jbr_mono (fun _ _ _ q => ⟨q.1, hK _ _ _ _ q.2⟩) h
  case getfield i =>
    refine jbr_mono (fun g k r q => ?_) h
    dsimp only at q ⊢
    revert q
    generalize (k == 0) = b0
    generalize (a1 == 4) = b1
    generalize (a3 == 1) = b2
    generalize (jCl g == a1) = b3
    generalize (a3 == 3) = b4
    cases b0 <;> cases b1 <;> cases b2 <;> cases b3 <;> cases b4 <;> intro q <;> first | exact q.elim | exact hK _ _ _ _ q | exact ⟨q.1, hK _ _ _ _ q.2⟩
  case putfield i =>
    match st, h with
    | .inl z :: .inr (g, k) :: r, h =>
      revert h
      dsimp only [jst]
      generalize (k == 0) = b0
      generalize (a1 == 4) = b1
      generalize (a3 == 0) = b2
      generalize (jCl g == a1) = b3
      generalize (a3 == 4) = b4
      cases b0 <;> cases b1 <;> cases b2 <;> cases b3 <;> cases b4 <;> intro q <;> first | exact q.elim | exact hK _ _ _ _ q | exact ⟨q.1, hK _ _ _ _ q.2⟩
    | .inr (g2, k2) :: .inr (g, k) :: r, h =>
      revert h
      dsimp only [jst]
      generalize ((k == 0 && k2 == 0) && (jCl g == a1 && a3 == 3)) = b0
      cases b0 <;> intro q
      · exact q.elim
      · exact ⟨q.1, hK _ _ _ _ q.2⟩
  case invokevirtual i =>
    revert h
    dsimp only [jst]
    generalize (Nat.ble a2 st.length && Nat.ble (st.drop a2).length 8) = b0
    generalize (a3 == 1) = b1
    generalize (a3 == 0) = b2
    cases b0 <;> cases b1 <;> cases b2 <;> intro q <;> first | exact q.elim | exact jrc_mono (fun q => q.elim) q | exact jrc_mono (fun q => jCall_mono (fun _ _ => hK _ _ _ _) q) q
  case invokestatic i =>
    revert h
    dsimp only [jst]
    generalize (Nat.ble a2 st.length && Nat.ble (st.drop a2).length 8) = b0
    generalize (a3 == 4) = b1
    generalize (a3 == 5) = b2
    generalize (a3 == 6) = b3
    generalize (a3 == 3) = b4
    generalize (a3 == 2) = b5
    cases b1
    · cases b2
      · cases b3
        · cases b0 <;> cases b4 <;> cases b5 <;> intro q <;> first | exact q.elim | exact jCall_mono (fun _ _ => hK _ _ _ _) q
        · intro q
          match st, q with
          | .inl n :: .inl dp :: .inr q' :: .inl sp :: .inr q0 :: r, q =>
            revert q
            dsimp only [cond_true, cond_false]
            generalize Nat.ble r.length 8 = b8
            cases b8 <;> intro q
            · exact q.elim
            · exact ⟨q.1, hK _ _ _ _ q.2⟩
      · intro q
        refine jb2_mono (fun a b r q => ?_) q
        revert q
        generalize Nat.ble r.length 8 = b8
        cases b8 <;> intro q
        · exact q.elim
        · exact hK _ _ _ _ q
    · intro q
      refine jb2_mono (fun a b r q => ?_) q
      revert q
      generalize Nat.ble r.length 8 = b8
      cases b8 <;> intro q
      · exact q.elim
      · exact hK _ _ _ _ q
  case ireturn => exact h
  case return_ => exact h
  all_goals first
    | exact h.elim
    | exact hK _ _ _ _ h
    | exact jldi_mono (fun _ => hK _ _ _ _) h
    | exact jldr_mono (fun _ _ => hK _ _ _ _) h
    | exact jb1_mono (fun _ _ => hK _ _ _ _) h
    | exact jbr_mono (fun _ _ _ => hK _ _ _ _) h
    | exact jb2_mono (fun _ _ _ => hK _ _ _ _) h
/-! a stretch of a method at once: up to the next places where it is cut -/
def jlk (pc : Nat) : List (Nat × jO) → jO
  | [] => (.nop, 1, 0, 0, 0, 0)
  | q :: r => bif Nat.beq q.1 pc then q.2 else jlk pc r
def jct_at (pc : Nat) : List (Nat × List Nat) → Option (List Nat)
  | [] => none
  | q :: r => bif Nat.beq q.1 pc then some q.2 else jct_at pc r
def jfg : List Nat → List (Option jV) → List (Option jV)
  | [], ls => ls
  | i :: is, ls => jfg is (ls.set i none)
def jrun (d y : Nat) (cd : List (Nat × jO)) (cut : List (Nat × List Nat)) (Q : Int → jM → Prop) : Nat → jK
  | 0, pc, ls, st, M => jWP d y pc ls st M Q
  | n + 1, pc, ls, st, M => match jct_at pc cut with
    | some ds => jWP d y pc (jfg ds ls) st M Q
    | none => jst (jCall d) Q (jlk pc cd) pc ls st M (jrun d y cd cut Q n)
theorem jlk_mem {pc : Nat} : ∀ {cd : List (Nat × jO)}, (pc, jlk pc cd) ∈ cd ∨ jlk pc cd = (.nop, 1, 0, 0, 0, 0)
  | [] => Or.inr rfl
  | q :: r => by
    unfold jlk
    cases h : Nat.beq q.1 pc with
    | true =>
      refine Or.inl ?_
      have := Nat.eq_of_beq_eq_true h
      subst this
      exact List.mem_cons_self
    | false =>
      rcases jlk_mem (pc := pc) (cd := r) with h | h
      · exact Or.inl (List.mem_cons_of_mem _ h)
      · exact Or.inr h
theorem jWP.forget {d y pc : Nat} {st : List jV} {M : jM} {Q : Int → jM → Prop} : ∀ {ds : List Nat} {ls : List (Option jV)}, jWP d y pc (jfg ds ls) st M Q → jWP d y pc ls st M Q
  | [], _, h => h
  | i :: is, ls, h => by
    have h1 : jWP d y pc (ls.set i none) st M Q := jWP.forget (ds := is) h
    intro Q' hQ p l e s m args below meth c cI cZ cN D ad H locs lsA hC hW hL hSt
    refine h1 Q' hQ p l e s m args below meth c cI cZ cN D ad H locs lsA hC hW ⟨by rw [List.length_set]; exact hL.1, hL.2.1, hL.2.2.1, fun j v hj => hL.2.2.2 j v ?_⟩ hSt
    rw [List.getD_eq_getElem?_getD, List.getElem?_set] at hj
    split at hj
    · split at hj <;> cases hj
    · rw [List.getD_eq_getElem?_getD]
      exact hj
theorem jrun_ok {d y : Nat} {cd : List (Nat × jO)} {cut : List (Nat × List Nat)} {Q : Int → jM → Prop} (hyl : y < 182) (hc : cd.all (fun q => jck y q.1 q.2) = true) : ∀ (n pc : Nat) (ls : List (Option jV)) (st : List jV) (M : jM), jrun d y cd cut Q n pc ls st M → jWP d y pc ls st M Q := by
  intro n
  induction n with
  | zero => intro pc ls st M h; exact h
  | succ n ih =>
    intro pc ls st M h
    unfold jrun at h
    split at h
    · exact jWP.forget h
    · rcases jlk_mem (pc := pc) (cd := cd) with hm | hm
      · refine jstep hyl (List.all_eq_true.mp hc _ hm) ?_
        rw [show (jrun d y cd cut Q n : jK) = fun pc' ls' st' M' => jrun d y cd cut Q n pc' ls' st' M' from rfl] at h
        exact jst_mono (fun pc' ls' st' M' hh => ih pc' ls' st' M' hh) h
      · rw [hm] at h
        exact h.elim
theorem jreg {d y : Nat} {cd : List (Nat × jO)} (cut : List (Nat × List Nat)) (n : Nat) {Q : Int → jM → Prop} (hyl : y < 182) (hc : cd.all (fun q => jck y q.1 q.2) = true) {pc : Nat} {ls : List (Option jV)} {st : List jV} {M : jM}
    (h : jst (jCall d) Q (jlk pc cd) pc ls st M (jrun d y cd cut Q n)) : jWP d y pc ls st M Q := by
  rcases jlk_mem (pc := pc) (cd := cd) with hm | hm
  · exact jstep hyl (List.all_eq_true.mp hc _ hm) (jst_mono (fun pc' ls' st' M' hh => jrun_ok hyl hc n pc' ls' st' M' hh) h)
  · rw [hm] at h
    exact h.elim
