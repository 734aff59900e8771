/-! a stretch of a method at once: up to the next places where it is cut -/
def jlk (pc : Nat) : List (Nat × jO) → jO
  | [] => (.nop, 1, 0, 0, 0, 0)
  | q :: r => bif Nat.beq q.1 pc then q.2 else jlk pc r
def jct_at (pc : Nat) : List (Nat × List Nat) → Option (List Nat)
  | [] => none
  | q :: r => bif Nat.beq q.1 pc then some q.2 else jct_at pc r
def jfg : List Nat → List (Option jV) → List (Option jV)
  | [], ls => ls
  | i :: is, ls => jfg is (ls.set i none)
def jrun (d y : Nat) (cd : List (Nat × jO)) (cut : List (Nat × List Nat)) (Q : Int → jM → Prop) : Nat → jK
  | 0, pc, ls, st, M => jWP d y pc ls st M Q
  | n + 1, pc, ls, st, M => match jct_at pc cut with
    | some ds => jWP d y pc (jfg ds ls) st M Q
    | none => jst (jCall d) Q (jlk pc cd) pc ls st M (jrun d y cd cut Q n)
theorem jlk_mem {pc : Nat} : ∀ {cd : List (Nat × jO)}, (pc, jlk pc cd) ∈ cd ∨ jlk pc cd = (.nop, 1, 0, 0, 0, 0)
  | [] => Or.inr rfl
  | q :: r => by
    unfold jlk
    cases h : Nat.beq q.1 pc with
    | true =>
      refine Or.inl ?_
      have := Nat.eq_of_beq_eq_true h
      subst this
      exact List.mem_cons_self
    | false =>
      rcases jlk_mem (pc := pc) (cd := r) with h | h
      · exact Or.inl (List.mem_cons_of_mem _ h)
      · exact Or.inr h
theorem jWP.forget {d y pc : Nat} {st : List jV} {M : jM} {Q : Int → jM → Prop} : ∀ {ds : List Nat} {ls : List (Option jV)}, jWP d y pc (jfg ds ls) st M Q → jWP d y pc ls st M Q
  | [], _, h => h
  | i :: is, ls, h => by
    have h1 : jWP d y pc (ls.set i none) st M Q := jWP.forget (ds := is) h
    intro Q' hQ p l e s m args below meth c cI cZ cN D ad H locs lsA hC hW hL hSt
    refine h1 Q' hQ p l e s m args below meth c cI cZ cN D ad H locs lsA hC hW ⟨by rw [List.length_set]; exact hL.1, hL.2.1, hL.2.2.1, fun j v hj => hL.2.2.2 j v ?_⟩ hSt
    rw [List.getD_eq_getElem?_getD, List.getElem?_set] at hj
    split at hj
    · split at hj <;> cases hj
    · rw [List.getD_eq_getElem?_getD]
      exact hj
theorem jrun_ok {d y : Nat} {cd : List (Nat × jO)} {cut : List (Nat × List Nat)} {Q : Int → jM → Prop} (hyl : y < 182) (hc : cd.all (fun q => jck y q.1 q.2) = true) : ∀ (n pc : Nat) (ls : List (Option jV)) (st : List jV) (M : jM), jrun d y cd cut Q n pc ls st M → jWP d y pc ls st M Q := by
  intro n
  induction n with
  | zero => intro pc ls st M h; exact h
  | succ n ih =>
    intro pc ls st M h
    unfold jrun at h
    split at h
    · exact jWP.forget h
    · rcases jlk_mem (pc := pc) (cd := cd) with hm | hm
      · have hk9 : jck y pc (jlk pc cd) = true := by
          have := List.all_eq_true.mp hc _ hm
          exact this
        exact jstep (o := jlk pc cd) (K := jrun d y cd cut Q n) (Q := Q) hyl ih hk9 h
      · rw [hm] at h
        exact h.elim
theorem jreg {d y : Nat} {cd : List (Nat × jO)} (cut : List (Nat × List Nat)) (n : Nat) {Q : Int → jM → Prop} (hyl : y < 182) (hc : cd.all (fun q => jck y q.1 q.2) = true) {pc : Nat} {ls : List (Option jV)} {st : List jV} {M : jM}
    (h : jst (jCall d) Q (jlk pc cd) pc ls st M (jrun d y cd cut Q n)) : jWP d y pc ls st M Q := by
  rcases jlk_mem (pc := pc) (cd := cd) with hm | hm
  · have hk9 : jck y pc (jlk pc cd) = true := by
      have := List.all_eq_true.mp hc _ hm
      exact this
    exact jstep (o := jlk pc cd) (K := jrun d y cd cut Q n) (Q := Q) hyl (jrun_ok hyl hc n) hk9 h
  · rw [hm] at h
    exact h.elim
