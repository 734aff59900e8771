/-! A SMALL MACHINE FOR THE WORLD BEHIND THE CONSTRUCTORS: cells (group, cell), ints as integers; each instruction's effect as a proposition; it follows the machine's own steps. -/
abbrev jV : Type := Int ⊕ (Int × Nat)
abbrev jM : Type := Int → Nat → Int → Int
def jI (z : Int) : Int32 := Int32.ofInt z
def jwr (z : Int) : Int := (Int32.ofInt z).toInt
def jCl (g : Int) : Nat := match g with
  | .ofNat n => jCls.getD n 99
  | .negSucc _ => 99
def jAr (g : Int) (k : Nat) : Nat × Nat := match (jTyp.getD (jCl g) []).find? (fun a => a.1 == k) with
  | some a => a.2
  | none => (0, 0)
/-- the length of an int array; 0 where there is none -/
def jal (g : Int) (k : Nat) : Int := match jAr g k with
  | (1, n) => (n : Int)
  | _ => 0
def jbl (g : Int) (k : Nat) : Int := match jAr g k with
  | (2, n) => (n : Int)
  | _ => 0
def jfc (g : Int) (s : Nat) : Int × Nat := match g with
  | .ofNat n => bif Nat.blt n 18 then (g, s + 1) else (jFx.getD (n - 18) []).getD s (0, 0)
  | .negSucc _ => (0, 0)
def jup (M : jM) (g : Int) (k : Nat) (j v : Int) : jM := fun a b c => if a = g ∧ b = k ∧ c = j then v else M a b c
def jcp (M : jM) (g : Int) (k : Nat) (sp : Int) (g' : Int) (k' : Nat) (dp n : Int) : jM := fun a b c => if a = g' ∧ b = k' ∧ dp ≤ c ∧ c < dp + n then M g k (sp + (c - dp)) else M a b c
def jiand (a b : Int) : Int := (jI a &&& jI b).toInt
def jior (a b : Int) : Int := (jI a ||| jI b).toInt
def jixor (a b : Int) : Int := (jI a ^^^ jI b).toInt
def jishl (a b : Int) : Int := (jI a <<< (jI b &&& 31)).toInt
def jishr (a b : Int) : Int := (jI a >>> (jI b &&& 31)).toInt
def jiushr (a b : Int) : Int := ((jI a).toUInt32 >>> ((jI b).toUInt32 &&& Int32.toUInt32 31)).toInt32.toInt
def jct (c : Jvm.ClassFile.Cond) (a b : Int) : Prop := match c with
  | .eq => a = b
  | .ne => ¬ a = b
  | .lt => a < b
  | .ge => b ≤ a
  | .gt => b < a
  | .le => a ≤ b
def jcf (c : Jvm.ClassFile.Cond) (a b : Int) : Prop := match c with
  | .eq => ¬ a = b
  | .ne => a = b
  | .lt => b ≤ a
  | .ge => a < b
  | .gt => a ≤ b
  | .le => b < a
def jtg (pc : Nat) (off : Int) : Nat := ((pc : Int) + off).toNat
abbrev jK : Type := Nat → List (Option jV) → List jV → jM → Prop
def jld (ls : List (Option jV)) (i : Nat) (K : jV → Prop) : Prop := match ls.getD i none with
  | some v => K v
  | none => False
def jldi (ls : List (Option jV)) (i : Nat) (K : Int → Prop) : Prop := match ls.getD i none with
  | some (.inl z) => K z
  | _ => False
def jldr (ls : List (Option jV)) (i : Nat) (K : Int → Nat → Prop) : Prop := match ls.getD i none with
  | some (.inr q) => K q.1 q.2
  | _ => False
def jsw (z lo : Int) : List Int → (Int → Prop) → Prop
  | [], _ => True
  | o :: os, K => (z = lo → K o) ∧ jsw z (lo + 1) os K
def jb2 (st : List jV) (K : Int → Int → List jV → Prop) : Prop := match st with
  | .inl b :: .inl a :: r => K a b r
  | _ => False
def jb1 (st : List jV) (K : Int → List jV → Prop) : Prop := match st with
  | .inl a :: r => K a r
  | _ => False
def jbr (st : List jV) (K : Int → Nat → List jV → Prop) : Prop := match st with
  | .inr q :: r => K q.1 q.2 r
  | _ => False
/-- the receiver of a call is an object of the class -/
def jrc (cz : Nat) (as : List jV) (P : Prop) : Prop := match as with
  | .inr q :: _ => bif q.2 == 0 then (bif cz == 4 then (0 ≤ q.1 ∧ q.1 < 18) ∧ P else bif jCl q.1 == cz then P else False) else False
  | _ => False
/-- one instruction; C: the calls -/
def jst (C : Nat → List jV → jM → (Int → jM → Prop) → Prop) (Q : Int → jM → Prop) (o : jO) (pc : Nat) (ls : List (Option jV)) (st : List jV) (M : jM) (K : jK) : Prop :=
  match o.1 with
  | .iconst z => K (pc + 1) ls (.inl z :: st) M
  | .bipush z => K (pc + 2) ls (.inl z :: st) M
  | .sipush z => K (pc + 3) ls (.inl z :: st) M
  | .ldc_w _ => K (pc + 3) ls (.inl (o.2.2.1 : Int) :: st) M
  | .iload i => jldi ls i fun z => K (pc + 2) ls (.inl z :: st) M
  | .iload_n i => jldi ls i.val fun z => K (pc + 1) ls (.inl z :: st) M
  | .aload i => jldr ls i fun g k => K (pc + 2) ls (.inr (g, k) :: st) M
  | .aload_n i => jldr ls i.val fun g k => K (pc + 1) ls (.inr (g, k) :: st) M
  | .istore i => jb1 st fun z r => K (pc + 2) (ls.set i (some (.inl z))) r M
  | .istore_n i => jb1 st fun z r => K (pc + 1) (ls.set i.val (some (.inl z))) r M
  | .astore i => jbr st fun g k r => K (pc + 2) (ls.set i (some (.inr (g, k)))) r M
  | .astore_n i => jbr st fun g k r => K (pc + 1) (ls.set i.val (some (.inr (g, k)))) r M
  | .iinc i c => jldi ls i fun z => K (pc + 3) (ls.set i (some (.inl (jwr (z + c))))) st M
  | .iadd => jb2 st fun a b r => K (pc + 1) ls (.inl (jwr (a + b)) :: r) M
  | .isub => jb2 st fun a b r => K (pc + 1) ls (.inl (jwr (a - b)) :: r) M
  | .imul => jb2 st fun a b r => K (pc + 1) ls (.inl (jwr (a * b)) :: r) M
  | .idiv => jb2 st fun a b r => ¬ b = 0 ∧ K (pc + 1) ls (.inl (jwr (a.tdiv b)) :: r) M
  | .irem => jb2 st fun a b r => ¬ b = 0 ∧ K (pc + 1) ls (.inl (jwr (a - a.tdiv b * b)) :: r) M
  | .ineg => jb1 st fun a r => K (pc + 1) ls (.inl (jwr (-a)) :: r) M
  | .iand => jb2 st fun a b r => K (pc + 1) ls (.inl (jiand a b) :: r) M
  | .ior => jb2 st fun a b r => K (pc + 1) ls (.inl (jior a b) :: r) M
  | .ixor => jb2 st fun a b r => K (pc + 1) ls (.inl (jixor a b) :: r) M
  | .ishl => jb2 st fun a b r => K (pc + 1) ls (.inl (jishl a b) :: r) M
  | .ishr => jb2 st fun a b r => K (pc + 1) ls (.inl (jishr a b) :: r) M
  | .iushr => jb2 st fun a b r => K (pc + 1) ls (.inl (jiushr a b) :: r) M
  | .if_icmp c off => jb2 st fun a b r => (jct c a b → K (jtg pc off) ls r M) ∧ (jcf c a b → K (pc + 3) ls r M)
  | .ifCond c off => jb1 st fun a r => (jct c a 0 → K (jtg pc off) ls r M) ∧ (jcf c a 0 → K (pc + 3) ls r M)
  | .goto off => K (jtg pc off) ls st M
  | .tableswitch dflt lo hi offs => jb1 st fun z r => ((z < lo ∨ hi < z) → K (jtg pc dflt) ls r M) ∧ jsw z lo offs.toList (fun off => K (jtg pc off) ls r M)
  | .dup => match st with
    | v :: r => K (pc + 1) ls (v :: v :: r) M
    | _ => False
  | .dup2 => match st with
    | v :: w :: r => K (pc + 1) ls (v :: w :: v :: w :: r) M
    | _ => False
  | .pop => match st with
    | _ :: r => K (pc + 1) ls r M
    | _ => False
  | .getfield _ => jbr st fun g k r => bif k == 0 then
      (bif o.2.2.1 == 4 then
        (bif o.2.2.2.2.1 == 1 then (0 ≤ g ∧ g < 18) ∧ K (pc + 3) ls (.inr (g, o.2.2.2.1 + 1) :: r) M else (0 ≤ g ∧ g < 18) ∧ K (pc + 3) ls (.inl (M g 0 o.2.2.2.1) :: r) M)
      else (bif jCl g == o.2.2.1 then
        (bif o.2.2.2.2.1 == 1 then K (pc + 3) ls (.inr (jfc g o.2.2.2.1) :: r) M
         else bif o.2.2.2.2.1 == 3 then K (pc + 3) ls (.inr (M g 0 o.2.2.2.1, 0) :: r) M
         else K (pc + 3) ls (.inl (M g 0 o.2.2.2.1) :: r) M) else False)) else False
  | .putfield _ => match st with
    | .inl z :: .inr q :: r => bif q.2 == 0 then
      (bif o.2.2.1 == 4 then (bif o.2.2.2.2.1 == 0 then (0 ≤ q.1 ∧ q.1 < 18) ∧ K (pc + 3) ls r (jup M q.1 0 o.2.2.2.1 z) else False)
       else bif jCl q.1 == o.2.2.1 then
        (bif o.2.2.2.2.1 == 0 then K (pc + 3) ls r (jup M q.1 0 o.2.2.2.1 z)
         else bif o.2.2.2.2.1 == 4 then (z = 0 ∨ z = 1) ∧ K (pc + 3) ls r (jup M q.1 0 o.2.2.2.1 z) else False) else False) else False
    | .inr p :: .inr q :: r => bif (q.2 == 0 && p.2 == 0) && (jCl q.1 == o.2.2.1 && o.2.2.2.2.1 == 3) then (0 ≤ p.1 ∧ p.1 < 18) ∧ K (pc + 3) ls r (jup M q.1 0 o.2.2.2.1 p.1) else False
    | _ => False
  | .iaload => match st with
    | .inl i :: .inr q :: r => (0 ≤ i ∧ i < jal q.1 q.2) ∧ K (pc + 1) ls (.inl (M q.1 q.2 i) :: r) M
    | _ => False
  | .iastore => match st with
    | .inl z :: .inl i :: .inr q :: r => (0 ≤ i ∧ i < jal q.1 q.2) ∧ K (pc + 1) ls r (jup M q.1 q.2 i z)
    | _ => False
  | .baload => match st with
    | .inl i :: .inr q :: r => (0 ≤ i ∧ i < jbl q.1 q.2) ∧ K (pc + 1) ls (.inl (M q.1 q.2 i) :: r) M
    | _ => False
  | .bastore => match st with
    | .inl z :: .inl i :: .inr q :: r => (0 ≤ i ∧ i < jbl q.1 q.2) ∧ (z = 0 ∨ z = 1) ∧ K (pc + 1) ls r (jup M q.1 q.2 i z)
    | _ => False
  | .aaload => match st with
    | .inl i :: .inr q :: r => bif decide (q = (18, 2)) then (0 ≤ i ∧ i < 12) ∧ K (pc + 1) ls (.inr (i, 0) :: r) M else False
    | _ => False
  | .arraylength => jbr st fun g k r => 0 < jal g k ∧ K (pc + 1) ls (.inl (jal g k) :: r) M
  | .invokevirtual _ => bif Nat.ble o.2.2.2.1 st.length && Nat.ble (st.drop o.2.2.2.1).length 8 then
      jrc (jh o.2.2.1).2.2 (st.take o.2.2.2.1).reverse (bif o.2.2.2.2.1 == 1 then C o.2.2.1 (st.take o.2.2.2.1).reverse M (fun _ M' => K (pc + 3) ls (st.drop o.2.2.2.1) M')
       else bif o.2.2.2.2.1 == 0 then C o.2.2.1 (st.take o.2.2.2.1).reverse M (fun r M' => K (pc + 3) ls (.inl r :: st.drop o.2.2.2.1) M') else False) else False
  | .invokestatic _ => bif o.2.2.2.2.1 == 4 then jb2 st fun a b r => bif Nat.ble r.length 8 then K (pc + 3) ls (.inl (if a < b then b else a) :: r) M else False
      else bif o.2.2.2.2.1 == 5 then jb2 st fun a b r => bif Nat.ble r.length 8 then K (pc + 3) ls (.inl (if b < a then b else a) :: r) M else False
      else bif o.2.2.2.2.1 == 6 then (match st with
        | .inl n :: .inl dp :: .inr q' :: .inl sp :: .inr q :: r => bif Nat.ble r.length 8 then (0 ≤ sp ∧ 0 ≤ dp ∧ 0 < n ∧ sp + n ≤ jal q.1 q.2 ∧ dp + n ≤ jal q'.1 q'.2) ∧ K (pc + 3) ls r (jcp M q.1 q.2 sp q'.1 q'.2 dp n) else False
        | _ => False)
      else bif Nat.ble o.2.2.2.1 st.length && Nat.ble (st.drop o.2.2.2.1).length 8 then
      (bif o.2.2.2.2.1 == 3 then C o.2.2.1 (st.take o.2.2.2.1).reverse M (fun _ M' => K (pc + 3) ls (st.drop o.2.2.2.1) M')
       else bif o.2.2.2.2.1 == 2 then C o.2.2.1 (st.take o.2.2.2.1).reverse M (fun r M' => K (pc + 3) ls (.inl r :: st.drop o.2.2.2.1) M') else False) else False
  | .ireturn => match st with
    | [.inl z] => bif o.2.2.1 == 1 then (z = 0 ∨ z = 1) ∧ Q z M else Q z M
    | _ => False
  | .return_ => match st with
    | [] => Q 0 M
    | _ => False
  | _ => False
