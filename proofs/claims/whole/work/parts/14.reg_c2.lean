set_option maxRecDepth 100000 in
theorem fX9_isPeaceWithout_0 {d : Nat} {v1 : Int} {M : jM} {Q : Int → jM → Prop} (h :
    jWP d 38 2 [some (.inr (18, 0)), some (.inl v1), some (.inl 0)] [] M Q) :
    jWP d 38 0 [some (.inr (18, 0)), some (.inl v1), none] [] M Q :=
  jreg [(2, []), (69, [1])] 5 (by decide) ckX9_isPeaceWithout h
set_option maxRecDepth 100000 in
theorem fX9_isPeaceWithout_2 {d : Nat} {v1 : Int} {v2 : Int} {M : jM} {Q : Int → jM → Prop} (h :
    (0 ≤ (12 : Int) ∧ (12 : Int) < 18) ∧ ((M 12 0 0) ≤ v2 →
      jCall d 115 [.inr (20, 0)] M (fun r1 M1 =>
        jCall d 124 [.inr (25, 0)] M1 (fun _ M2 =>
          jWP d 38 69 [some (.inr (18, 0)), none, some (.inl 0)] [] M2 Q))) ∧
    (v2 < (M 12 0 0) →
      ((jiand (jishr v1 v2) 1) = (0 : Int) →
        (0 ≤ v2 ∧ v2 < jal 23 6) ∧ (0 ≤ v2 ∧ v2 < jal 20 6) ∧ jWP d 38 2 [some (.inr (18, 0)), some (.inl v1), some (.inl (jwr (v2 + 1)))] [] (jup M 20 6 v2 (M 23 6 v2)) Q) ∧
      (¬ (jiand (jishr v1 v2) 1) = (0 : Int) →
        (0 ≤ v2 ∧ v2 < jal 20 6) ∧ jWP d 38 2 [some (.inr (18, 0)), some (.inl v1), some (.inl (jwr (v2 + 1)))] [] (jup M 20 6 v2 (-1)) Q))) :
    jWP d 38 2 [some (.inr (18, 0)), some (.inl v1), some (.inl v2)] [] M Q :=
  jreg [(2, []), (69, [1])] 43 (by decide) ckX9_isPeaceWithout h
set_option maxRecDepth 100000 in
theorem fX9_isPeaceWithout_69 {d : Nat} {v2 : Int} {M : jM} {Q : Int → jM → Prop} (h :
    ((M 25 0 3) ≤ v2 →
      ((1 : Int) = 0 ∨ (1 : Int) = 1) ∧ Q 1 M) ∧
    (v2 < (M 25 0 3) →
      jCall d 129 [.inr (25, 0), .inl v2, .inr (13, 0), .inr (19, 0)] M (fun r1 M1 =>
        (r1 = (0 : Int) →
          jWP d 38 69 [some (.inr (18, 0)), none, some (.inl (jwr (v2 + 1)))] [] M1 Q) ∧
        (¬ r1 = (0 : Int) →
          ((0 : Int) = 0 ∨ (0 : Int) = 1) ∧ Q 0 M1)))) :
    jWP d 38 69 [some (.inr (18, 0)), none, some (.inl v2)] [] M Q :=
  jreg [(2, []), (69, [1])] 24 (by decide) ckX9_isPeaceWithout h
set_option maxRecDepth 100000 in
theorem fX0_take_0 {d : Nat} {g1 : Int} {g2 : Int} {v3 : Int} {v4 : Int} {v5 : Int} {M : jM} {Q : Int → jM → Prop} (h :
    (0 ≤ g1 ∧ g1 < 18) ∧ (0 ≤ g2 ∧ g2 < 18) ∧ jCall d 166 [.inr (21, 0), .inr (g1, 0), .inr (g2, 0), .inl v4] (jup (jup (jup M 20 0 1 g1) 20 0 2 g2) 20 0 3 v5) (fun _ M1 =>
      jWP d 111 30 [some (.inr (20, 0)), none, none, some (.inl v3), none, none, some (.inl 0)] [] M1 Q)) :
    jWP d 111 0 [some (.inr (20, 0)), some (.inr (g1, 0)), some (.inr (g2, 0)), some (.inl v3), some (.inl v4), some (.inl v5), none] [] M Q :=
  jreg [(30, [1, 2, 4, 5]), (58, [1, 2, 3, 4, 5]), (82, [1, 2, 3, 4, 5])] 20 (by decide) ckX0_take h
set_option maxRecDepth 100000 in
theorem fX0_take_30 {d : Nat} {v3 : Int} {v6 : Int} {M : jM} {Q : Int → jM → Prop} (h :
    (0 ≤ (M 20 0 1) ∧ (M 20 0 1) < 18) ∧ ((M (M 20 0 1) 0 1) ≤ v6 →
      jWP d 111 58 [some (.inr (20, 0)), none, none, none, none, none, some (.inl 0)] [] M Q) ∧
    (v6 < (M (M 20 0 1) 0 1) →
      jCall d 112 [.inr (20, 0), .inl v6, .inl v3] M (fun _ M1 =>
        jWP d 111 30 [some (.inr (20, 0)), none, none, some (.inl v3), none, none, some (.inl (jwr (v6 + 1)))] [] M1 Q))) :
    jWP d 111 30 [some (.inr (20, 0)), none, none, some (.inl v3), none, none, some (.inl v6)] [] M Q :=
  jreg [(30, [1, 2, 4, 5]), (58, [1, 2, 3, 4, 5]), (82, [1, 2, 3, 4, 5])] 17 (by decide) ckX0_take h
set_option maxRecDepth 100000 in
theorem fX0_take_58 {d : Nat} {v6 : Int} {M : jM} {Q : Int → jM → Prop} (h :
    ((72 : Int) ≤ v6 →
      jWP d 111 82 [some (.inr (20, 0)), none, none, none, none, none, some (.inl 0)] [] M Q) ∧
    (v6 < (72 : Int) →
      (0 ≤ v6 ∧ v6 < jal 20 13) ∧ jWP d 111 58 [some (.inr (20, 0)), none, none, none, none, none, some (.inl (jwr (v6 + 1)))] [] (jup M 20 13 v6 0) Q)) :
    jWP d 111 58 [some (.inr (20, 0)), none, none, none, none, none, some (.inl v6)] [] M Q :=
  jreg [(30, [1, 2, 4, 5]), (58, [1, 2, 3, 4, 5]), (82, [1, 2, 3, 4, 5])] 16 (by decide) ckX0_take h
set_option maxRecDepth 100000 in
theorem fX0_take_82 {d : Nat} {v6 : Int} {M : jM} {Q : Int → jM → Prop} (h :
    (0 ≤ (M 20 0 2) ∧ (M 20 0 2) < 18) ∧ ((M (M 20 0 2) 0 1) ≤ v6 →
      Q 0 M) ∧
    (v6 < (M (M 20 0 2) 0 1) →
      jCall d 113 [.inr (20, 0), .inl v6] M (fun _ M1 =>
        jWP d 111 82 [some (.inr (20, 0)), none, none, none, none, none, some (.inl (jwr (v6 + 1)))] [] M1 Q))) :
    jWP d 111 82 [some (.inr (20, 0)), none, none, none, none, none, some (.inl v6)] [] M Q :=
  jreg [(30, [1, 2, 4, 5]), (58, [1, 2, 3, 4, 5]), (82, [1, 2, 3, 4, 5])] 14 (by decide) ckX0_take h
set_option maxRecDepth 100000 in
theorem fX0_compareTie_0 {d : Nat} {v1 : Int} {v2 : Int} {M : jM} {Q : Int → jM → Prop} (h :
    (0 ≤ v1 ∧ v1 < jal 20 9) ∧ (0 ≤ v1 ∧ v1 < jal 20 10) ∧ (0 ≤ v1 ∧ v1 < jal 20 11) ∧ (0 ≤ v1 ∧ v1 < jal 20 12) ∧ jWP d 112 30 [some (.inr (20, 0)), some (.inl v1), some (.inl v2), some (.inl 0), none, none, none, none] [] (jup (jup (jup (jup M 20 9 v1 0) 20 10 v1 0) 20 11 v1 0) 20 12 v1 0) Q) :
    jWP d 112 0 [some (.inr (20, 0)), some (.inl v1), some (.inl v2), none, none, none, none, none] [] M Q :=
  jreg [(30, [4, 5, 6, 7]), (102, [5, 6, 7]), (155, [5, 7]), (176, [4, 5, 7]), (223, [4, 5, 7])] 25 (by decide) ckX0_compareTie h
set_option maxRecDepth 100000 in
theorem fX0_compareTie_30 {d : Nat} {v1 : Int} {v2 : Int} {v3 : Int} {M : jM} {Q : Int → jM → Prop} (h :
    (0 ≤ (M 20 0 2) ∧ (M 20 0 2) < 18) ∧ ((M (M 20 0 2) 0 1) ≤ v3 →
      Q 0 M) ∧
    (v3 < (M (M 20 0 2) 0 1) →
      (0 ≤ (M 20 0 1) ∧ (M 20 0 1) < 18) ∧ (0 ≤ v1 ∧ v1 < jal (M 20 0 1) 5) ∧ (0 ≤ (M 20 0 2) ∧ (M 20 0 2) < 18) ∧ (0 ≤ v3 ∧ v3 < jal (M 20 0 2) 5) ∧ jCall d 139 [.inr (19, 0), .inl (M (M 20 0 1) 5 v1), .inl (M (M 20 0 2) 5 v3)] M (fun r1 M1 =>
        (¬ (M1 20 0 3) = (2 : Int) →
          jWP d 112 102 [some (.inr (20, 0)), some (.inl v1), some (.inl v2), some (.inl v3), some (.inl r1), none, none, none] [.inl 1] M1 Q) ∧
        ((M1 20 0 3) = (2 : Int) →
          (0 ≤ (M1 20 0 1) ∧ (M1 20 0 1) < 18) ∧ (0 ≤ v1 ∧ v1 < jal (M1 20 0 1) 7) ∧ (0 ≤ (M1 20 0 2) ∧ (M1 20 0 2) < 18) ∧ (0 ≤ v3 ∧ v3 < jal (M1 20 0 2) 7) ∧ (¬ (M1 (M1 20 0 1) 7 v1) = (M1 (M1 20 0 2) 7 v3) →
            jWP d 112 102 [some (.inr (20, 0)), some (.inl v1), some (.inl v2), some (.inl v3), some (.inl r1), none, none, none] [.inl 0] M1 Q) ∧
          ((M1 (M1 20 0 1) 7 v1) = (M1 (M1 20 0 2) 7 v3) →
            jWP d 112 102 [some (.inr (20, 0)), some (.inl v1), some (.inl v2), some (.inl v3), some (.inl r1), none, none, none] [.inl 1] M1 Q))))) :
    jWP d 112 30 [some (.inr (20, 0)), some (.inl v1), some (.inl v2), some (.inl v3), none, none, none, none] [] M Q :=
  jreg [(30, [4, 5, 6, 7]), (102, [5, 6, 7]), (155, [5, 7]), (176, [4, 5, 7]), (223, [4, 5, 7])] 45 (by decide) ckX0_compareTie h
set_option maxRecDepth 100000 in
theorem fX0_compareTie_102 {d : Nat} {v1 : Int} {v2 : Int} {v3 : Int} {v4 : Int} {s0 : Int} {M : jM} {Q : Int → jM → Prop} (h :
    (s0 = (0 : Int) →
      jWP d 112 30 [some (.inr (20, 0)), some (.inl v1), some (.inl v2), some (.inl (jwr (v3 + 1))), none, none, none, none] [] M Q) ∧
    (¬ s0 = (0 : Int) →
      (v4 = (-1 : Int) →
        jWP d 112 30 [some (.inr (20, 0)), some (.inl v1), some (.inl v2), some (.inl (jwr (v3 + 1))), none, none, none, none] [] M Q) ∧
      (¬ v4 = (-1 : Int) →
        (v2 < v4 →
          jWP d 112 30 [some (.inr (20, 0)), some (.inl v1), some (.inl v2), some (.inl (jwr (v3 + 1))), none, none, none, none] [] M Q) ∧
        (v4 ≤ v2 →
          (0 ≤ v1 ∧ v1 < jal 20 9) ∧ (0 ≤ v1 ∧ v1 < jal 20 9) ∧ (0 ≤ v1 ∧ v1 < jal 20 11) ∧ (¬ v4 = (0 : Int) →
            jWP d 112 155 [some (.inr (20, 0)), some (.inl v1), some (.inl v2), some (.inl v3), some (.inl v4), none, some (.inl (jishl 1 v3)), none] [.inl 0, .inl ((jup M 20 9 v1 (jior (M 20 9 v1) (jishl 1 v3))) 20 11 v1), .inl v1, .inr (20, 11)] (jup M 20 9 v1 (jior (M 20 9 v1) (jishl 1 v3))) Q) ∧
          (v4 = (0 : Int) →
            jWP d 112 155 [some (.inr (20, 0)), some (.inl v1), some (.inl v2), some (.inl v3), some (.inl v4), none, some (.inl (jishl 1 v3)), none] [.inl (jishl 1 v3), .inl ((jup M 20 9 v1 (jior (M 20 9 v1) (jishl 1 v3))) 20 11 v1), .inl v1, .inr (20, 11)] (jup M 20 9 v1 (jior (M 20 9 v1) (jishl 1 v3))) Q))))) :
    jWP d 112 102 [some (.inr (20, 0)), some (.inl v1), some (.inl v2), some (.inl v3), some (.inl v4), none, none, none] [.inl s0] M Q :=
  jreg [(30, [4, 5, 6, 7]), (102, [5, 6, 7]), (155, [5, 7]), (176, [4, 5, 7]), (223, [4, 5, 7])] 44 (by decide) ckX0_compareTie h
set_option maxRecDepth 100000 in
theorem fX0_compareTie_155 {d : Nat} {v1 : Int} {v2 : Int} {v3 : Int} {v4 : Int} {v6 : Int} {s0 : Int} {s1 : Int} {s2 : Int} {M : jM} {Q : Int → jM → Prop} (h :
    (0 ≤ s2 ∧ s2 < jal 20 11) ∧ (0 ≤ v1 ∧ v1 < jal 20 12) ∧ ((1 : Int) < v4 →
      jWP d 112 176 [some (.inr (20, 0)), some (.inl v1), some (.inl v2), some (.inl v3), none, none, some (.inl v6), none] [.inl 0, .inl ((jup M 20 11 s2 (jior s1 s0)) 20 12 v1), .inl v1, .inr (20, 12)] (jup M 20 11 s2 (jior s1 s0)) Q) ∧
    (v4 ≤ (1 : Int) →
      jWP d 112 176 [some (.inr (20, 0)), some (.inl v1), some (.inl v2), some (.inl v3), none, none, some (.inl v6), none] [.inl v6, .inl ((jup M 20 11 s2 (jior s1 s0)) 20 12 v1), .inl v1, .inr (20, 12)] (jup M 20 11 s2 (jior s1 s0)) Q)) :
    jWP d 112 155 [some (.inr (20, 0)), some (.inl v1), some (.inl v2), some (.inl v3), some (.inl v4), none, some (.inl v6), none] [.inl s0, .inl s1, .inl s2, .inr (20, 11)] M Q :=
  jreg [(30, [4, 5, 6, 7]), (102, [5, 6, 7]), (155, [5, 7]), (176, [4, 5, 7]), (223, [4, 5, 7])] 17 (by decide) ckX0_compareTie h
set_option maxRecDepth 100000 in
theorem fX0_compareTie_176 {d : Nat} {v1 : Int} {v2 : Int} {v3 : Int} {v6 : Int} {s0 : Int} {s1 : Int} {s2 : Int} {M : jM} {Q : Int → jM → Prop} (h :
    (0 ≤ s2 ∧ s2 < jal 20 12) ∧ (0 ≤ ((jup M 20 12 s2 (jior s1 s0)) 20 0 1) ∧ ((jup M 20 12 s2 (jior s1 s0)) 20 0 1) < 18) ∧ (0 ≤ v1 ∧ v1 < jal ((jup M 20 12 s2 (jior s1 s0)) 20 0 1) 5) ∧ (0 ≤ ((jup M 20 12 s2 (jior s1 s0)) ((jup M 20 12 s2 (jior s1 s0)) 20 0 1) 5 v1) ∧ ((jup M 20 12 s2 (jior s1 s0)) ((jup M 20 12 s2 (jior s1 s0)) 20 0 1) 5 v1) < jbl 19 2) ∧ (((jup M 20 12 s2 (jior s1 s0)) 19 2 ((jup M 20 12 s2 (jior s1 s0)) ((jup M 20 12 s2 (jior s1 s0)) 20 0 1) 5 v1)) = (0 : Int) →
      jWP d 112 223 [some (.inr (20, 0)), some (.inl v1), some (.inl v2), some (.inl v3), none, none, some (.inl v6), none] [.inl 0] (jup M 20 12 s2 (jior s1 s0)) Q) ∧
    (¬ ((jup M 20 12 s2 (jior s1 s0)) 19 2 ((jup M 20 12 s2 (jior s1 s0)) ((jup M 20 12 s2 (jior s1 s0)) 20 0 1) 5 v1)) = (0 : Int) →
      (0 ≤ ((jup M 20 12 s2 (jior s1 s0)) 20 0 2) ∧ ((jup M 20 12 s2 (jior s1 s0)) 20 0 2) < 18) ∧ (0 ≤ v3 ∧ v3 < jal ((jup M 20 12 s2 (jior s1 s0)) 20 0 2) 5) ∧ (0 ≤ ((jup M 20 12 s2 (jior s1 s0)) ((jup M 20 12 s2 (jior s1 s0)) 20 0 2) 5 v3) ∧ ((jup M 20 12 s2 (jior s1 s0)) ((jup M 20 12 s2 (jior s1 s0)) 20 0 2) 5 v3) < jbl 19 2) ∧ (((jup M 20 12 s2 (jior s1 s0)) 19 2 ((jup M 20 12 s2 (jior s1 s0)) ((jup M 20 12 s2 (jior s1 s0)) 20 0 2) 5 v3)) = (0 : Int) →
        jWP d 112 223 [some (.inr (20, 0)), some (.inl v1), some (.inl v2), some (.inl v3), none, none, some (.inl v6), none] [.inl 0] (jup M 20 12 s2 (jior s1 s0)) Q) ∧
      (¬ ((jup M 20 12 s2 (jior s1 s0)) 19 2 ((jup M 20 12 s2 (jior s1 s0)) ((jup M 20 12 s2 (jior s1 s0)) 20 0 2) 5 v3)) = (0 : Int) →
        jWP d 112 223 [some (.inr (20, 0)), some (.inl v1), some (.inl v2), some (.inl v3), none, none, some (.inl v6), none] [.inl 1] (jup M 20 12 s2 (jior s1 s0)) Q))) :
    jWP d 112 176 [some (.inr (20, 0)), some (.inl v1), some (.inl v2), some (.inl v3), none, none, some (.inl v6), none] [.inl s0, .inl s1, .inl s2, .inr (20, 12)] M Q :=
  jreg [(30, [4, 5, 6, 7]), (102, [5, 6, 7]), (155, [5, 7]), (176, [4, 5, 7]), (223, [4, 5, 7])] 31 (by decide) ckX0_compareTie h
set_option maxRecDepth 100000 in
theorem fX0_compareTie_223 {d : Nat} {v1 : Int} {v2 : Int} {v3 : Int} {v6 : Int} {s0 : Int} {M : jM} {Q : Int → jM → Prop} (h :
    (0 ≤ v1 ∧ v1 < jal 20 10) ∧ (s0 = (0 : Int) →
      (0 ≤ v1 ∧ v1 < jal 20 10) ∧ jWP d 112 30 [some (.inr (20, 0)), some (.inl v1), some (.inl v2), some (.inl (jwr (v3 + 1))), none, none, none, none] [] (jup M 20 10 v1 (jior (M 20 10 v1) 0)) Q) ∧
    (¬ s0 = (0 : Int) →
      (0 ≤ v1 ∧ v1 < jal 20 10) ∧ jWP d 112 30 [some (.inr (20, 0)), some (.inl v1), some (.inl v2), some (.inl (jwr (v3 + 1))), none, none, none, none] [] (jup M 20 10 v1 (jior (M 20 10 v1) v6)) Q)) :
    jWP d 112 223 [some (.inr (20, 0)), some (.inl v1), some (.inl v2), some (.inl v3), none, none, some (.inl v6), none] [.inl s0] M Q :=
  jreg [(30, [4, 5, 6, 7]), (102, [5, 6, 7]), (155, [5, 7]), (176, [4, 5, 7]), (223, [4, 5, 7])] 23 (by decide) ckX0_compareTie h
set_option maxRecDepth 100000 in
theorem fX0_noteEnds_0 {d : Nat} {v1 : Int} {M : jM} {Q : Int → jM → Prop} (h :
    jWP d 113 2 [some (.inr (20, 0)), some (.inl v1), some (.inl 0), none] [] M Q) :
    jWP d 113 0 [some (.inr (20, 0)), some (.inl v1), none, none] [] M Q :=
  jreg [(2, [3])] 5 (by decide) ckX0_noteEnds h
set_option maxRecDepth 100000 in
theorem fX0_noteEnds_2 {d : Nat} {v1 : Int} {v2 : Int} {M : jM} {Q : Int → jM → Prop} (h :
    ((3 : Int) ≤ v2 →
      Q 0 M) ∧
    (v2 < (3 : Int) →
      (0 ≤ (M 20 0 2) ∧ (M 20 0 2) < 18) ∧ (0 ≤ (jwr ((jwr (v1 * 3)) + v2)) ∧ (jwr ((jwr (v1 * 3)) + v2)) < jal (M 20 0 2) 6) ∧ ((M (M 20 0 2) 6 (jwr ((jwr (v1 * 3)) + v2))) < (0 : Int) →
        jWP d 113 2 [some (.inr (20, 0)), some (.inl v1), some (.inl (jwr (v2 + 1))), none] [] M Q) ∧
      ((0 : Int) ≤ (M (M 20 0 2) 6 (jwr ((jwr (v1 * 3)) + v2))) →
        ((24 : Int) ≤ (M (M 20 0 2) 6 (jwr ((jwr (v1 * 3)) + v2))) →
          jWP d 113 2 [some (.inr (20, 0)), some (.inl v1), some (.inl (jwr (v2 + 1))), none] [] M Q) ∧
        ((M (M 20 0 2) 6 (jwr ((jwr (v1 * 3)) + v2))) < (24 : Int) →
          (0 ≤ (jwr ((jwr (v2 * 24)) + (M (M 20 0 2) 6 (jwr ((jwr (v1 * 3)) + v2))))) ∧ (jwr ((jwr (v2 * 24)) + (M (M 20 0 2) 6 (jwr ((jwr (v1 * 3)) + v2))))) < jal 20 13) ∧ (0 ≤ (jwr ((jwr (v2 * 24)) + (M (M 20 0 2) 6 (jwr ((jwr (v1 * 3)) + v2))))) ∧ (jwr ((jwr (v2 * 24)) + (M (M 20 0 2) 6 (jwr ((jwr (v1 * 3)) + v2))))) < jal 20 13) ∧ jWP d 113 2 [some (.inr (20, 0)), some (.inl v1), some (.inl (jwr (v2 + 1))), none] [] (jup M 20 13 (jwr ((jwr (v2 * 24)) + (M (M 20 0 2) 6 (jwr ((jwr (v1 * 3)) + v2))))) (jior (M 20 13 (jwr ((jwr (v2 * 24)) + (M (M 20 0 2) 6 (jwr ((jwr (v1 * 3)) + v2)))))) (jishl 1 v1))) Q)))) :
    jWP d 113 2 [some (.inr (20, 0)), some (.inl v1), some (.inl v2), none] [] M Q :=
  jreg [(2, [3])] 44 (by decide) ckX0_noteEnds h
set_option maxRecDepth 100000 in
theorem fX0_readDigits_0 {d : Nat} {v1 : Int} {M : jM} {Q : Int → jM → Prop} (h :
    (0 ≤ (M 20 0 1) ∧ (M 20 0 1) < 18) ∧ jWP d 114 15 [some (.inr (20, 0)), none, some (.inl v1), some (.inl 0), some (.inl (jwr ((M (M 20 0 1) 0 0) - 1))), none, none] [] M Q) :
    jWP d 114 0 [some (.inr (20, 0)), some (.inl v1), none, none, none, none, none] [] M Q :=
  jreg [(15, [1, 5, 6]), (61, [1, 6]), (78, [1, 6]), (97, [1, 6])] 13 (by decide) ckX0_readDigits h
set_option maxRecDepth 100000 in
theorem fX0_readDigits_15 {d : Nat} {v2 : Int} {v3 : Int} {v4 : Int} {M : jM} {Q : Int → jM → Prop} (h :
    (v4 < (0 : Int) →
      (¬ v2 = (0 : Int) →
        ((0 : Int) = 0 ∨ (0 : Int) = 1) ∧ Q 0 M) ∧
      (v2 = (0 : Int) →
        ((1 : Int) = 0 ∨ (1 : Int) = 1) ∧ Q 1 M)) ∧
    ((0 : Int) ≤ v4 →
      ¬ (10 : Int) = 0 ∧ ¬ (10 : Int) = 0 ∧ ((jwr (v2 - Int.tdiv v2 10 * 10)) < (0 : Int) →
        jWP d 114 61 [some (.inr (20, 0)), none, some (.inl (jwr (Int.tdiv v2 10))), some (.inl v3), some (.inl v4), some (.inl (jwr (v2 - Int.tdiv v2 10 * 10))), none] [] M Q) ∧
      ((0 : Int) ≤ (jwr (v2 - Int.tdiv v2 10 * 10)) →
        (0 ≤ (M 20 0 2) ∧ (M 20 0 2) < 18) ∧ ((M (M 20 0 2) 0 0) ≤ (jwr (v2 - Int.tdiv v2 10 * 10)) →
          jWP d 114 61 [some (.inr (20, 0)), none, some (.inl (jwr (Int.tdiv v2 10))), some (.inl v3), some (.inl v4), some (.inl (jwr (v2 - Int.tdiv v2 10 * 10))), none] [] M Q) ∧
        ((jwr (v2 - Int.tdiv v2 10 * 10)) < (M (M 20 0 2) 0 0) →
          (¬ (jiand (jishr v3 (jwr (v2 - Int.tdiv v2 10 * 10))) 1) = (0 : Int) →
            jWP d 114 61 [some (.inr (20, 0)), none, some (.inl (jwr (Int.tdiv v2 10))), some (.inl v3), some (.inl v4), some (.inl (jwr (v2 - Int.tdiv v2 10 * 10))), none] [] M Q) ∧
          ((jiand (jishr v3 (jwr (v2 - Int.tdiv v2 10 * 10))) 1) = (0 : Int) →
            ((jwr (v2 - Int.tdiv v2 10 * 10)) = (9 : Int) →
              jWP d 114 78 [some (.inr (20, 0)), none, some (.inl (jwr (Int.tdiv v2 10))), some (.inl v3), some (.inl v4), some (.inl (jwr (v2 - Int.tdiv v2 10 * 10))), none] [] M Q) ∧
            (¬ (jwr (v2 - Int.tdiv v2 10 * 10)) = (9 : Int) →
              (¬ (1 : Int) = (0 : Int) →
                jWP d 114 78 [some (.inr (20, 0)), none, some (.inl (jwr (Int.tdiv v2 10))), some (.inl v3), some (.inl v4), some (.inl (jwr (v2 - Int.tdiv v2 10 * 10))), none] [] M Q) ∧
              ((1 : Int) = (0 : Int) →
                ((0 : Int) = 0 ∨ (0 : Int) = 1) ∧ Q 0 M))))))) :
    jWP d 114 15 [some (.inr (20, 0)), none, some (.inl v2), some (.inl v3), some (.inl v4), none, none] [] M Q :=
  jreg [(15, [1, 5, 6]), (61, [1, 6]), (78, [1, 6]), (97, [1, 6])] 47 (by decide) ckX0_readDigits h
set_option maxRecDepth 100000 in
theorem fX0_readDigits_61 {d : Nat} {v2 : Int} {v3 : Int} {v4 : Int} {v5 : Int} {M : jM} {Q : Int → jM → Prop} (h :
    (v5 = (9 : Int) →
      jWP d 114 78 [some (.inr (20, 0)), none, some (.inl v2), some (.inl v3), some (.inl v4), some (.inl v5), none] [] M Q) ∧
    (¬ v5 = (9 : Int) →
      (¬ (0 : Int) = (0 : Int) →
        jWP d 114 78 [some (.inr (20, 0)), none, some (.inl v2), some (.inl v3), some (.inl v4), some (.inl v5), none] [] M Q) ∧
      ((0 : Int) = (0 : Int) →
        ((0 : Int) = 0 ∨ (0 : Int) = 1) ∧ Q 0 M))) :
    jWP d 114 61 [some (.inr (20, 0)), none, some (.inl v2), some (.inl v3), some (.inl v4), some (.inl v5), none] [] M Q :=
  jreg [(15, [1, 5, 6]), (61, [1, 6]), (78, [1, 6]), (97, [1, 6])] 13 (by decide) ckX0_readDigits h
set_option maxRecDepth 100000 in
theorem fX0_readDigits_78 {d : Nat} {v2 : Int} {v3 : Int} {v4 : Int} {v5 : Int} {M : jM} {Q : Int → jM → Prop} (h :
    (¬ v5 = (9 : Int) →
      jWP d 114 97 [some (.inr (20, 0)), none, some (.inl v2), some (.inl v3), some (.inl v4), some (.inl v5), none] [.inl v5, .inl v4, .inr (20, 6)] M Q) ∧
    (v5 = (9 : Int) →
      jWP d 114 97 [some (.inr (20, 0)), none, some (.inl v2), some (.inl v3), some (.inl v4), some (.inl v5), none] [.inl (-1), .inl v4, .inr (20, 6)] M Q)) :
    jWP d 114 78 [some (.inr (20, 0)), none, some (.inl v2), some (.inl v3), some (.inl v4), some (.inl v5), none] [] M Q :=
  jreg [(15, [1, 5, 6]), (61, [1, 6]), (78, [1, 6]), (97, [1, 6])] 13 (by decide) ckX0_readDigits h
set_option maxRecDepth 100000 in
theorem fX0_readDigits_97 {d : Nat} {v2 : Int} {v3 : Int} {v4 : Int} {v5 : Int} {s0 : Int} {s1 : Int} {M : jM} {Q : Int → jM → Prop} (h :
    (0 ≤ s1 ∧ s1 < jal 20 6) ∧ (¬ v5 = (9 : Int) →
      jWP d 114 15 [some (.inr (20, 0)), none, some (.inl v2), some (.inl (jior v3 (jishl 1 v5))), some (.inl (jwr (v4 + (-1)))), none, none] [] (jup M 20 6 s1 s0) Q) ∧
    (v5 = (9 : Int) →
      jWP d 114 15 [some (.inr (20, 0)), none, some (.inl v2), some (.inl (jior v3 0)), some (.inl (jwr (v4 + (-1)))), none, none] [] (jup M 20 6 s1 s0) Q)) :
    jWP d 114 97 [some (.inr (20, 0)), none, some (.inl v2), some (.inl v3), some (.inl v4), some (.inl v5), none] [.inl s0, .inl s1, .inr (20, 6)] M Q :=
  jreg [(15, [1, 5, 6]), (61, [1, 6]), (78, [1, 6]), (97, [1, 6])] 22 (by decide) ckX0_readDigits h
set_option maxRecDepth 100000 in
theorem fX0_settle_0 {d : Nat}  {M : jM} {Q : Int → jM → Prop} (h :
    jWP d 115 6 [some (.inr (20, 0)), some (.inl 0), some (.inl 0), some (.inl 0), none, none] [] M Q) :
    jWP d 115 0 [some (.inr (20, 0)), none, none, none, none, none] [] M Q :=
  jreg [(6, [4, 5]), (63, [4, 5]), (89, [4, 5])] 9 (by decide) ckX0_settle h
set_option maxRecDepth 100000 in
theorem fX0_settle_6 {d : Nat} {v1 : Int} {v2 : Int} {v3 : Int} {M : jM} {Q : Int → jM → Prop} (h :
    (0 ≤ (M 20 0 1) ∧ (M 20 0 1) < 18) ∧ ((M (M 20 0 1) 0 1) ≤ v3 →
      Q v1 M) ∧
    (v3 < (M (M 20 0 1) 0 1) →
      jCall d 119 [.inr (20, 0), .inl v3] M (fun r1 M1 =>
        ((M1 21 0 2) = (0 : Int) →
          jWP d 115 63 [some (.inr (20, 0)), some (.inl v1), some (.inl v2), some (.inl v3), none, none] [.inl (jiand r1 (jixor v2 (-1))), .inr (20, 0), .inl v3, .inr (20, 7)] M1 Q) ∧
        (¬ (M1 21 0 2) = (0 : Int) →
          jCall d 167 [.inr (21, 0), .inl v3, .inl (jiand r1 (jixor v2 (-1))), .inr (20, 7)] M1 (fun r2 M2 =>
            jWP d 115 63 [some (.inr (20, 0)), some (.inl v1), some (.inl v2), some (.inl v3), none, none] [.inl r2, .inr (20, 0), .inl v3, .inr (20, 7)] M2 Q))))) :
    jWP d 115 6 [some (.inr (20, 0)), some (.inl v1), some (.inl v2), some (.inl v3), none, none] [] M Q :=
  jreg [(6, [4, 5]), (63, [4, 5]), (89, [4, 5])] 36 (by decide) ckX0_settle h
set_option maxRecDepth 100000 in
theorem fX0_settle_63 {d : Nat} {v1 : Int} {v2 : Int} {v3 : Int} {s0 : Int} {s2 : Int} {M : jM} {Q : Int → jM → Prop} (h :
    jCall d 121 [.inr (20, 0), .inl s0] M (fun r1 M1 =>
      (0 ≤ s2 ∧ s2 < jal 20 7) ∧ (0 ≤ v3 ∧ v3 < jal 20 7) ∧ (¬ ((jup M1 20 7 s2 r1) 20 7 v3) = (-1 : Int) →
        (0 ≤ v3 ∧ v3 < jal 20 7) ∧ jWP d 115 89 [some (.inr (20, 0)), some (.inl v1), some (.inl v2), some (.inl v3), none, none] [.inl (jishl 1 ((jup M1 20 7 s2 r1) 20 7 v3))] (jup M1 20 7 s2 r1) Q) ∧
      (((jup M1 20 7 s2 r1) 20 7 v3) = (-1 : Int) →
        jWP d 115 89 [some (.inr (20, 0)), some (.inl v1), some (.inl v2), some (.inl v3), none, none] [.inl 0] (jup M1 20 7 s2 r1) Q))) :
    jWP d 115 63 [some (.inr (20, 0)), some (.inl v1), some (.inl v2), some (.inl v3), none, none] [.inl s0, .inr (20, 0), .inl s2, .inr (20, 7)] M Q :=
  jreg [(6, [4, 5]), (63, [4, 5]), (89, [4, 5])] 20 (by decide) ckX0_settle h
set_option maxRecDepth 100000 in
theorem fX0_settle_89 {d : Nat} {v1 : Int} {v2 : Int} {v3 : Int} {s0 : Int} {M : jM} {Q : Int → jM → Prop} (h :
    (0 ≤ v3 ∧ v3 < jal 20 8) ∧ (0 ≤ ((jup M 20 8 v3 s0) 20 0 1) ∧ ((jup M 20 8 v3 s0) 20 0 1) < 18) ∧ (0 ≤ v3 ∧ v3 < jal ((jup M 20 8 v3 s0) 20 0 1) 8) ∧ (0 ≤ v3 ∧ v3 < jal 20 11) ∧ (0 ≤ v3 ∧ v3 < jal 20 12) ∧ jCall d 118 [.inr (20, 0), .inl ((jup M 20 8 v3 s0) ((jup M 20 8 v3 s0) 20 0 1) 8 v3), .inl (jiand s0 ((jup M 20 8 v3 s0) 20 11 v3)), .inl (jiand s0 ((jup M 20 8 v3 s0) 20 12 v3)), .inl s0] (jup M 20 8 v3 s0) (fun r1 M1 =>
      jWP d 115 6 [some (.inr (20, 0)), some (.inl (jwr (v1 + r1))), some (.inl (jior v2 s0)), some (.inl (jwr (v3 + 1))), none, none] [] M1 Q)) :
    jWP d 115 89 [some (.inr (20, 0)), some (.inl v1), some (.inl v2), some (.inl v3), none, none] [.inl s0] M Q :=
  jreg [(6, [4, 5]), (63, [4, 5]), (89, [4, 5])] 38 (by decide) ckX0_settle h
set_option maxRecDepth 100000 in
theorem fX0_hope_0 {d : Nat} {v1 : Int} {M : jM} {Q : Int → jM → Prop} (h :
    jCall d 117 [.inr (20, 0), .inl v1] M (fun _ M1 =>
      jWP d 116 18 [some (.inr (20, 0)), none, some (.inl 0), some (.inl 0), some (.inl 0), some (.inl 0), some (.inl 0), none, none] [] M1 Q)) :
    jWP d 116 0 [some (.inr (20, 0)), some (.inl v1), none, none, none, none, none, none, none] [] M Q :=
  jreg [(18, [1, 7, 8]), (117, [1, 8]), (192, [1, 8])] 16 (by decide) ckX0_hope h
set_option maxRecDepth 100000 in
theorem fX0_hope_18 {d : Nat} {v2 : Int} {v3 : Int} {v4 : Int} {v5 : Int} {v6 : Int} {M : jM} {Q : Int → jM → Prop} (h :
    (0 ≤ (M 20 0 1) ∧ (M 20 0 1) < 18) ∧ ((M (M 20 0 1) 0 1) ≤ v6 →
      ((M 21 0 2) = (0 : Int) →
        jWP d 116 192 [some (.inr (20, 0)), none, some (.inl (jwr (v2 + 0))), some (.inl v3), some (.inl v4), some (.inl v5), some (.inl 0), some (.inl 0), none] [] M Q) ∧
      (¬ (M 21 0 2) = (0 : Int) →
        jCall d 171 [.inr (21, 0)] M (fun r1 M1 =>
          jWP d 116 192 [some (.inr (20, 0)), none, some (.inl (jwr (v2 + r1))), some (.inl v3), some (.inl v4), some (.inl v5), some (.inl 0), some (.inl 0), none] [] M1 Q))) ∧
    (v6 < (M (M 20 0 1) 0 1) →
      jCall d 119 [.inr (20, 0), .inl v6] M (fun r2 M2 =>
        (0 ≤ v6 ∧ v6 < jal 20 8) ∧ (0 ≤ v6 ∧ v6 < jal 20 11) ∧ (0 ≤ v6 ∧ v6 < jal 20 12) ∧ (((jup M2 20 8 v6 r2) 21 0 2) = (0 : Int) →
          jWP d 116 117 [some (.inr (20, 0)), none, some (.inl v2), some (.inl (jior v3 (jiand r2 ((jup M2 20 8 v6 r2) 20 11 v6)))), some (.inl (jior v4 (jiand r2 ((jup M2 20 8 v6 r2) 20 12 v6)))), some (.inl (jior v5 r2)), some (.inl v6), some (.inl r2), none] [] (jup M2 20 8 v6 r2) Q) ∧
        (¬ ((jup M2 20 8 v6 r2) 21 0 2) = (0 : Int) →
          jCall d 169 [.inr (21, 0), .inl v6, .inl r2] (jup M2 20 8 v6 r2) (fun r3 M3 =>
            (r3 = (0 : Int) →
              jWP d 116 117 [some (.inr (20, 0)), none, some (.inl v2), some (.inl (jior v3 (jiand r2 ((jup M2 20 8 v6 r2) 20 11 v6)))), some (.inl (jior v4 (jiand r2 ((jup M2 20 8 v6 r2) 20 12 v6)))), some (.inl (jior v5 r2)), some (.inl v6), some (.inl r2), none] [] M3 Q) ∧
            (¬ r3 = (0 : Int) →
              jCall d 122 [.inr (20, 0), .inl v6, .inl r2] M3 (fun _ M4 =>
                jWP d 116 18 [some (.inr (20, 0)), none, some (.inl v2), some (.inl (jior v3 (jiand r2 ((jup M2 20 8 v6 r2) 20 11 v6)))), some (.inl (jior v4 (jiand r2 ((jup M2 20 8 v6 r2) 20 12 v6)))), some (.inl (jior v5 r2)), some (.inl (jwr (v6 + 1))), none, none] [] M4 Q))))))) :
    jWP d 116 18 [some (.inr (20, 0)), none, some (.inl v2), some (.inl v3), some (.inl v4), some (.inl v5), some (.inl v6), none, none] [] M Q :=
  jreg [(18, [1, 7, 8]), (117, [1, 8]), (192, [1, 8])] 82 (by decide) ckX0_hope h
set_option maxRecDepth 100000 in
theorem fX0_hope_117 {d : Nat} {v2 : Int} {v3 : Int} {v4 : Int} {v5 : Int} {v6 : Int} {v7 : Int} {M : jM} {Q : Int → jM → Prop} (h :
    (0 ≤ (M 20 0 1) ∧ (M 20 0 1) < 18) ∧ (0 ≤ v6 ∧ v6 < jal (M 20 0 1) 8) ∧ (0 ≤ v6 ∧ v6 < jal 20 11) ∧ (0 ≤ v6 ∧ v6 < jal 20 12) ∧ jCall d 118 [.inr (20, 0), .inl (M (M 20 0 1) 8 v6), .inl (jiand v7 (M 20 11 v6)), .inl (jiand v7 (M 20 12 v6)), .inl v7] M (fun r1 M1 =>
      jWP d 116 18 [some (.inr (20, 0)), none, some (.inl (jwr (v2 + r1))), some (.inl v3), some (.inl v4), some (.inl v5), some (.inl (jwr (v6 + 1))), none, none] [] M1 Q)) :
    jWP d 116 117 [some (.inr (20, 0)), none, some (.inl v2), some (.inl v3), some (.inl v4), some (.inl v5), some (.inl v6), some (.inl v7), none] [] M Q :=
  jreg [(18, [1, 7, 8]), (117, [1, 8]), (192, [1, 8])] 28 (by decide) ckX0_hope h
set_option maxRecDepth 100000 in
theorem fX0_hope_192 {d : Nat} {v2 : Int} {v3 : Int} {v4 : Int} {v5 : Int} {v6 : Int} {v7 : Int} {M : jM} {Q : Int → jM → Prop} (h :
    (0 ≤ (M 20 0 2) ∧ (M 20 0 2) < 18) ∧ ((M (M 20 0 2) 0 1) ≤ v7 →
      Q (if v6 < v2 then v6 else v2) M) ∧
    (v7 < (M (M 20 0 2) 0 1) →
      (0 ≤ (M 20 0 2) ∧ (M 20 0 2) < 18) ∧ (0 ≤ v7 ∧ v7 < jal (M 20 0 2) 8) ∧ jCall d 118 [.inr (20, 0), .inl (M (M 20 0 2) 8 v7), .inl (jiand v3 (jishl 1 v7)), .inl (jiand v4 (jishl 1 v7)), .inl (jiand v5 (jishl 1 v7))] M (fun r1 M1 =>
        jWP d 116 192 [some (.inr (20, 0)), none, some (.inl v2), some (.inl v3), some (.inl v4), some (.inl v5), some (.inl (jwr (v6 + r1))), some (.inl (jwr (v7 + 1))), none] [] M1 Q))) :
    jWP d 116 192 [some (.inr (20, 0)), none, some (.inl v2), some (.inl v3), some (.inl v4), some (.inl v5), some (.inl v6), some (.inl v7), none] [] M Q :=
  jreg [(18, [1, 7, 8]), (117, [1, 8]), (192, [1, 8])] 37 (by decide) ckX0_hope h
set_option maxRecDepth 100000 in
theorem fX0_noteFree_0 {d : Nat} {v1 : Int} {M : jM} {Q : Int → jM → Prop} (h :
    jWP d 117 2 [some (.inr (20, 0)), some (.inl v1), some (.inl 0), none, none] [] M Q) :
    jWP d 117 0 [some (.inr (20, 0)), some (.inl v1), none, none, none] [] M Q :=
  jreg [(2, [3, 4]), (12, [])] 5 (by decide) ckX0_noteFree h
set_option maxRecDepth 100000 in
theorem fX0_noteFree_2 {d : Nat} {v1 : Int} {v2 : Int} {M : jM} {Q : Int → jM → Prop} (h :
    ((3 : Int) ≤ v2 →
      Q 0 M) ∧
    (v2 < (3 : Int) →
      jWP d 117 12 [some (.inr (20, 0)), some (.inl v1), some (.inl v2), some (.inl 0), some (.inl 0)] [] M Q)) :
    jWP d 117 2 [some (.inr (20, 0)), some (.inl v1), some (.inl v2), none, none] [] M Q :=
  jreg [(2, [3, 4]), (12, [])] 11 (by decide) ckX0_noteFree h
set_option maxRecDepth 100000 in
theorem fX0_noteFree_12 {d : Nat} {v1 : Int} {v2 : Int} {v3 : Int} {v4 : Int} {M : jM} {Q : Int → jM → Prop} (h :
    (0 ≤ (M 20 0 2) ∧ (M 20 0 2) < 18) ∧ ((M (M 20 0 2) 0 0) ≤ v4 →
      (0 ≤ v2 ∧ v2 < jal 20 14) ∧ jWP d 117 2 [some (.inr (20, 0)), some (.inl v1), some (.inl (jwr (v2 + 1))), none, none] [] (jup M 20 14 v2 v3) Q) ∧
    (v4 < (M (M 20 0 2) 0 0) →
      (¬ (jiand (jishr v1 v4) 1) = (0 : Int) →
        jWP d 117 12 [some (.inr (20, 0)), some (.inl v1), some (.inl v2), some (.inl v3), some (.inl (jwr (v4 + 1)))] [] M Q) ∧
      ((jiand (jishr v1 v4) 1) = (0 : Int) →
        (0 ≤ (jwr ((jwr (v2 * 24)) + v4)) ∧ (jwr ((jwr (v2 * 24)) + v4)) < jal 20 13) ∧ jWP d 117 12 [some (.inr (20, 0)), some (.inl v1), some (.inl v2), some (.inl (jior v3 (M 20 13 (jwr ((jwr (v2 * 24)) + v4))))), some (.inl (jwr (v4 + 1)))] [] M Q))) :
    jWP d 117 12 [some (.inr (20, 0)), some (.inl v1), some (.inl v2), some (.inl v3), some (.inl v4)] [] M Q :=
  jreg [(2, [3, 4]), (12, [])] 38 (by decide) ckX0_noteFree h
set_option maxRecDepth 100000 in
theorem fX0_gain_0 {d : Nat} {v1 : Int} {v2 : Int} {v3 : Int} {v4 : Int} {M : jM} {Q : Int → jM → Prop} (h :
    ((M 20 0 3) = (0 : Int) →
      (v2 = (0 : Int) →
        (v3 = (0 : Int) →
          (v4 = (0 : Int) →
            Q (jwr (v1 * 0)) M) ∧
          (¬ v4 = (0 : Int) →
            Q (jwr (v1 * 3)) M)) ∧
        (¬ v3 = (0 : Int) →
          Q (jwr (v1 * 4)) M)) ∧
      (¬ v2 = (0 : Int) →
        Q (jwr (v1 * 6)) M)) ∧
    (¬ (M 20 0 3) = (0 : Int) →
      (v4 = (0 : Int) →
        Q 0 M) ∧
      (¬ v4 = (0 : Int) →
        Q 1 M))) :
    jWP d 118 0 [some (.inr (20, 0)), some (.inl v1), some (.inl v2), some (.inl v3), some (.inl v4)] [] M Q :=
  jreg [] 34 (by decide) ckX0_gain h
set_option maxRecDepth 100000 in
theorem fX0_reachable_0 {d : Nat} {v1 : Int} {M : jM} {Q : Int → jM → Prop} (h :
    (0 ≤ (M 20 0 1) ∧ (M 20 0 1) < 18) ∧ (0 ≤ (jwr (v1 * 3)) ∧ (jwr (v1 * 3)) < jal (M 20 0 1) 6) ∧ (0 ≤ (M 20 0 1) ∧ (M 20 0 1) < 18) ∧ (0 ≤ (jwr ((jwr (v1 * 3)) + 1)) ∧ (jwr ((jwr (v1 * 3)) + 1)) < jal (M 20 0 1) 6) ∧ (0 ≤ (M 20 0 1) ∧ (M 20 0 1) < 18) ∧ (0 ≤ (jwr ((jwr (v1 * 3)) + 2)) ∧ (jwr ((jwr (v1 * 3)) + 2)) < jal (M 20 0 1) 6) ∧ (0 ≤ v1 ∧ v1 < jal 20 9) ∧ (¬ (M 20 9 v1) = (0 : Int) →
      jCall d 120 [.inr (20, 0), .inl (M (M 20 0 1) 6 (jwr (v1 * 3))), .inl 0] M (fun r1 M1 =>
        ((M (M 20 0 1) 6 (jwr ((jwr (v1 * 3)) + 1))) = (-1 : Int) →
          jWP d 119 83 [some (.inr (20, 0)), some (.inl v1), some (.inl (M (M 20 0 1) 6 (jwr (v1 * 3)))), some (.inl (M (M 20 0 1) 6 (jwr ((jwr (v1 * 3)) + 1)))), some (.inl (M (M 20 0 1) 6 (jwr ((jwr (v1 * 3)) + 2)))), some (.inl (jiand (M 20 9 v1) r1))] [] M1 Q) ∧
        (¬ (M (M 20 0 1) 6 (jwr ((jwr (v1 * 3)) + 1))) = (-1 : Int) →
          jCall d 120 [.inr (20, 0), .inl (M (M 20 0 1) 6 (jwr ((jwr (v1 * 3)) + 1))), .inl 1] M1 (fun r2 M2 =>
            jWP d 119 83 [some (.inr (20, 0)), some (.inl v1), some (.inl (M (M 20 0 1) 6 (jwr (v1 * 3)))), some (.inl (M (M 20 0 1) 6 (jwr ((jwr (v1 * 3)) + 1)))), some (.inl (M (M 20 0 1) 6 (jwr ((jwr (v1 * 3)) + 2)))), some (.inl (jiand (jiand (M 20 9 v1) r1) r2))] [] M2 Q)))) ∧
    ((M 20 9 v1) = (0 : Int) →
      Q 0 M)) :
    jWP d 119 0 [some (.inr (20, 0)), some (.inl v1), none, none, none, none] [] M Q :=
  jreg [(83, []), (101, [4])] 58 (by decide) ckX0_reachable h
set_option maxRecDepth 100000 in
theorem fX0_reachable_83 {d : Nat} {v1 : Int} {v2 : Int} {v3 : Int} {v4 : Int} {v5 : Int} {M : jM} {Q : Int → jM → Prop} (h :
    (v4 = (-1 : Int) →
      jWP d 119 101 [some (.inr (20, 0)), some (.inl v1), some (.inl v2), some (.inl v3), none, some (.inl v5)] [] M Q) ∧
    (¬ v4 = (-1 : Int) →
      jCall d 120 [.inr (20, 0), .inl v4, .inl 2] M (fun r1 M1 =>
        jWP d 119 101 [some (.inr (20, 0)), some (.inl v1), some (.inl v2), some (.inl v3), none, some (.inl (jiand v5 r1))] [] M1 Q))) :
    jWP d 119 83 [some (.inr (20, 0)), some (.inl v1), some (.inl v2), some (.inl v3), some (.inl v4), some (.inl v5)] [] M Q :=
  jreg [(83, []), (101, [4])] 14 (by decide) ckX0_reachable h
set_option maxRecDepth 100000 in
theorem fX0_reachable_101 {d : Nat} {v1 : Int} {v2 : Int} {v3 : Int} {v5 : Int} {M : jM} {Q : Int → jM → Prop} (h :
    (0 ≤ v1 ∧ v1 < jal 20 10) ∧ ((M 20 10 v1) = (0 : Int) →
      Q v5 M) ∧
    (¬ (M 20 10 v1) = (0 : Int) →
      (0 ≤ v1 ∧ v1 < jal 20 10) ∧ jCall d 120 [.inr (20, 0), .inl v2, .inl 1] M (fun r1 M1 =>
        jCall d 120 [.inr (20, 0), .inl v3, .inl 0] M1 (fun r2 M2 =>
          Q (jior v5 (jiand (jiand (M 20 10 v1) r1) r2)) M2)))) :
    jWP d 119 101 [some (.inr (20, 0)), some (.inl v1), some (.inl v2), some (.inl v3), none, some (.inl v5)] [] M Q :=
  jreg [(83, []), (101, [4])] 28 (by decide) ckX0_reachable h
set_option maxRecDepth 100000 in
theorem fX0_reach_0 {d : Nat} {v1 : Int} {v2 : Int} {M : jM} {Q : Int → jM → Prop} (h :
    ((6 : Int) ≤ v1 →
      ((jwr (v1 - 10)) < (0 : Int) →
        jWP d 120 87 [some (.inr (20, 0)), none, some (.inl v2), none, some (.inl 0), some (.inl 0), some (.inl 0)] [] M Q) ∧
      ((0 : Int) ≤ (jwr (v1 - 10)) →
        ((jwr (v1 - 10)) < (14 : Int) →
          (0 ≤ (jwr (v1 - 10)) ∧ (jwr (v1 - 10)) < jal 20 8) ∧ jWP d 120 87 [some (.inr (20, 0)), none, some (.inl v2), none, some (.inl (M 20 8 (jwr (v1 - 10)))), some (.inl 0), some (.inl 0)] [] M Q) ∧
        ((14 : Int) ≤ (jwr (v1 - 10)) →
          jWP d 120 87 [some (.inr (20, 0)), none, some (.inl v2), none, some (.inl 0), some (.inl 0), some (.inl 0)] [] M Q))) ∧
    (v1 < (6 : Int) →
      ((0 : Int) ≤ v1 →
        (0 ≤ v1 ∧ v1 < jal 20 6) ∧ jWP d 120 20 [some (.inr (20, 0)), none, some (.inl v2), none, none, none, none] [.inl (M 20 6 v1)] M Q) ∧
      (v1 < (0 : Int) →
        jWP d 120 20 [some (.inr (20, 0)), none, some (.inl v2), none, none, none, none] [.inl (-1)] M Q))) :
    jWP d 120 0 [some (.inr (20, 0)), some (.inl v1), some (.inl v2), none, none, none, none] [] M Q :=
  jreg [(20, [1, 3, 4, 5, 6]), (87, [1, 3])] 50 (by decide) ckX0_reach h
set_option maxRecDepth 100000 in
theorem fX0_reach_20 {d : Nat} {v2 : Int} {s0 : Int} {M : jM} {Q : Int → jM → Prop} (h :
    (¬ s0 = (-2 : Int) →
      ((0 : Int) ≤ s0 →
        (0 ≤ (jwr ((jwr (v2 * 24)) + s0)) ∧ (jwr ((jwr (v2 * 24)) + s0)) < jal 20 13) ∧ Q (M 20 13 (jwr ((jwr (v2 * 24)) + s0))) M) ∧
      (s0 < (0 : Int) →
        Q 0 M)) ∧
    (s0 = (-2 : Int) →
      (0 ≤ v2 ∧ v2 < jal 20 14) ∧ Q (M 20 14 v2) M)) :
    jWP d 120 20 [some (.inr (20, 0)), none, some (.inl v2), none, none, none, none] [.inl s0] M Q :=
  jreg [(20, [1, 3, 4, 5, 6]), (87, [1, 3])] 25 (by decide) ckX0_reach h
set_option maxRecDepth 100000 in
theorem fX0_reach_87 {d : Nat} {v2 : Int} {v4 : Int} {v5 : Int} {v6 : Int} {M : jM} {Q : Int → jM → Prop} (h :
    (0 ≤ (M 20 0 2) ∧ (M 20 0 2) < 18) ∧ ((M (M 20 0 2) 0 1) ≤ v6 →
      Q v5 M) ∧
    (v6 < (M (M 20 0 2) 0 1) →
      ((jishr v4 v6) = (0 : Int) →
        Q v5 M) ∧
      (¬ (jishr v4 v6) = (0 : Int) →
        ((jiand (jishr v4 v6) 1) = (0 : Int) →
          jWP d 120 87 [some (.inr (20, 0)), none, some (.inl v2), none, some (.inl v4), some (.inl v5), some (.inl (jwr (v6 + 1)))] [] M Q) ∧
        (¬ (jiand (jishr v4 v6) 1) = (0 : Int) →
          (0 ≤ (jwr ((jwr ((jwr (v2 * 24)) + 10)) + v6)) ∧ (jwr ((jwr ((jwr (v2 * 24)) + 10)) + v6)) < jal 20 13) ∧ jWP d 120 87 [some (.inr (20, 0)), none, some (.inl v2), none, some (.inl v4), some (.inl (jior v5 (M 20 13 (jwr ((jwr ((jwr (v2 * 24)) + 10)) + v6))))), some (.inl (jwr (v6 + 1)))] [] M Q)))) :
    jWP d 120 87 [some (.inr (20, 0)), none, some (.inl v2), none, some (.inl v4), some (.inl v5), some (.inl v6)] [] M Q :=
  jreg [(20, [1, 3, 4, 5, 6]), (87, [1, 3])] 40 (by decide) ckX0_reach h
set_option maxRecDepth 100000 in
theorem fX0_firstOf_0 {d : Nat} {v1 : Int} {M : jM} {Q : Int → jM → Prop} (h :
    jWP d 121 2 [some (.inr (20, 0)), some (.inl v1), some (.inl 0)] [] M Q) :
    jWP d 121 0 [some (.inr (20, 0)), some (.inl v1), none] [] M Q :=
  jreg [(2, [])] 5 (by decide) ckX0_firstOf h
set_option maxRecDepth 100000 in
theorem fX0_firstOf_2 {d : Nat} {v1 : Int} {v2 : Int} {M : jM} {Q : Int → jM → Prop} (h :
    (0 ≤ (M 20 0 2) ∧ (M 20 0 2) < 18) ∧ ((M (M 20 0 2) 0 1) ≤ v2 →
      Q (-1) M) ∧
    (v2 < (M (M 20 0 2) 0 1) →
      ((jishr v1 v2) = (0 : Int) →
        Q (-1) M) ∧
      (¬ (jishr v1 v2) = (0 : Int) →
        ((jiand (jishr v1 v2) 1) = (0 : Int) →
          jWP d 121 2 [some (.inr (20, 0)), some (.inl v1), some (.inl (jwr (v2 + 1)))] [] M Q) ∧
        (¬ (jiand (jishr v1 v2) 1) = (0 : Int) →
          Q v2 M)))) :
    jWP d 121 2 [some (.inr (20, 0)), some (.inl v1), some (.inl v2)] [] M Q :=
  jreg [(2, [])] 26 (by decide) ckX0_firstOf h
set_option maxRecDepth 100000 in
theorem fX0_spread_0 {d : Nat} {v1 : Int} {v2 : Int} {M : jM} {Q : Int → jM → Prop} (h :
    jWP d 122 2 [some (.inr (20, 0)), some (.inl v1), some (.inl v2), some (.inl 0), none] [] M Q) :
    jWP d 122 0 [some (.inr (20, 0)), some (.inl v1), some (.inl v2), none, none] [] M Q :=
  jreg [(2, [4])] 5 (by decide) ckX0_spread h
set_option maxRecDepth 100000 in
theorem fX0_spread_2 {d : Nat} {v1 : Int} {v2 : Int} {v3 : Int} {M : jM} {Q : Int → jM → Prop} (h :
    ((10 : Int) ≤ v3 →
      Q 0 M) ∧
    (v3 < (10 : Int) →
      (0 ≤ v3 ∧ v3 < jal 21 4) ∧ ((jiand v2 (M 21 4 v3)) = (0 : Int) →
        jWP d 122 2 [some (.inr (20, 0)), some (.inl v1), some (.inl v2), some (.inl (jwr (v3 + 1))), none] [] M Q) ∧
      (¬ (jiand v2 (M 21 4 v3)) = (0 : Int) →
        (0 ≤ (M 20 0 1) ∧ (M 20 0 1) < 18) ∧ (0 ≤ v1 ∧ v1 < jal (M 20 0 1) 8) ∧ (0 ≤ v1 ∧ v1 < jal 20 11) ∧ (0 ≤ v1 ∧ v1 < jal 20 12) ∧ jCall d 118 [.inr (20, 0), .inl (M (M 20 0 1) 8 v1), .inl (jiand (jiand v2 (M 21 4 v3)) (M 20 11 v1)), .inl (jiand (jiand v2 (M 21 4 v3)) (M 20 12 v1)), .inl (jiand v2 (M 21 4 v3))] M (fun r1 M1 =>
          jCall d 170 [.inr (21, 0), .inl v1, .inl v3, .inl r1] M1 (fun _ M2 =>
            jWP d 122 2 [some (.inr (20, 0)), some (.inl v1), some (.inl v2), some (.inl (jwr (v3 + 1))), none] [] M2 Q))))) :
    jWP d 122 2 [some (.inr (20, 0)), some (.inl v1), some (.inl v2), some (.inl v3), none] [] M Q :=
  jreg [(2, [4])] 47 (by decide) ckX0_spread h
set_option maxRecDepth 100000 in
theorem fX0_sortsShared_0 {d : Nat}  {M : jM} {Q : Int → jM → Prop} (h :
    jWP d 123 4 [some (.inr (20, 0)), some (.inl 0), some (.inl 0), none] [] M Q) :
    jWP d 123 0 [some (.inr (20, 0)), none, none, none] [] M Q :=
  jreg [(4, [3])] 7 (by decide) ckX0_sortsShared h
set_option maxRecDepth 100000 in
theorem fX0_sortsShared_4 {d : Nat} {v1 : Int} {v2 : Int} {M : jM} {Q : Int → jM → Prop} (h :
    (0 ≤ (M 20 0 1) ∧ (M 20 0 1) < 18) ∧ ((M (M 20 0 1) 0 0) ≤ v2 →
      Q v1 M) ∧
    (v2 < (M (M 20 0 1) 0 0) →
      (0 ≤ v2 ∧ v2 < jal 20 6) ∧ ((M 20 6 v2) < (0 : Int) →
        jWP d 123 4 [some (.inr (20, 0)), some (.inl v1), some (.inl (jwr (v2 + 1))), none] [] M Q) ∧
      ((0 : Int) ≤ (M 20 6 v2) →
        (0 ≤ (M 20 0 1) ∧ (M 20 0 1) < 18) ∧ (0 ≤ v2 ∧ v2 < jal (M 20 0 1) 4) ∧ (0 ≤ (M 20 0 2) ∧ (M 20 0 2) < 18) ∧ (0 ≤ (M 20 6 v2) ∧ (M 20 6 v2) < jal (M 20 0 2) 4) ∧ (¬ (M (M 20 0 1) 4 v2) = (M (M 20 0 2) 4 (M 20 6 v2)) →
          jWP d 123 4 [some (.inr (20, 0)), some (.inl v1), some (.inl (jwr (v2 + 1))), none] [] M Q) ∧
        ((M (M 20 0 1) 4 v2) = (M (M 20 0 2) 4 (M 20 6 v2)) →
          jWP d 123 4 [some (.inr (20, 0)), some (.inl (jwr (v1 + 1))), some (.inl (jwr (v2 + 1))), none] [] M Q)))) :
    jWP d 123 4 [some (.inr (20, 0)), some (.inl v1), some (.inl v2), none] [] M Q :=
  jreg [(4, [3])] 37 (by decide) ckX0_sortsShared h
