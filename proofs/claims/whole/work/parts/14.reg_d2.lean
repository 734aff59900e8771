set_option maxRecDepth 100000 in
theorem fX10_tieAnswers_0 {d : Nat} {v1 : Int} {v2 : Int} {v3 : Int} {v4 : Int} {v5 : Int} {M : jM} {Q : Int → jM → Prop} (h :
    jCall d 42 [.inl v1, .inl v2] M (fun r1 M1 =>
      jCall d 42 [.inl v3, .inl v4] M1 (fun r2 M2 =>
        (0 ≤ r1 ∧ r1 < jal 28 10) ∧ (0 ≤ r2 ∧ r2 < jal 28 10) ∧ (0 ≤ (M2 28 10 r1) ∧ (M2 28 10 r1) < jal 28 1) ∧ (0 ≤ (M2 28 10 r2) ∧ (M2 28 10 r2) < jal 28 1) ∧ (¬ (M2 28 1 (M2 28 10 r1)) = (M2 28 1 (M2 28 10 r2)) →
          ((0 : Int) = 0 ∨ (0 : Int) = 1) ∧ Q 0 M2) ∧
        ((M2 28 1 (M2 28 10 r1)) = (M2 28 1 (M2 28 10 r2)) →
          jCall d 52 [.inr (28, 0), .inl (M2 28 10 r1), .inl (M2 28 10 r2), .inl v5] M2 (fun r3 M3 =>
            ((0 : Int) ≤ r3 →
              (0 ≤ (jwr (r1 + 1)) ∧ (jwr (r1 + 1)) < jal 28 10) ∧ (0 ≤ (jwr (r2 + 1)) ∧ (jwr (r2 + 1)) < jal 28 10) ∧ jCall d 70 [.inr (28, 0), .inl (M3 28 10 (jwr (r1 + 1))), .inl (M3 28 10 (jwr (r2 + 1)))] M3 (fun r4 M4 =>
                (r4 = (0 : Int) →
                  jWP d 73 135 [some (.inr (28, 0)), none, none, none, none, none, some (.inl r1), some (.inl r2), some (.inl (M2 28 10 r1)), some (.inl (M2 28 10 r2)), none, none] [.inl 0] M4 Q) ∧
                (¬ r4 = (0 : Int) →
                  (0 ≤ (M2 28 10 r1) ∧ (M2 28 10 r1) < jal 28 1) ∧ ((M4 28 1 (M2 28 10 r1)) < (2 : Int) →
                    jWP d 73 135 [some (.inr (28, 0)), none, none, none, none, none, some (.inl r1), some (.inl r2), some (.inl (M2 28 10 r1)), some (.inl (M2 28 10 r2)), none, none] [.inl 1] M4 Q) ∧
                  ((2 : Int) ≤ (M4 28 1 (M2 28 10 r1)) →
                    (0 ≤ (jwr (r1 + 2)) ∧ (jwr (r1 + 2)) < jal 28 10) ∧ (0 ≤ (jwr (r2 + 2)) ∧ (jwr (r2 + 2)) < jal 28 10) ∧ jCall d 70 [.inr (28, 0), .inl (M4 28 10 (jwr (r1 + 2))), .inl (M4 28 10 (jwr (r2 + 2)))] M4 (fun r5 M5 =>
                      (r5 = (0 : Int) →
                        jWP d 73 135 [some (.inr (28, 0)), none, none, none, none, none, some (.inl r1), some (.inl r2), some (.inl (M2 28 10 r1)), some (.inl (M2 28 10 r2)), none, none] [.inl 0] M5 Q) ∧
                      (¬ r5 = (0 : Int) →
                        jWP d 73 135 [some (.inr (28, 0)), none, none, none, none, none, some (.inl r1), some (.inl r2), some (.inl (M2 28 10 r1)), some (.inl (M2 28 10 r2)), none, none] [.inl 1] M5 Q)))))) ∧
            (r3 < (0 : Int) →
              ((0 : Int) = 0 ∨ (0 : Int) = 1) ∧ Q 0 M3)))))) :
    jWP d 73 0 [some (.inr (28, 0)), some (.inl v1), some (.inl v2), some (.inl v3), some (.inl v4), some (.inl v5), none, none, none, none, none, none] [] M Q :=
  jreg [(135, [1, 2, 3, 4, 5, 10, 11]), (183, [1, 2, 3, 4, 5, 10, 11]), (260, [0, 1, 2, 3, 4, 5, 6, 7, 8, 9, 11])] 87 (by decide) ckX10_tieAnswers h
set_option maxRecDepth 100000 in
theorem fX10_tieAnswers_135 {d : Nat} {v6 : Int} {v7 : Int} {v8 : Int} {v9 : Int} {s0 : Int} {M : jM} {Q : Int → jM → Prop} (h :
    (s0 = (0 : Int) →
      jWP d 73 183 [some (.inr (28, 0)), none, none, none, none, none, some (.inl v6), some (.inl v7), some (.inl v8), some (.inl v9), none, none] [.inl 0] M Q) ∧
    (¬ s0 = (0 : Int) →
      (0 ≤ v8 ∧ v8 < jal 28 1) ∧ ((M 28 1 v8) < (3 : Int) →
        jWP d 73 183 [some (.inr (28, 0)), none, none, none, none, none, some (.inl v6), some (.inl v7), some (.inl v8), some (.inl v9), none, none] [.inl 1] M Q) ∧
      ((3 : Int) ≤ (M 28 1 v8) →
        (0 ≤ (jwr (v6 + 3)) ∧ (jwr (v6 + 3)) < jal 28 10) ∧ (0 ≤ (jwr (v7 + 3)) ∧ (jwr (v7 + 3)) < jal 28 10) ∧ jCall d 70 [.inr (28, 0), .inl (M 28 10 (jwr (v6 + 3))), .inl (M 28 10 (jwr (v7 + 3)))] M (fun r1 M1 =>
          (r1 = (0 : Int) →
            jWP d 73 183 [some (.inr (28, 0)), none, none, none, none, none, some (.inl v6), some (.inl v7), some (.inl v8), some (.inl v9), none, none] [.inl 0] M1 Q) ∧
          (¬ r1 = (0 : Int) →
            jWP d 73 183 [some (.inr (28, 0)), none, none, none, none, none, some (.inl v6), some (.inl v7), some (.inl v8), some (.inl v9), none, none] [.inl 1] M1 Q))))) :
    jWP d 73 135 [some (.inr (28, 0)), none, none, none, none, none, some (.inl v6), some (.inl v7), some (.inl v8), some (.inl v9), none, none] [.inl s0] M Q :=
  jreg [(135, [1, 2, 3, 4, 5, 10, 11]), (183, [1, 2, 3, 4, 5, 10, 11]), (260, [0, 1, 2, 3, 4, 5, 6, 7, 8, 9, 11])] 36 (by decide) ckX10_tieAnswers h
set_option maxRecDepth 100000 in
theorem fX10_tieAnswers_183 {d : Nat} {v6 : Int} {v7 : Int} {v8 : Int} {v9 : Int} {s0 : Int} {M : jM} {Q : Int → jM → Prop} (h :
    (0 ≤ v8 ∧ v8 < jbl 28 2) ∧ ((M 28 2 v8) = (0 : Int) →
      jWP d 73 260 [none, none, none, none, none, none, none, none, none, none, some (.inl s0), none] [.inl 0] M Q) ∧
    (¬ (M 28 2 v8) = (0 : Int) →
      (0 ≤ v9 ∧ v9 < jbl 28 2) ∧ ((M 28 2 v9) = (0 : Int) →
        jWP d 73 260 [none, none, none, none, none, none, none, none, none, none, some (.inl s0), none] [.inl 0] M Q) ∧
      (¬ (M 28 2 v9) = (0 : Int) →
        (0 ≤ (jwr (v6 + 1)) ∧ (jwr (v6 + 1)) < jal 28 10) ∧ (0 ≤ (jwr (v7 + 2)) ∧ (jwr (v7 + 2)) < jal 28 10) ∧ jCall d 70 [.inr (28, 0), .inl (M 28 10 (jwr (v6 + 1))), .inl (M 28 10 (jwr (v7 + 2)))] M (fun r1 M1 =>
          (r1 = (0 : Int) →
            jWP d 73 260 [none, none, none, none, none, none, none, none, none, none, some (.inl s0), none] [.inl 0] M1 Q) ∧
          (¬ r1 = (0 : Int) →
            (0 ≤ (jwr (v6 + 2)) ∧ (jwr (v6 + 2)) < jal 28 10) ∧ (0 ≤ (jwr (v7 + 1)) ∧ (jwr (v7 + 1)) < jal 28 10) ∧ jCall d 70 [.inr (28, 0), .inl (M1 28 10 (jwr (v6 + 2))), .inl (M1 28 10 (jwr (v7 + 1)))] M1 (fun r2 M2 =>
              (r2 = (0 : Int) →
                jWP d 73 260 [none, none, none, none, none, none, none, none, none, none, some (.inl s0), none] [.inl 0] M2 Q) ∧
              (¬ r2 = (0 : Int) →
                jWP d 73 260 [none, none, none, none, none, none, none, none, none, none, some (.inl s0), none] [.inl 1] M2 Q))))))) :
    jWP d 73 183 [some (.inr (28, 0)), none, none, none, none, none, some (.inl v6), some (.inl v7), some (.inl v8), some (.inl v9), none, none] [.inl s0] M Q :=
  jreg [(135, [1, 2, 3, 4, 5, 10, 11]), (183, [1, 2, 3, 4, 5, 10, 11]), (260, [0, 1, 2, 3, 4, 5, 6, 7, 8, 9, 11])] 54 (by decide) ckX10_tieAnswers h
set_option maxRecDepth 100000 in
theorem fX10_tieAnswers_260 {d : Nat} {v10 : Int} {s0 : Int} {M : jM} {Q : Int → jM → Prop} (h :
    (¬ v10 = (0 : Int) →
      ((1 : Int) = 0 ∨ (1 : Int) = 1) ∧ Q 1 M) ∧
    (v10 = (0 : Int) →
      (s0 = (0 : Int) →
        ((0 : Int) = 0 ∨ (0 : Int) = 1) ∧ Q 0 M) ∧
      (¬ s0 = (0 : Int) →
        ((1 : Int) = 0 ∨ (1 : Int) = 1) ∧ Q 1 M))) :
    jWP d 73 260 [none, none, none, none, none, none, none, none, none, none, some (.inl v10), none] [.inl s0] M Q :=
  jreg [(135, [1, 2, 3, 4, 5, 10, 11]), (183, [1, 2, 3, 4, 5, 10, 11]), (260, [0, 1, 2, 3, 4, 5, 6, 7, 8, 9, 11])] 15 (by decide) ckX10_tieAnswers h
set_option maxRecDepth 100000 in
theorem fX10_weigh_0 {d : Nat} {v1 : Int} {v2 : Int} {v3 : Int} {v4 : Int} {M : jM} {Q : Int → jM → Prop} (h :
    jWP d 74 14 [some (.inr (28, 0)), some (.inl v1), some (.inl v2), some (.inl v3), some (.inl v4), some (.inl 0), some (.inl 0), some (.inl 0), none, none] [] (jup M 28 0 12 0) Q) :
    jWP d 74 0 [some (.inr (28, 0)), some (.inl v1), some (.inl v2), some (.inl v3), some (.inl v4), none, none, none, none, none] [] M Q :=
  jreg [(14, [8, 9]), (88, [8, 9]), (111, [9]), (179, [9]), (211, [8, 9])] 12 (by decide) ckX10_weigh h
set_option maxRecDepth 100000 in
theorem fX10_weigh_14 {d : Nat} {v1 : Int} {v2 : Int} {v3 : Int} {v4 : Int} {v5 : Int} {v6 : Int} {v7 : Int} {M : jM} {Q : Int → jM → Prop} (h :
    (0 ≤ v1 ∧ v1 < jal 28 6) ∧ ((M 28 6 v1) ≤ v7 →
      jWP d 74 88 [some (.inr (28, 0)), some (.inl v1), some (.inl v2), some (.inl v3), some (.inl v4), some (.inl v5), some (.inl v6), some (.inl 0), none, none] [] M Q) ∧
    (v7 < (M 28 6 v1) →
      (0 ≤ v7 ∧ v7 < jal 28 11) ∧ ((9 : Int) ≤ (M 28 11 v7) →
        jWP d 74 14 [some (.inr (28, 0)), some (.inl v1), some (.inl v2), some (.inl v3), some (.inl v4), some (.inl (jwr (v5 + 0))), some (.inl v6), some (.inl (jwr (v7 + 1))), none, none] [] M Q) ∧
      ((M 28 11 v7) < (9 : Int) →
        (0 ≤ (jwr ((jwr (6 * v1)) + v7)) ∧ (jwr ((jwr (6 * v1)) + v7)) < jal 28 7) ∧ (0 ≤ v7 ∧ v7 < jal 28 11) ∧ (0 ≤ (jwr ((jwr (6 * v2)) + (M 28 11 v7))) ∧ (jwr ((jwr (6 * v2)) + (M 28 11 v7))) < jal 28 7) ∧ (¬ (M 28 7 (jwr ((jwr (6 * v1)) + v7))) = (M 28 7 (jwr ((jwr (6 * v2)) + (M 28 11 v7)))) →
          jWP d 74 14 [some (.inr (28, 0)), some (.inl v1), some (.inl v2), some (.inl v3), some (.inl v4), some (.inl (jwr (v5 + 0))), some (.inl v6), some (.inl (jwr (v7 + 1))), none, none] [] M Q) ∧
        ((M 28 7 (jwr ((jwr (6 * v1)) + v7))) = (M 28 7 (jwr ((jwr (6 * v2)) + (M 28 11 v7)))) →
          jWP d 74 14 [some (.inr (28, 0)), some (.inl v1), some (.inl v2), some (.inl v3), some (.inl v4), some (.inl (jwr (v5 + 1))), some (.inl v6), some (.inl (jwr (v7 + 1))), none, none] [] M Q)))) :
    jWP d 74 14 [some (.inr (28, 0)), some (.inl v1), some (.inl v2), some (.inl v3), some (.inl v4), some (.inl v5), some (.inl v6), some (.inl v7), none, none] [] M Q :=
  jreg [(14, [8, 9]), (88, [8, 9]), (111, [9]), (179, [9]), (211, [8, 9])] 57 (by decide) ckX10_weigh h
set_option maxRecDepth 100000 in
theorem fX10_weigh_88 {d : Nat} {v1 : Int} {v2 : Int} {v3 : Int} {v4 : Int} {v5 : Int} {v6 : Int} {v7 : Int} {M : jM} {Q : Int → jM → Prop} (h :
    (0 ≤ v1 ∧ v1 < jal 28 9) ∧ ((M 28 9 v1) ≤ v7 →
      Q v5 M) ∧
    (v7 < (M 28 9 v1) →
      (0 ≤ v7 ∧ v7 < jal 28 12) ∧ jWP d 74 111 [some (.inr (28, 0)), some (.inl v1), some (.inl v2), some (.inl v3), some (.inl v4), some (.inl v5), some (.inl v6), some (.inl v7), some (.inl 0), none] [] (jup M 28 12 v7 (-6)) Q)) :
    jWP d 74 88 [some (.inr (28, 0)), some (.inl v1), some (.inl v2), some (.inl v3), some (.inl v4), some (.inl v5), some (.inl v6), some (.inl v7), none, none] [] M Q :=
  jreg [(14, [8, 9]), (88, [8, 9]), (111, [9]), (179, [9]), (211, [8, 9])] 18 (by decide) ckX10_weigh h
set_option maxRecDepth 100000 in
theorem fX10_weigh_111 {d : Nat} {v1 : Int} {v2 : Int} {v3 : Int} {v4 : Int} {v5 : Int} {v6 : Int} {v7 : Int} {v8 : Int} {M : jM} {Q : Int → jM → Prop} (h :
    (0 ≤ v2 ∧ v2 < jal 28 9) ∧ ((M 28 9 v2) ≤ v8 →
      jWP d 74 211 [some (.inr (28, 0)), some (.inl v1), some (.inl v2), some (.inl v3), some (.inl v4), some (.inl v5), some (.inl v6), some (.inl v7), none, none] [] M Q) ∧
    (v8 < (M 28 9 v2) →
      (0 ≤ v7 ∧ v7 < jal 28 12) ∧ ((0 : Int) ≤ (M 28 12 v7) →
        jWP d 74 211 [some (.inr (28, 0)), some (.inl v1), some (.inl v2), some (.inl v3), some (.inl v4), some (.inl v5), some (.inl v6), some (.inl v7), none, none] [] M Q) ∧
      ((M 28 12 v7) < (0 : Int) →
        (¬ (jiand (jishr v6 v8) 1) = (0 : Int) →
          jWP d 74 179 [some (.inr (28, 0)), some (.inl v1), some (.inl v2), some (.inl v3), some (.inl v4), some (.inl v5), some (.inl v6), some (.inl v7), some (.inl v8), none] [.inl 0] M Q) ∧
        ((jiand (jishr v6 v8) 1) = (0 : Int) →
          jCall d 73 [.inr (28, 0), .inl v1, .inl v7, .inl v2, .inl v8, .inl v3] M (fun r1 M1 =>
            (r1 = (0 : Int) →
              jWP d 74 179 [some (.inr (28, 0)), some (.inl v1), some (.inl v2), some (.inl v3), some (.inl v4), some (.inl v5), some (.inl v6), some (.inl v7), some (.inl v8), none] [.inl 0] M1 Q) ∧
            (¬ r1 = (0 : Int) →
              (v4 = (0 : Int) →
                jWP d 74 179 [some (.inr (28, 0)), some (.inl v1), some (.inl v2), some (.inl v3), some (.inl v4), some (.inl v5), some (.inl v6), some (.inl v7), some (.inl v8), none] [.inl 1] M1 Q) ∧
              (¬ v4 = (0 : Int) →
                jCall d 72 [.inr (28, 0), .inl v1, .inl v7, .inl v2, .inl v8] M1 (fun r2 M2 =>
                  (r2 = (0 : Int) →
                    jWP d 74 179 [some (.inr (28, 0)), some (.inl v1), some (.inl v2), some (.inl v3), some (.inl v4), some (.inl v5), some (.inl v6), some (.inl v7), some (.inl v8), none] [.inl 0] M2 Q) ∧
                  (¬ r2 = (0 : Int) →
                    jWP d 74 179 [some (.inr (28, 0)), some (.inl v1), some (.inl v2), some (.inl v3), some (.inl v4), some (.inl v5), some (.inl v6), some (.inl v7), some (.inl v8), none] [.inl 1] M2 Q))))))))) :
    jWP d 74 111 [some (.inr (28, 0)), some (.inl v1), some (.inl v2), some (.inl v3), some (.inl v4), some (.inl v5), some (.inl v6), some (.inl v7), some (.inl v8), none] [] M Q :=
  jreg [(14, [8, 9]), (88, [8, 9]), (111, [9]), (179, [9]), (211, [8, 9])] 50 (by decide) ckX10_weigh h
set_option maxRecDepth 100000 in
theorem fX10_weigh_179 {d : Nat} {v1 : Int} {v2 : Int} {v3 : Int} {v4 : Int} {v5 : Int} {v6 : Int} {v7 : Int} {v8 : Int} {s0 : Int} {M : jM} {Q : Int → jM → Prop} (h :
    (s0 = (0 : Int) →
      (0 ≤ v7 ∧ v7 < jal 28 12) ∧ (0 ≤ v7 ∧ v7 < jal 28 12) ∧ jWP d 74 111 [some (.inr (28, 0)), some (.inl v1), some (.inl v2), some (.inl v3), some (.inl v4), some (.inl v5), some (.inl v6), some (.inl v7), some (.inl (jwr (v8 + 1))), none] [] (jup M 28 12 v7 (M 28 12 v7)) Q) ∧
    (¬ s0 = (0 : Int) →
      (0 ≤ v7 ∧ v7 < jal 28 12) ∧ jWP d 74 111 [some (.inr (28, 0)), some (.inl v1), some (.inl v2), some (.inl v3), some (.inl v4), some (.inl v5), some (.inl v6), some (.inl v7), some (.inl (jwr (v8 + 1))), none] [] (jup M 28 12 v7 v8) Q)) :
    jWP d 74 179 [some (.inr (28, 0)), some (.inl v1), some (.inl v2), some (.inl v3), some (.inl v4), some (.inl v5), some (.inl v6), some (.inl v7), some (.inl v8), none] [.inl s0] M Q :=
  jreg [(14, [8, 9]), (88, [8, 9]), (111, [9]), (179, [9]), (211, [8, 9])] 22 (by decide) ckX10_weigh h
set_option maxRecDepth 100000 in
theorem fX10_weigh_211 {d : Nat} {v1 : Int} {v2 : Int} {v3 : Int} {v4 : Int} {v5 : Int} {v6 : Int} {v7 : Int} {M : jM} {Q : Int → jM → Prop} (h :
    (0 ≤ v7 ∧ v7 < jal 28 12) ∧ ((M 28 12 v7) < (0 : Int) →
      jWP d 74 88 [some (.inr (28, 0)), some (.inl v1), some (.inl v2), some (.inl v3), some (.inl v4), some (.inl v5), some (.inl v6), some (.inl (jwr (v7 + 1))), none, none] [] M Q) ∧
    ((0 : Int) ≤ (M 28 12 v7) →
      (0 ≤ v7 ∧ v7 < jal 28 12) ∧ jCall d 42 [.inl v1, .inl v7] (jup M 28 0 12 (jwr ((M 28 0 12) + 1))) (fun r1 M1 =>
        (0 ≤ r1 ∧ r1 < jal 28 10) ∧ (0 ≤ v7 ∧ v7 < jal 28 12) ∧ jCall d 42 [.inl v2, .inl (M1 28 12 v7)] M1 (fun r2 M2 =>
          (0 ≤ r2 ∧ r2 < jal 28 10) ∧ jCall d 52 [.inr (28, 0), .inl (M1 28 10 r1), .inl (M2 28 10 r2), .inl 2] M2 (fun r3 M3 =>
            jCall d 42 [.inl v1, .inl v7] M3 (fun r4 M4 =>
              (0 ≤ (jwr (r4 + 5)) ∧ (jwr (r4 + 5)) < jal 28 10) ∧ (¬ r3 = (0 : Int) →
                (¬ r3 = (1 : Int) →
                  jWP d 74 88 [some (.inr (28, 0)), some (.inl v1), some (.inl v2), some (.inl v3), some (.inl v4), some (.inl (jwr (v5 + (jwr ((M4 28 10 (jwr (r4 + 5))) * 3))))), some (.inl (jior v6 (jishl 1 (M 28 12 v7)))), some (.inl (jwr (v7 + 1))), none, none] [] M4 Q) ∧
                (r3 = (1 : Int) →
                  jWP d 74 88 [some (.inr (28, 0)), some (.inl v1), some (.inl v2), some (.inl v3), some (.inl v4), some (.inl (jwr (v5 + (jwr ((M4 28 10 (jwr (r4 + 5))) * 4))))), some (.inl (jior v6 (jishl 1 (M 28 12 v7)))), some (.inl (jwr (v7 + 1))), none, none] [] M4 Q)) ∧
              (r3 = (0 : Int) →
                jWP d 74 88 [some (.inr (28, 0)), some (.inl v1), some (.inl v2), some (.inl v3), some (.inl v4), some (.inl (jwr (v5 + (jwr ((M4 28 10 (jwr (r4 + 5))) * 6))))), some (.inl (jior v6 (jishl 1 (M 28 12 v7)))), some (.inl (jwr (v7 + 1))), none, none] [] M4 Q))))))) :
    jWP d 74 211 [some (.inr (28, 0)), some (.inl v1), some (.inl v2), some (.inl v3), some (.inl v4), some (.inl v5), some (.inl v6), some (.inl v7), none, none] [] M Q :=
  jreg [(14, [8, 9]), (88, [8, 9]), (111, [9]), (179, [9]), (211, [8, 9])] 81 (by decide) ckX10_weigh h
set_option maxRecDepth 100000 in
theorem fX10_pairsOfRow_0 {d : Nat} {v1 : Int} {M : jM} {Q : Int → jM → Prop} (h :
    jWP d 75 4 [some (.inr (28, 0)), some (.inl v1), some (.inl 0), some (.inl 0)] [] M Q) :
    jWP d 75 0 [some (.inr (28, 0)), some (.inl v1), none, none] [] M Q :=
  jreg [(4, [])] 7 (by decide) ckX10_pairsOfRow h
set_option maxRecDepth 100000 in
theorem fX10_pairsOfRow_4 {d : Nat} {v1 : Int} {v2 : Int} {v3 : Int} {M : jM} {Q : Int → jM → Prop} (h :
    (0 ≤ v1 ∧ v1 < jal 28 6) ∧ ((M 28 6 v1) ≤ v3 →
      Q v2 M) ∧
    (v3 < (M 28 6 v1) →
      (0 ≤ v3 ∧ v3 < jal 28 11) ∧ ((9 : Int) ≤ (M 28 11 v3) →
        jWP d 75 4 [some (.inr (28, 0)), some (.inl v1), some (.inl (jwr (v2 + 0))), some (.inl (jwr (v3 + 1)))] [] M Q) ∧
      ((M 28 11 v3) < (9 : Int) →
        jWP d 75 4 [some (.inr (28, 0)), some (.inl v1), some (.inl (jwr (v2 + 1))), some (.inl (jwr (v3 + 1)))] [] M Q))) :
    jWP d 75 4 [some (.inr (28, 0)), some (.inl v1), some (.inl v2), some (.inl v3)] [] M Q :=
  jreg [(4, [])] 30 (by decide) ckX10_pairsOfRow h
set_option maxRecDepth 100000 in
theorem fX10_isPairing_0 {d : Nat} {v1 : Int} {M : jM} {Q : Int → jM → Prop} (h :
    jWP d 76 7 [some (.inr (28, 0)), some (.inl v1), some (.inl 0), some (.inl 1), some (.inl 0)] [] M Q) :
    jWP d 76 0 [some (.inr (28, 0)), some (.inl v1), none, none, none] [] M Q :=
  jreg [(7, []), (53, [3])] 9 (by decide) ckX10_isPairing h
set_option maxRecDepth 100000 in
theorem fX10_isPairing_7 {d : Nat} {v1 : Int} {v2 : Int} {v3 : Int} {v4 : Int} {M : jM} {Q : Int → jM → Prop} (h :
    (0 ≤ v1 ∧ v1 < jal 28 6) ∧ ((M 28 6 v1) ≤ v4 →
      (v3 = 0 ∨ v3 = 1) ∧ Q v3 M) ∧
    (v4 < (M 28 6 v1) →
      (v3 = (0 : Int) →
        (v3 = 0 ∨ v3 = 1) ∧ Q v3 M) ∧
      (¬ v3 = (0 : Int) →
        (0 ≤ v4 ∧ v4 < jal 28 11) ∧ ((M 28 11 v4) = (9 : Int) →
          jWP d 76 53 [some (.inr (28, 0)), some (.inl v1), some (.inl v2), none, some (.inl v4)] [.inl 1] M Q) ∧
        (¬ (M 28 11 v4) = (9 : Int) →
          (0 ≤ v4 ∧ v4 < jal 28 11) ∧ (¬ (jiand (jishr v2 (M 28 11 v4)) 1) = (0 : Int) →
            jWP d 76 53 [some (.inr (28, 0)), some (.inl v1), some (.inl v2), none, some (.inl v4)] [.inl 0] M Q) ∧
          ((jiand (jishr v2 (M 28 11 v4)) 1) = (0 : Int) →
            jWP d 76 53 [some (.inr (28, 0)), some (.inl v1), some (.inl v2), none, some (.inl v4)] [.inl 1] M Q))))) :
    jWP d 76 7 [some (.inr (28, 0)), some (.inl v1), some (.inl v2), some (.inl v3), some (.inl v4)] [] M Q :=
  jreg [(7, []), (53, [3])] 37 (by decide) ckX10_isPairing h
set_option maxRecDepth 100000 in
theorem fX10_isPairing_53 {d : Nat} {v1 : Int} {v2 : Int} {v4 : Int} {s0 : Int} {M : jM} {Q : Int → jM → Prop} (h :
    (0 ≤ v4 ∧ v4 < jal 28 11) ∧ (¬ (M 28 11 v4) = (9 : Int) →
      (0 ≤ v4 ∧ v4 < jal 28 11) ∧ jWP d 76 7 [some (.inr (28, 0)), some (.inl v1), some (.inl (jior v2 (jishl 1 (M 28 11 v4)))), some (.inl s0), some (.inl (jwr (v4 + 1)))] [] M Q) ∧
    ((M 28 11 v4) = (9 : Int) →
      jWP d 76 7 [some (.inr (28, 0)), some (.inl v1), some (.inl (jior v2 0)), some (.inl s0), some (.inl (jwr (v4 + 1)))] [] M Q)) :
    jWP d 76 53 [some (.inr (28, 0)), some (.inl v1), some (.inl v2), none, some (.inl v4)] [.inl s0] M Q :=
  jreg [(7, []), (53, [3])] 28 (by decide) ckX10_isPairing h
set_option maxRecDepth 100000 in
theorem fX10_firstRow_0 {d : Nat} {v1 : Int} {v2 : Int} {M : jM} {Q : Int → jM → Prop} (h :
    jWP d 77 2 [some (.inr (28, 0)), none, some (.inl v2), some (.inl 0)] [] M Q) :
    jWP d 77 0 [some (.inr (28, 0)), some (.inl v1), some (.inl v2), none] [] M Q :=
  jreg [(2, [1])] 5 (by decide) ckX10_firstRow h
set_option maxRecDepth 100000 in
theorem fX10_firstRow_2 {d : Nat} {v2 : Int} {v3 : Int} {M : jM} {Q : Int → jM → Prop} (h :
    ((6 : Int) ≤ v3 →
      Q 0 M) ∧
    (v3 < (6 : Int) →
      (0 ≤ v2 ∧ v2 < jal 28 6) ∧ ((M 28 6 v2) ≤ (0 : Int) →
        (0 ≤ v3 ∧ v3 < jal 28 11) ∧ jWP d 77 2 [some (.inr (28, 0)), none, some (.inl v2), some (.inl (jwr (v3 + 1)))] [] (jup M 28 11 v3 9) Q) ∧
      ((0 : Int) < (M 28 6 v2) →
        (0 ≤ v3 ∧ v3 < jal 28 11) ∧ jWP d 77 2 [some (.inr (28, 0)), none, some (.inl v2), some (.inl (jwr (v3 + 1)))] [] (jup M 28 11 v3 0) Q))) :
    jWP d 77 2 [some (.inr (28, 0)), none, some (.inl v2), some (.inl v3)] [] M Q :=
  jreg [(2, [1])] 25 (by decide) ckX10_firstRow h
set_option maxRecDepth 100000 in
theorem fX10_nextRow_0 {d : Nat} {v1 : Int} {v2 : Int} {M : jM} {Q : Int → jM → Prop} (h :
    (0 ≤ v1 ∧ v1 < jal 28 6) ∧ jWP d 78 9 [some (.inr (28, 0)), none, some (.inl v2), some (.inl (jwr ((M 28 6 v1) - 1)))] [] M Q) :
    jWP d 78 0 [some (.inr (28, 0)), some (.inl v1), some (.inl v2), none] [] M Q :=
  jreg [(9, [1]), (51, [1])] 10 (by decide) ckX10_nextRow h
set_option maxRecDepth 100000 in
theorem fX10_nextRow_9 {d : Nat} {v2 : Int} {v3 : Int} {M : jM} {Q : Int → jM → Prop} (h :
    (v3 < (0 : Int) →
      jWP d 78 51 [some (.inr (28, 0)), none, some (.inl v2), some (.inl v3)] [] M Q) ∧
    ((0 : Int) ≤ v3 →
      (0 ≤ v3 ∧ v3 < jal 28 11) ∧ (¬ (M 28 11 v3) = (9 : Int) →
        jWP d 78 51 [some (.inr (28, 0)), none, some (.inl v2), some (.inl v3)] [] M Q) ∧
      ((M 28 11 v3) = (9 : Int) →
        (0 ≤ v2 ∧ v2 < jal 28 6) ∧ ((M 28 6 v2) ≤ (0 : Int) →
          (0 ≤ v3 ∧ v3 < jal 28 11) ∧ jWP d 78 9 [some (.inr (28, 0)), none, some (.inl v2), some (.inl (jwr (v3 + (-1))))] [] (jup M 28 11 v3 9) Q) ∧
        ((0 : Int) < (M 28 6 v2) →
          (0 ≤ v3 ∧ v3 < jal 28 11) ∧ jWP d 78 9 [some (.inr (28, 0)), none, some (.inl v2), some (.inl (jwr (v3 + (-1))))] [] (jup M 28 11 v3 0) Q)))) :
    jWP d 78 9 [some (.inr (28, 0)), none, some (.inl v2), some (.inl v3)] [] M Q :=
  jreg [(9, [1]), (51, [1])] 31 (by decide) ckX10_nextRow h
set_option maxRecDepth 100000 in
theorem fX10_nextRow_51 {d : Nat} {v2 : Int} {v3 : Int} {M : jM} {Q : Int → jM → Prop} (h :
    ((0 : Int) ≤ v3 →
      (0 ≤ v3 ∧ v3 < jal 28 11) ∧ (0 ≤ v2 ∧ v2 < jal 28 6) ∧ ((M 28 6 v2) ≤ (jwr ((M 28 11 v3) + 1)) →
        (0 ≤ v3 ∧ v3 < jal 28 11) ∧ ((1 : Int) = 0 ∨ (1 : Int) = 1) ∧ Q 1 (jup M 28 11 v3 9)) ∧
      ((jwr ((M 28 11 v3) + 1)) < (M 28 6 v2) →
        (0 ≤ v3 ∧ v3 < jal 28 11) ∧ (0 ≤ v3 ∧ v3 < jal 28 11) ∧ ((1 : Int) = 0 ∨ (1 : Int) = 1) ∧ Q 1 (jup M 28 11 v3 (jwr ((M 28 11 v3) + 1))))) ∧
    (v3 < (0 : Int) →
      ((0 : Int) = 0 ∨ (0 : Int) = 1) ∧ Q 0 M)) :
    jWP d 78 51 [some (.inr (28, 0)), none, some (.inl v2), some (.inl v3)] [] M Q :=
  jreg [(9, [1]), (51, [1])] 34 (by decide) ckX10_nextRow h
set_option maxRecDepth 100000 in
theorem fX10_isWeighed_0 {d : Nat} {v1 : Int} {v2 : Int} {v3 : Int} {M : jM} {Q : Int → jM → Prop} (h :
    (0 ≤ v1 ∧ v1 < jal 28 6) ∧ (0 ≤ v2 ∧ v2 < jal 28 6) ∧ ((M 28 6 v2) ≤ (M 28 6 v1) →
      (0 ≤ v2 ∧ v2 < jal 28 6) ∧ jWP d 79 30 [some (.inr (28, 0)), some (.inl v1), none, some (.inl v3), none] [.inl (M 28 6 v2)] M Q) ∧
    ((M 28 6 v1) < (M 28 6 v2) →
      (0 ≤ v1 ∧ v1 < jal 28 6) ∧ jWP d 79 30 [some (.inr (28, 0)), some (.inl v1), none, some (.inl v3), none] [.inl (M 28 6 v1)] M Q)) :
    jWP d 79 0 [some (.inr (28, 0)), some (.inl v1), some (.inl v2), some (.inl v3), none] [] M Q :=
  jreg [(30, [2, 4])] 22 (by decide) ckX10_isWeighed h
set_option maxRecDepth 100000 in
theorem fX10_isWeighed_30 {d : Nat} {v1 : Int} {v3 : Int} {s0 : Int} {M : jM} {Q : Int → jM → Prop} (h :
    jCall d 76 [.inr (28, 0), .inl v1] M (fun r1 M1 =>
      (r1 = (0 : Int) →
        ((0 : Int) = 0 ∨ (0 : Int) = 1) ∧ Q 0 M1) ∧
      (¬ r1 = (0 : Int) →
        (¬ v3 = (0 : Int) →
          ((1 : Int) = 0 ∨ (1 : Int) = 1) ∧ Q 1 M1) ∧
        (v3 = (0 : Int) →
          jCall d 75 [.inr (28, 0), .inl v1] M1 (fun r2 M2 =>
            (¬ r2 = s0 →
              ((0 : Int) = 0 ∨ (0 : Int) = 1) ∧ Q 0 M2) ∧
            (r2 = s0 →
              ((1 : Int) = 0 ∨ (1 : Int) = 1) ∧ Q 1 M2)))))) :
    jWP d 79 30 [some (.inr (28, 0)), some (.inl v1), none, some (.inl v3), none] [.inl s0] M Q :=
  jreg [(30, [2, 4])] 24 (by decide) ckX10_isWeighed h
set_option maxRecDepth 100000 in
theorem fX10_likeness_0 {d : Nat} {v1 : Int} {v2 : Int} {v3 : Int} {v4 : Int} {M : jM} {Q : Int → jM → Prop} (h :
    jCall d 77 [.inr (28, 0), .inl v1, .inl v2] (jup (jup (jup M 28 0 14 (-1)) 28 0 15 0) 28 0 16 0) (fun _ M1 =>
      jWP d 80 24 [some (.inr (28, 0)), some (.inl v1), some (.inl v2), some (.inl v3), some (.inl v4), some (.inl 1), none, none, none] [] M1 Q)) :
    jWP d 80 0 [some (.inr (28, 0)), some (.inl v1), some (.inl v2), some (.inl v3), some (.inl v4), none, none, none, none] [] M Q :=
  jreg [(24, [6, 7, 8]), (81, [5, 8]), (126, [5, 6, 7]), (167, [5, 7, 8])] 18 (by decide) ckX10_likeness h
set_option maxRecDepth 100000 in
theorem fX10_likeness_24 {d : Nat} {v1 : Int} {v2 : Int} {v3 : Int} {v4 : Int} {v5 : Int} {M : jM} {Q : Int → jM → Prop} (h :
    (v5 = (0 : Int) →
      jWP d 80 167 [some (.inr (28, 0)), some (.inl v1), some (.inl v2), some (.inl v3), some (.inl v4), none, some (.inl 0), none, none] [] M Q) ∧
    (¬ v5 = (0 : Int) →
      jCall d 79 [.inr (28, 0), .inl v1, .inl v2, .inl v4] M (fun r1 M1 =>
        (r1 = (0 : Int) →
          jCall d 78 [.inr (28, 0), .inl v1, .inl v2] M1 (fun r2 M2 =>
            jWP d 80 24 [some (.inr (28, 0)), some (.inl v1), some (.inl v2), some (.inl v3), some (.inl v4), some (.inl r2), none, none, none] [] M2 Q)) ∧
        (¬ r1 = (0 : Int) →
          jCall d 74 [.inr (28, 0), .inl v1, .inl v2, .inl v3, .inl v4] M1 (fun r3 M3 =>
            jCall d 75 [.inr (28, 0), .inl v1] M3 (fun r4 M4 =>
              ((M4 28 0 12) ≤ (M4 28 0 16) →
                jWP d 80 81 [some (.inr (28, 0)), some (.inl v1), some (.inl v2), some (.inl v3), some (.inl v4), none, some (.inl r3), some (.inl r4), none] [.inl (M4 28 0 16), .inr (28, 0)] M4 Q) ∧
              ((M4 28 0 16) < (M4 28 0 12) →
                jWP d 80 81 [some (.inr (28, 0)), some (.inl v1), some (.inl v2), some (.inl v3), some (.inl v4), none, some (.inl r3), some (.inl r4), none] [.inl (M4 28 0 12), .inr (28, 0)] M4 Q))))))) :
    jWP d 80 24 [some (.inr (28, 0)), some (.inl v1), some (.inl v2), some (.inl v3), some (.inl v4), some (.inl v5), none, none, none] [] M Q :=
  jreg [(24, [6, 7, 8]), (81, [5, 8]), (126, [5, 6, 7]), (167, [5, 7, 8])] 44 (by decide) ckX10_likeness h
set_option maxRecDepth 100000 in
theorem fX10_likeness_81 {d : Nat} {v1 : Int} {v2 : Int} {v3 : Int} {v4 : Int} {v6 : Int} {v7 : Int} {s0 : Int} {M : jM} {Q : Int → jM → Prop} (h :
    (((jup M 28 0 16 s0) 28 0 14) < v6 →
      jWP d 80 126 [some (.inr (28, 0)), some (.inl v1), some (.inl v2), some (.inl v3), some (.inl v4), none, none, none, some (.inl 0)] [] (jup (jup (jup M 28 0 16 s0) 28 0 14 v6) 28 0 15 v7) Q) ∧
    (v6 ≤ ((jup M 28 0 16 s0) 28 0 14) →
      (¬ v6 = ((jup M 28 0 16 s0) 28 0 14) →
        jCall d 78 [.inr (28, 0), .inl v1, .inl v2] (jup M 28 0 16 s0) (fun r1 M1 =>
          jWP d 80 24 [some (.inr (28, 0)), some (.inl v1), some (.inl v2), some (.inl v3), some (.inl v4), some (.inl r1), none, none, none] [] M1 Q)) ∧
      (v6 = ((jup M 28 0 16 s0) 28 0 14) →
        (v7 ≤ ((jup M 28 0 16 s0) 28 0 15) →
          jCall d 78 [.inr (28, 0), .inl v1, .inl v2] (jup M 28 0 16 s0) (fun r2 M2 =>
            jWP d 80 24 [some (.inr (28, 0)), some (.inl v1), some (.inl v2), some (.inl v3), some (.inl v4), some (.inl r2), none, none, none] [] M2 Q)) ∧
        (((jup M 28 0 16 s0) 28 0 15) < v7 →
          jWP d 80 126 [some (.inr (28, 0)), some (.inl v1), some (.inl v2), some (.inl v3), some (.inl v4), none, none, none, some (.inl 0)] [] (jup (jup (jup M 28 0 16 s0) 28 0 14 v6) 28 0 15 v7) Q)))) :
    jWP d 80 81 [some (.inr (28, 0)), some (.inl v1), some (.inl v2), some (.inl v3), some (.inl v4), none, some (.inl v6), some (.inl v7), none] [.inl s0, .inr (28, 0)] M Q :=
  jreg [(24, [6, 7, 8]), (81, [5, 8]), (126, [5, 6, 7]), (167, [5, 7, 8])] 47 (by decide) ckX10_likeness h
set_option maxRecDepth 100000 in
theorem fX10_likeness_126 {d : Nat} {v1 : Int} {v2 : Int} {v3 : Int} {v4 : Int} {v8 : Int} {M : jM} {Q : Int → jM → Prop} (h :
    ((6 : Int) ≤ v8 →
      jCall d 78 [.inr (28, 0), .inl v1, .inl v2] M (fun r1 M1 =>
        jWP d 80 24 [some (.inr (28, 0)), some (.inl v1), some (.inl v2), some (.inl v3), some (.inl v4), some (.inl r1), none, none, none] [] M1 Q)) ∧
    (v8 < (6 : Int) →
      (0 ≤ v8 ∧ v8 < jal 28 11) ∧ (0 ≤ v8 ∧ v8 < jal 28 14) ∧ jWP d 80 126 [some (.inr (28, 0)), some (.inl v1), some (.inl v2), some (.inl v3), some (.inl v4), none, none, none, some (.inl (jwr (v8 + 1)))] [] (jup M 28 14 v8 (M 28 11 v8)) Q)) :
    jWP d 80 126 [some (.inr (28, 0)), some (.inl v1), some (.inl v2), some (.inl v3), some (.inl v4), none, none, none, some (.inl v8)] [] M Q :=
  jreg [(24, [6, 7, 8]), (81, [5, 8]), (126, [5, 6, 7]), (167, [5, 7, 8])] 23 (by decide) ckX10_likeness h
set_option maxRecDepth 100000 in
theorem fX10_likeness_167 {d : Nat} {v1 : Int} {v2 : Int} {v3 : Int} {v4 : Int} {v6 : Int} {M : jM} {Q : Int → jM → Prop} (h :
    ((6 : Int) ≤ v6 →
      jCall d 74 [.inr (28, 0), .inl v1, .inl v2, .inl v3, .inl v4] M (fun r1 M1 =>
        Q r1 M1)) ∧
    (v6 < (6 : Int) →
      (0 ≤ v6 ∧ v6 < jal 28 14) ∧ (0 ≤ v6 ∧ v6 < jal 28 11) ∧ jWP d 80 167 [some (.inr (28, 0)), some (.inl v1), some (.inl v2), some (.inl v3), some (.inl v4), none, some (.inl (jwr (v6 + 1))), none, none] [] (jup M 28 11 v6 (M 28 14 v6)) Q)) :
    jWP d 80 167 [some (.inr (28, 0)), some (.inl v1), some (.inl v2), some (.inl v3), some (.inl v4), none, some (.inl v6), none, none] [] M Q :=
  jreg [(24, [6, 7, 8]), (81, [5, 8]), (126, [5, 6, 7]), (167, [5, 7, 8])] 23 (by decide) ckX10_likeness h
set_option maxRecDepth 100000 in
theorem fX10_isLevel_0 {d : Nat} {v0 : Int} {M : jM} {Q : Int → jM → Prop} (h :
    jCall d 39 [.inl v0, .inl 0, .inl 2] M (fun r1 M1 =>
      (r1 = 0 ∨ r1 = 1) ∧ Q r1 M1)) :
    jWP d 81 0 [some (.inl v0)] [] M Q :=
  jreg [] 7 (by decide) ckX10_isLevel h
set_option maxRecDepth 100000 in
theorem fX10_like_0 {d : Nat} {v1 : Int} {v2 : Int} {v3 : Int} {M : jM} {Q : Int → jM → Prop} (h :
    jCall d 41 [.inl v1] M (fun r1 M1 =>
      (r1 = (0 : Int) →
        Q (-1) M1) ∧
      (¬ r1 = (0 : Int) →
        jCall d 41 [.inl v2] M1 (fun r2 M2 =>
          (¬ r2 = (0 : Int) →
            jCall d 81 [.inl v3] M2 (fun r3 M3 =>
              (¬ r3 = (0 : Int) →
                (¬ (M3 28 0 4) = (1 : Int) →
                  jWP d 82 43 [some (.inr (28, 0)), some (.inl v1), some (.inl v2), some (.inl v3), none, none] [.inl 0, .inl v3, .inl v2, .inl v1, .inr (28, 0)] M3 Q) ∧
                ((M3 28 0 4) = (1 : Int) →
                  jWP d 82 43 [some (.inr (28, 0)), some (.inl v1), some (.inl v2), some (.inl v3), none, none] [.inl 1, .inl v3, .inl v2, .inl v1, .inr (28, 0)] M3 Q)) ∧
              (r3 = (0 : Int) →
                Q (-2) M3))) ∧
          (r2 = (0 : Int) →
            Q (-1) M2))))) :
    jWP d 82 0 [some (.inr (28, 0)), some (.inl v1), some (.inl v2), some (.inl v3), none, none] [] M Q :=
  jreg [(43, [4, 5]), (72, [3, 5]), (92, [1, 2, 3]), (122, [1, 2, 3])] 30 (by decide) ckX10_like h
set_option maxRecDepth 100000 in
theorem fX10_like_43 {d : Nat} {v1 : Int} {v2 : Int} {v3 : Int} {s0 : Int} {s1 : Int} {s2 : Int} {s3 : Int} {M : jM} {Q : Int → jM → Prop} (h :
    jCall d 80 [.inr (28, 0), .inl s3, .inl s2, .inl s1, .inl s0] M (fun r1 M1 =>
      ((1 : Int) = 0 ∨ (1 : Int) = 1) ∧ (¬ ((jup (jup M1 28 0 17 1) 28 0 18 v3) 28 0 4) = (1 : Int) →
        jWP d 82 72 [some (.inr (28, 0)), some (.inl v1), some (.inl v2), none, some (.inl r1), none] [.inl 0, .inr (28, 0)] (jup (jup M1 28 0 17 1) 28 0 18 v3) Q) ∧
      (((jup (jup M1 28 0 17 1) 28 0 18 v3) 28 0 4) = (1 : Int) →
        jWP d 82 72 [some (.inr (28, 0)), some (.inl v1), some (.inl v2), none, some (.inl r1), none] [.inl 1, .inr (28, 0)] (jup (jup M1 28 0 17 1) 28 0 18 v3) Q))) :
    jWP d 82 43 [some (.inr (28, 0)), some (.inl v1), some (.inl v2), some (.inl v3), none, none] [.inl s0, .inl s1, .inl s2, .inl s3, .inr (28, 0)] M Q :=
  jreg [(43, [4, 5]), (72, [3, 5]), (92, [1, 2, 3]), (122, [1, 2, 3])] 20 (by decide) ckX10_like h
set_option maxRecDepth 100000 in
theorem fX10_like_72 {d : Nat} {v1 : Int} {v2 : Int} {v4 : Int} {s0 : Int} {M : jM} {Q : Int → jM → Prop} (h :
    (s0 = 0 ∨ s0 = 1) ∧ jCall d 68 [.inr (28, 0), .inl 12, .inl v1] (jup M 28 0 19 s0) (fun _ M1 =>
      jCall d 68 [.inr (28, 0), .inl 13, .inl v2] M1 (fun _ M2 =>
        jWP d 82 92 [some (.inr (28, 0)), none, none, none, some (.inl v4), some (.inl 0)] [] M2 Q))) :
    jWP d 82 72 [some (.inr (28, 0)), some (.inl v1), some (.inl v2), none, some (.inl v4), none] [.inl s0, .inr (28, 0)] M Q :=
  jreg [(43, [4, 5]), (72, [3, 5]), (92, [1, 2, 3]), (122, [1, 2, 3])] 14 (by decide) ckX10_like h
set_option maxRecDepth 100000 in
theorem fX10_like_92 {d : Nat} {v4 : Int} {v5 : Int} {M : jM} {Q : Int → jM → Prop} (h :
    ((6 : Int) ≤ v5 →
      jWP d 82 122 [some (.inr (28, 0)), none, none, none, some (.inl v4), some (.inl 0)] [] M Q) ∧
    (v5 < (6 : Int) →
      (0 ≤ v5 ∧ v5 < jal 28 11) ∧ (0 ≤ v5 ∧ v5 < jal 28 21) ∧ jWP d 82 92 [some (.inr (28, 0)), none, none, none, some (.inl v4), some (.inl (jwr (v5 + 1)))] [] (jup M 28 21 v5 (M 28 11 v5)) Q)) :
    jWP d 82 92 [some (.inr (28, 0)), none, none, none, some (.inl v4), some (.inl v5)] [] M Q :=
  jreg [(43, [4, 5]), (72, [3, 5]), (92, [1, 2, 3]), (122, [1, 2, 3])] 19 (by decide) ckX10_like h
set_option maxRecDepth 100000 in
theorem fX10_like_122 {d : Nat} {v4 : Int} {v5 : Int} {M : jM} {Q : Int → jM → Prop} (h :
    ((14 : Int) ≤ v5 →
      Q v4 M) ∧
    (v5 < (14 : Int) →
      (0 ≤ v5 ∧ v5 < jal 28 12) ∧ (0 ≤ v5 ∧ v5 < jal 28 22) ∧ jWP d 82 122 [some (.inr (28, 0)), none, none, none, some (.inl v4), some (.inl (jwr (v5 + 1)))] [] (jup M 28 22 v5 (M 28 12 v5)) Q)) :
    jWP d 82 122 [some (.inr (28, 0)), none, none, none, some (.inl v4), some (.inl v5)] [] M Q :=
  jreg [(43, [4, 5]), (72, [3, 5]), (92, [1, 2, 3]), (122, [1, 2, 3])] 18 (by decide) ckX10_like h
set_option maxRecDepth 100000 in
theorem fX10_partner_0 {d : Nat} {v1 : Int} {M : jM} {Q : Int → jM → Prop} (h :
    (¬ (M 28 0 17) = (0 : Int) →
      jCall d 57 [.inr (28, 0), .inl 12, .inl v1] M (fun r1 M1 =>
        (¬ r1 = (0 : Int) →
          (0 ≤ v1 ∧ v1 < jal 28 21) ∧ (¬ (M1 28 21 v1) = (9 : Int) →
            (0 ≤ v1 ∧ v1 < jal 28 21) ∧ Q (M1 28 21 v1) M1) ∧
          ((M1 28 21 v1) = (9 : Int) →
            Q (-6) M1)) ∧
        (r1 = (0 : Int) →
          Q (-1) M1))) ∧
    ((M 28 0 17) = (0 : Int) →
      Q (-3) M)) :
    jWP d 83 0 [some (.inr (28, 0)), some (.inl v1)] [] M Q :=
  jreg [] 29 (by decide) ckX10_partner h
set_option maxRecDepth 100000 in
theorem fX10_answer_0 {d : Nat} {v1 : Int} {M : jM} {Q : Int → jM → Prop} (h :
    (¬ (M 28 0 17) = (0 : Int) →
      (0 ≤ (12 : Int) ∧ (12 : Int) < jal 28 9) ∧ jCall d 39 [.inl v1, .inl 0, .inl (jwr ((M 28 9 12) - 1))] M (fun r1 M1 =>
        (r1 = (0 : Int) →
          Q (-1) M1) ∧
        (¬ r1 = (0 : Int) →
          (0 ≤ v1 ∧ v1 < jal 28 22) ∧ Q (M1 28 22 v1) M1))) ∧
    ((M 28 0 17) = (0 : Int) →
      Q (-3) M)) :
    jWP d 84 0 [some (.inr (28, 0)), some (.inl v1)] [] M Q :=
  jreg [] 25 (by decide) ckX10_answer h
set_option maxRecDepth 100000 in
theorem fX10_digits_0 {d : Nat} {v1 : Int} {M : jM} {Q : Int → jM → Prop} (h :
    jWP d 85 4 [some (.inr (28, 0)), some (.inl v1), some (.inl 0), some (.inl 0)] [] M Q) :
    jWP d 85 0 [some (.inr (28, 0)), some (.inl v1), none, none] [] M Q :=
  jreg [(4, [])] 7 (by decide) ckX10_digits h
set_option maxRecDepth 100000 in
theorem fX10_digits_4 {d : Nat} {v1 : Int} {v2 : Int} {v3 : Int} {M : jM} {Q : Int → jM → Prop} (h :
    (0 ≤ v1 ∧ v1 < jal 28 6) ∧ ((M 28 6 v1) ≤ v3 →
      Q v2 M) ∧
    (v3 < (M 28 6 v1) →
      (0 ≤ v3 ∧ v3 < jal 28 11) ∧ jWP d 85 4 [some (.inr (28, 0)), some (.inl v1), some (.inl (jwr ((jwr (10 * v2)) + (M 28 11 v3)))), some (.inl (jwr (v3 + 1)))] [] M Q)) :
    jWP d 85 4 [some (.inr (28, 0)), some (.inl v1), some (.inl v2), some (.inl v3)] [] M Q :=
  jreg [(4, [])] 22 (by decide) ckX10_digits h
set_option maxRecDepth 100000 in
theorem fX10_likes_0 {d : Nat} {v1 : Int} {v2 : Int} {v3 : Int} {v4 : Int} {M : jM} {Q : Int → jM → Prop} (h :
    jCall d 41 [.inl v1] M (fun r1 M1 =>
      (r1 = (0 : Int) →
        Q (-1) M1) ∧
      (¬ r1 = (0 : Int) →
        jCall d 41 [.inl v2] M1 (fun r2 M2 =>
          (¬ r2 = (0 : Int) →
            jCall d 81 [.inl v3] M2 (fun r3 M3 =>
              (¬ r3 = (0 : Int) →
                (¬ (M3 28 0 4) = (1 : Int) →
                  jWP d 86 43 [some (.inr (28, 0)), some (.inl v1), some (.inl v2), some (.inl v3), some (.inl v4), none, none, none, none] [.inl 0, .inl v3, .inl v2, .inl v1, .inr (28, 0)] M3 Q) ∧
                ((M3 28 0 4) = (1 : Int) →
                  jWP d 86 43 [some (.inr (28, 0)), some (.inl v1), some (.inl v2), some (.inl v3), some (.inl v4), none, none, none, none] [.inl 1, .inl v3, .inl v2, .inl v1, .inr (28, 0)] M3 Q)) ∧
              (r3 = (0 : Int) →
                Q (-2) M3))) ∧
          (r2 = (0 : Int) →
            Q (-1) M2))))) :
    jWP d 86 0 [some (.inr (28, 0)), some (.inl v1), some (.inl v2), some (.inl v3), some (.inl v4), none, none, none, none] [] M Q :=
  jreg [(43, [5, 6, 7, 8]), (66, []), (106, [8])] 30 (by decide) ckX10_likes h
set_option maxRecDepth 100000 in
theorem fX10_likes_43 {d : Nat} {v1 : Int} {v2 : Int} {v3 : Int} {v4 : Int} {s0 : Int} {s1 : Int} {s2 : Int} {s3 : Int} {M : jM} {Q : Int → jM → Prop} (h :
    jCall d 80 [.inr (28, 0), .inl s3, .inl s2, .inl s1, .inl s0] M (fun r1 M1 =>
      jCall d 77 [.inr (28, 0), .inl v1, .inl v2] M1 (fun _ M2 =>
        jWP d 86 66 [some (.inr (28, 0)), some (.inl v1), some (.inl v2), some (.inl v3), some (.inl v4), some (.inl r1), some (.inl (M1 28 0 15)), some (.inl 0), some (.inl 1)] [] M2 Q))) :
    jWP d 86 43 [some (.inr (28, 0)), some (.inl v1), some (.inl v2), some (.inl v3), some (.inl v4), none, none, none, none] [.inl s0, .inl s1, .inl s2, .inl s3, .inr (28, 0)] M Q :=
  jreg [(43, [5, 6, 7, 8]), (66, []), (106, [8])] 16 (by decide) ckX10_likes h
set_option maxRecDepth 100000 in
theorem fX10_likes_66 {d : Nat} {v1 : Int} {v2 : Int} {v3 : Int} {v4 : Int} {v5 : Int} {v6 : Int} {v7 : Int} {v8 : Int} {M : jM} {Q : Int → jM → Prop} (h :
    (v8 = (0 : Int) →
      (¬ v4 = (-1 : Int) →
        Q (-6) M) ∧
      (v4 = (-1 : Int) →
        Q v7 M)) ∧
    (¬ v8 = (0 : Int) →
      jCall d 76 [.inr (28, 0), .inl v1] M (fun r1 M1 =>
        (r1 = (0 : Int) →
          jCall d 78 [.inr (28, 0), .inl v1, .inl v2] M1 (fun r2 M2 =>
            jWP d 86 66 [some (.inr (28, 0)), some (.inl v1), some (.inl v2), some (.inl v3), some (.inl v4), some (.inl v5), some (.inl v6), some (.inl v7), some (.inl r2)] [] M2 Q)) ∧
        (¬ r1 = (0 : Int) →
          jCall d 75 [.inr (28, 0), .inl v1] M1 (fun r3 M3 =>
            (¬ r3 = v6 →
              jCall d 78 [.inr (28, 0), .inl v1, .inl v2] M3 (fun r4 M4 =>
                jWP d 86 66 [some (.inr (28, 0)), some (.inl v1), some (.inl v2), some (.inl v3), some (.inl v4), some (.inl v5), some (.inl v6), some (.inl v7), some (.inl r4)] [] M4 Q)) ∧
            (r3 = v6 →
              (¬ (M3 28 0 4) = (1 : Int) →
                jWP d 86 106 [some (.inr (28, 0)), some (.inl v1), some (.inl v2), some (.inl v3), some (.inl v4), some (.inl v5), some (.inl v6), some (.inl v7), none] [.inl 0, .inl v3, .inl v2, .inl v1, .inr (28, 0)] M3 Q) ∧
              ((M3 28 0 4) = (1 : Int) →
                jWP d 86 106 [some (.inr (28, 0)), some (.inl v1), some (.inl v2), some (.inl v3), some (.inl v4), some (.inl v5), some (.inl v6), some (.inl v7), none] [.inl 1, .inl v3, .inl v2, .inl v1, .inr (28, 0)] M3 Q))))))) :
    jWP d 86 66 [some (.inr (28, 0)), some (.inl v1), some (.inl v2), some (.inl v3), some (.inl v4), some (.inl v5), some (.inl v6), some (.inl v7), some (.inl v8)] [] M Q :=
  jreg [(43, [5, 6, 7, 8]), (66, []), (106, [8])] 48 (by decide) ckX10_likes h
set_option maxRecDepth 100000 in
theorem fX10_likes_106 {d : Nat} {v1 : Int} {v2 : Int} {v3 : Int} {v4 : Int} {v5 : Int} {v6 : Int} {v7 : Int} {s0 : Int} {s1 : Int} {s2 : Int} {s3 : Int} {M : jM} {Q : Int → jM → Prop} (h :
    jCall d 74 [.inr (28, 0), .inl s3, .inl s2, .inl s1, .inl s0] M (fun r1 M1 =>
      (¬ r1 = v5 →
        jCall d 78 [.inr (28, 0), .inl v1, .inl v2] M1 (fun r2 M2 =>
          jWP d 86 66 [some (.inr (28, 0)), some (.inl v1), some (.inl v2), some (.inl v3), some (.inl v4), some (.inl v5), some (.inl v6), some (.inl v7), some (.inl r2)] [] M2 Q)) ∧
      (r1 = v5 →
        (¬ v7 = v4 →
          jCall d 78 [.inr (28, 0), .inl v1, .inl v2] M1 (fun r3 M3 =>
            jWP d 86 66 [some (.inr (28, 0)), some (.inl v1), some (.inl v2), some (.inl v3), some (.inl v4), some (.inl v5), some (.inl v6), some (.inl (jwr (v7 + 1))), some (.inl r3)] [] M3 Q)) ∧
        (v7 = v4 →
          jCall d 85 [.inr (28, 0), .inl v1] M1 (fun r4 M4 =>
            Q r4 M4))))) :
    jWP d 86 106 [some (.inr (28, 0)), some (.inl v1), some (.inl v2), some (.inl v3), some (.inl v4), some (.inl v5), some (.inl v6), some (.inl v7), none] [.inl s0, .inl s1, .inl s2, .inl s3, .inr (28, 0)] M Q :=
  jreg [(43, [5, 6, 7, 8]), (66, []), (106, [8])] 27 (by decide) ckX10_likes h
set_option maxRecDepth 100000 in
theorem fX10_worth_0 {d : Nat} {v1 : Int} {v2 : Int} {v3 : Int} {v4 : Int} {M : jM} {Q : Int → jM → Prop} (h :
    jCall d 41 [.inl v1] M (fun r1 M1 =>
      (r1 = (0 : Int) →
        Q (-1) M1) ∧
      (¬ r1 = (0 : Int) →
        jCall d 41 [.inl v2] M1 (fun r2 M2 =>
          (¬ r2 = (0 : Int) →
            jCall d 81 [.inl v3] M2 (fun r3 M3 =>
              (r3 = (0 : Int) →
                (0 ≤ v1 ∧ v1 < jal 28 6) ∧ jWP d 87 49 [some (.inr (28, 0)), some (.inl v1), some (.inl v2), some (.inl v3), none, some (.inl v4), some (.inl 0), some (.inl (jwr ((M3 28 6 v1) - 1)))] [] M3 Q) ∧
              (¬ r3 = (0 : Int) →
                (v4 < (0 : Int) →
                  (0 ≤ v1 ∧ v1 < jal 28 6) ∧ jWP d 87 49 [some (.inr (28, 0)), some (.inl v1), some (.inl v2), some (.inl v3), none, some (.inl v4), some (.inl 0), some (.inl (jwr ((M3 28 6 v1) - 1)))] [] M3 Q) ∧
                ((0 : Int) ≤ v4 →
                  (0 ≤ v1 ∧ v1 < jal 28 6) ∧ jWP d 87 49 [some (.inr (28, 0)), some (.inl v1), some (.inl v2), some (.inl v3), none, some (.inl v4), some (.inl 1), some (.inl (jwr ((M3 28 6 v1) - 1)))] [] M3 Q)))) ∧
          (r2 = (0 : Int) →
            Q (-1) M2))))) :
    jWP d 87 0 [some (.inr (28, 0)), some (.inl v1), some (.inl v2), some (.inl v3), some (.inl v4), none, none, none] [] M Q :=
  jreg [(49, [4]), (119, [4, 7])] 50 (by decide) ckX10_worth h
set_option maxRecDepth 100000 in
theorem fX10_worth_49 {d : Nat} {v1 : Int} {v2 : Int} {v3 : Int} {v5 : Int} {v6 : Int} {v7 : Int} {M : jM} {Q : Int → jM → Prop} (h :
    (v7 < (0 : Int) →
      jWP d 87 119 [some (.inr (28, 0)), some (.inl v1), some (.inl v2), some (.inl v3), none, some (.inl v5), some (.inl v6), none] [] M Q) ∧
    ((0 : Int) ≤ v7 →
      (v6 = (0 : Int) →
        jWP d 87 119 [some (.inr (28, 0)), some (.inl v1), some (.inl v2), some (.inl v3), none, some (.inl v5), some (.inl v6), none] [] M Q) ∧
      (¬ v6 = (0 : Int) →
        ¬ (10 : Int) = 0 ∧ (0 ≤ v7 ∧ v7 < jal 28 11) ∧ ¬ (10 : Int) = 0 ∧ (0 ≤ v7 ∧ v7 < jal 28 11) ∧ (((jup M 28 11 v7 (jwr (v5 - Int.tdiv v5 10 * 10))) 28 11 v7) = (9 : Int) →
          jWP d 87 49 [some (.inr (28, 0)), some (.inl v1), some (.inl v2), some (.inl v3), none, some (.inl (jwr (Int.tdiv v5 10))), some (.inl 1), some (.inl (jwr (v7 + (-1))))] [] (jup M 28 11 v7 (jwr (v5 - Int.tdiv v5 10 * 10))) Q) ∧
        (¬ ((jup M 28 11 v7 (jwr (v5 - Int.tdiv v5 10 * 10))) 28 11 v7) = (9 : Int) →
          (0 ≤ v7 ∧ v7 < jal 28 11) ∧ (0 ≤ v2 ∧ v2 < jal 28 6) ∧ (((jup M 28 11 v7 (jwr (v5 - Int.tdiv v5 10 * 10))) 28 6 v2) ≤ ((jup M 28 11 v7 (jwr (v5 - Int.tdiv v5 10 * 10))) 28 11 v7) →
            jWP d 87 49 [some (.inr (28, 0)), some (.inl v1), some (.inl v2), some (.inl v3), none, some (.inl (jwr (Int.tdiv v5 10))), some (.inl 0), some (.inl (jwr (v7 + (-1))))] [] (jup M 28 11 v7 (jwr (v5 - Int.tdiv v5 10 * 10))) Q) ∧
          (((jup M 28 11 v7 (jwr (v5 - Int.tdiv v5 10 * 10))) 28 11 v7) < ((jup M 28 11 v7 (jwr (v5 - Int.tdiv v5 10 * 10))) 28 6 v2) →
            jWP d 87 49 [some (.inr (28, 0)), some (.inl v1), some (.inl v2), some (.inl v3), none, some (.inl (jwr (Int.tdiv v5 10))), some (.inl 1), some (.inl (jwr (v7 + (-1))))] [] (jup M 28 11 v7 (jwr (v5 - Int.tdiv v5 10 * 10))) Q))))) :
    jWP d 87 49 [some (.inr (28, 0)), some (.inl v1), some (.inl v2), some (.inl v3), none, some (.inl v5), some (.inl v6), some (.inl v7)] [] M Q :=
  jreg [(49, [4]), (119, [4, 7])] 51 (by decide) ckX10_worth h
set_option maxRecDepth 100000 in
theorem fX10_worth_119 {d : Nat} {v1 : Int} {v2 : Int} {v3 : Int} {v5 : Int} {v6 : Int} {M : jM} {Q : Int → jM → Prop} (h :
    (v6 = (0 : Int) →
      Q (-2) M) ∧
    (¬ v6 = (0 : Int) →
      (¬ v5 = (0 : Int) →
        Q (-2) M) ∧
      (v5 = (0 : Int) →
        jCall d 76 [.inr (28, 0), .inl v1] M (fun r1 M1 =>
          (¬ r1 = (0 : Int) →
            (¬ (M1 28 0 4) = (1 : Int) →
              jCall d 74 [.inr (28, 0), .inl v1, .inl v2, .inl v3, .inl 0] M1 (fun r2 M2 =>
                Q r2 M2)) ∧
            ((M1 28 0 4) = (1 : Int) →
              jCall d 74 [.inr (28, 0), .inl v1, .inl v2, .inl v3, .inl 1] M1 (fun r3 M3 =>
                Q r3 M3))) ∧
          (r1 = (0 : Int) →
            Q (-2) M1))))) :
    jWP d 87 119 [some (.inr (28, 0)), some (.inl v1), some (.inl v2), some (.inl v3), none, some (.inl v5), some (.inl v6), none] [] M Q :=
  jreg [(49, [4]), (119, [4, 7])] 31 (by decide) ckX10_worth h
set_option maxRecDepth 100000 in
theorem fX10_same_0 {d : Nat} {v1 : Int} {v2 : Int} {M : jM} {Q : Int → jM → Prop} (h :
    jCall d 41 [.inl v1] M (fun r1 M1 =>
      (r1 = (0 : Int) →
        Q (-1) M1) ∧
      (¬ r1 = (0 : Int) →
        jCall d 41 [.inl v2] M1 (fun r2 M2 =>
          (¬ r2 = (0 : Int) →
            (0 ≤ v1 ∧ v1 < jal 28 6) ∧ (0 ≤ v2 ∧ v2 < jal 28 6) ∧ (¬ (M2 28 6 v1) = (M2 28 6 v2) →
              Q 0 M2) ∧
            ((M2 28 6 v1) = (M2 28 6 v2) →
              (0 ≤ v1 ∧ v1 < jal 28 9) ∧ (0 ≤ v2 ∧ v2 < jal 28 9) ∧ ((M2 28 9 v1) = (M2 28 9 v2) →
                jCall d 77 [.inr (28, 0), .inl v1, .inl v2] M2 (fun _ M3 =>
                  jWP d 88 56 [some (.inr (28, 0)), some (.inl v1), some (.inl v2), some (.inl 1), none, none] [] M3 Q)) ∧
              (¬ (M2 28 9 v1) = (M2 28 9 v2) →
                Q 0 M2))) ∧
          (r2 = (0 : Int) →
            Q (-1) M2))))) :
    jWP d 88 0 [some (.inr (28, 0)), some (.inl v1), some (.inl v2), none, none, none] [] M Q :=
  jreg [(56, [4, 5]), (114, [3]), (178, [3]), (241, [3, 5])] 41 (by decide) ckX10_same h
set_option maxRecDepth 100000 in
theorem fX10_same_56 {d : Nat} {v1 : Int} {v2 : Int} {v3 : Int} {M : jM} {Q : Int → jM → Prop} (h :
    (v3 = (0 : Int) →
      Q 0 M) ∧
    (¬ v3 = (0 : Int) →
      jCall d 76 [.inr (28, 0), .inl v1] M (fun r1 M1 =>
        (r1 = (0 : Int) →
          jCall d 78 [.inr (28, 0), .inl v1, .inl v2] M1 (fun r2 M2 =>
            jWP d 88 56 [some (.inr (28, 0)), some (.inl v1), some (.inl v2), some (.inl r2), none, none] [] M2 Q)) ∧
        (¬ r1 = (0 : Int) →
          jCall d 75 [.inr (28, 0), .inl v1] M1 (fun r3 M3 =>
            (0 ≤ v1 ∧ v1 < jal 28 6) ∧ (¬ r3 = (M3 28 6 v1) →
              jCall d 78 [.inr (28, 0), .inl v1, .inl v2] M3 (fun r4 M4 =>
                jWP d 88 56 [some (.inr (28, 0)), some (.inl v1), some (.inl v2), some (.inl r4), none, none] [] M4 Q)) ∧
            (r3 = (M3 28 6 v1) →
              jCall d 74 [.inr (28, 0), .inl v1, .inl v2, .inl 0, .inl 0] M3 (fun r5 M5 =>
                (0 ≤ v1 ∧ v1 < jal 28 9) ∧ (¬ (M5 28 0 12) = (M5 28 9 v1) →
                  jWP d 88 114 [some (.inr (28, 0)), some (.inl v1), some (.inl v2), none, some (.inl 0), some (.inl 0)] [] M5 Q) ∧
                ((M5 28 0 12) = (M5 28 9 v1) →
                  jWP d 88 114 [some (.inr (28, 0)), some (.inl v1), some (.inl v2), none, some (.inl 1), some (.inl 0)] [] M5 Q)))))))) :
    jWP d 88 56 [some (.inr (28, 0)), some (.inl v1), some (.inl v2), some (.inl v3), none, none] [] M Q :=
  jreg [(56, [4, 5]), (114, [3]), (178, [3]), (241, [3, 5])] 57 (by decide) ckX10_same h
set_option maxRecDepth 100000 in
theorem fX10_same_114 {d : Nat} {v1 : Int} {v2 : Int} {v4 : Int} {v5 : Int} {M : jM} {Q : Int → jM → Prop} (h :
    (0 ≤ v1 ∧ v1 < jal 28 6) ∧ ((M 28 6 v1) ≤ v5 →
      jWP d 88 178 [some (.inr (28, 0)), some (.inl v1), some (.inl v2), none, some (.inl v4), some (.inl 0)] [] M Q) ∧
    (v5 < (M 28 6 v1) →
      (v4 = (0 : Int) →
        jWP d 88 114 [some (.inr (28, 0)), some (.inl v1), some (.inl v2), none, some (.inl 0), some (.inl (jwr (v5 + 1)))] [] M Q) ∧
      (¬ v4 = (0 : Int) →
        (0 ≤ (jwr ((jwr (6 * v1)) + v5)) ∧ (jwr ((jwr (6 * v1)) + v5)) < jal 28 7) ∧ (0 ≤ v5 ∧ v5 < jal 28 11) ∧ (0 ≤ (jwr ((jwr (6 * v2)) + (M 28 11 v5))) ∧ (jwr ((jwr (6 * v2)) + (M 28 11 v5))) < jal 28 7) ∧ (¬ (M 28 7 (jwr ((jwr (6 * v1)) + v5))) = (M 28 7 (jwr ((jwr (6 * v2)) + (M 28 11 v5)))) →
          jWP d 88 114 [some (.inr (28, 0)), some (.inl v1), some (.inl v2), none, some (.inl 0), some (.inl (jwr (v5 + 1)))] [] M Q) ∧
        ((M 28 7 (jwr ((jwr (6 * v1)) + v5))) = (M 28 7 (jwr ((jwr (6 * v2)) + (M 28 11 v5)))) →
          jWP d 88 114 [some (.inr (28, 0)), some (.inl v1), some (.inl v2), none, some (.inl 1), some (.inl (jwr (v5 + 1)))] [] M Q)))) :
    jWP d 88 114 [some (.inr (28, 0)), some (.inl v1), some (.inl v2), none, some (.inl v4), some (.inl v5)] [] M Q :=
  jreg [(56, [4, 5]), (114, [3]), (178, [3]), (241, [3, 5])] 49 (by decide) ckX10_same h
set_option maxRecDepth 100000 in
theorem fX10_same_178 {d : Nat} {v1 : Int} {v2 : Int} {v4 : Int} {v5 : Int} {M : jM} {Q : Int → jM → Prop} (h :
    (0 ≤ v1 ∧ v1 < jal 28 9) ∧ ((M 28 9 v1) ≤ v5 →
      jWP d 88 241 [some (.inr (28, 0)), some (.inl v1), some (.inl v2), none, some (.inl v4), none] [] M Q) ∧
    (v5 < (M 28 9 v1) →
      (v4 = (0 : Int) →
        jWP d 88 241 [some (.inr (28, 0)), some (.inl v1), some (.inl v2), none, some (.inl v4), none] [] M Q) ∧
      (¬ v4 = (0 : Int) →
        jCall d 42 [.inl v1, .inl v5] M (fun r1 M1 =>
          (0 ≤ (jwr (r1 + 4)) ∧ (jwr (r1 + 4)) < jal 28 10) ∧ (0 ≤ v5 ∧ v5 < jal 28 12) ∧ jCall d 42 [.inl v2, .inl (M1 28 12 v5)] M1 (fun r2 M2 =>
            (0 ≤ (jwr (r2 + 4)) ∧ (jwr (r2 + 4)) < jal 28 10) ∧ (¬ (M1 28 10 (jwr (r1 + 4))) = (M2 28 10 (jwr (r2 + 4))) →
              jWP d 88 178 [some (.inr (28, 0)), some (.inl v1), some (.inl v2), none, some (.inl 0), some (.inl (jwr (v5 + 1)))] [] M2 Q) ∧
            ((M1 28 10 (jwr (r1 + 4))) = (M2 28 10 (jwr (r2 + 4))) →
              jWP d 88 178 [some (.inr (28, 0)), some (.inl v1), some (.inl v2), none, some (.inl 1), some (.inl (jwr (v5 + 1)))] [] M2 Q)))))) :
    jWP d 88 178 [some (.inr (28, 0)), some (.inl v1), some (.inl v2), none, some (.inl v4), some (.inl v5)] [] M Q :=
  jreg [(56, [4, 5]), (114, [3]), (178, [3]), (241, [3, 5])] 43 (by decide) ckX10_same h
set_option maxRecDepth 100000 in
theorem fX10_same_241 {d : Nat} {v1 : Int} {v2 : Int} {v4 : Int} {M : jM} {Q : Int → jM → Prop} (h :
    (v4 = (0 : Int) →
      jCall d 78 [.inr (28, 0), .inl v1, .inl v2] M (fun r1 M1 =>
        jWP d 88 56 [some (.inr (28, 0)), some (.inl v1), some (.inl v2), some (.inl r1), none, none] [] M1 Q)) ∧
    (¬ v4 = (0 : Int) →
      Q 1 M)) :
    jWP d 88 241 [some (.inr (28, 0)), some (.inl v1), some (.inl v2), none, some (.inl v4), none] [] M Q :=
  jreg [(56, [4, 5]), (114, [3]), (178, [3]), (241, [3, 5])] 13 (by decide) ckX10_same h
set_option maxRecDepth 100000 in
theorem fX10_over_0 {d : Nat} {v1 : Int} {M : jM} {Q : Int → jM → Prop} (h :
    ((0 : Int) ≤ v1 →
      ((10 : Int) ≤ v1 →
        (0 ≤ (jwr (v1 - 10)) ∧ (jwr (v1 - 10)) < jal 28 12) ∧ ((M 28 12 (jwr (v1 - 10))) < (0 : Int) →
          (0 ≤ (jwr (v1 - 10)) ∧ (jwr (v1 - 10)) < jal 28 25) ∧ ((M 28 25 (jwr (v1 - 10))) < (0 : Int) →
            Q (-6) M) ∧
          ((0 : Int) ≤ (M 28 25 (jwr (v1 - 10))) →
            (0 ≤ (jwr (v1 - 10)) ∧ (jwr (v1 - 10)) < jal 28 25) ∧ Q (jwr (30 + (M 28 25 (jwr (v1 - 10))))) M)) ∧
        ((0 : Int) ≤ (M 28 12 (jwr (v1 - 10))) →
          (0 ≤ (jwr (v1 - 10)) ∧ (jwr (v1 - 10)) < jal 28 12) ∧ Q (jwr (10 + (M 28 12 (jwr (v1 - 10))))) M)) ∧
      (v1 < (10 : Int) →
        (0 ≤ v1 ∧ v1 < jal 28 11) ∧ (¬ (M 28 11 v1) = (9 : Int) →
          (0 ≤ v1 ∧ v1 < jal 28 11) ∧ Q (M 28 11 v1) M) ∧
        ((M 28 11 v1) = (9 : Int) →
          Q (-6) M))) ∧
    (v1 < (0 : Int) →
      Q (-6) M)) :
    jWP d 89 0 [some (.inr (28, 0)), some (.inl v1), none] [] M Q :=
  jreg [] 55 (by decide) ckX10_over h
set_option maxRecDepth 100000 in
theorem fX10_layGuesses_0 {d : Nat}  {M : jM} {Q : Int → jM → Prop} (h :
    jWP d 90 7 [some (.inr (28, 0)), some (.inl 0), none, none, none] [] (jup M 28 0 22 0) Q) :
    jWP d 90 0 [some (.inr (28, 0)), none, none, none, none] [] M Q :=
  jreg [(7, [2, 3, 4]), (51, [])] 8 (by decide) ckX10_layGuesses h
set_option maxRecDepth 100000 in
theorem fX10_layGuesses_7 {d : Nat} {v1 : Int} {M : jM} {Q : Int → jM → Prop} (h :
    (0 ≤ (12 : Int) ∧ (12 : Int) < jal 28 9) ∧ ((M 28 9 12) ≤ v1 →
      Q 0 M) ∧
    (v1 < (M 28 9 12) →
      (0 ≤ v1 ∧ v1 < jal 28 25) ∧ jCall d 42 [.inl 12, .inl v1] (jup M 28 25 v1 (-6)) (fun r1 M1 =>
        (0 ≤ v1 ∧ v1 < jal 28 12) ∧ ((0 : Int) ≤ (M1 28 12 v1) →
          jWP d 90 51 [some (.inr (28, 0)), some (.inl v1), some (.inl r1), some (.inl 0), some (.inl 0)] [] M1 Q) ∧
        ((M1 28 12 v1) < (0 : Int) →
          jWP d 90 51 [some (.inr (28, 0)), some (.inl v1), some (.inl r1), some (.inl 1), some (.inl 0)] [] M1 Q)))) :
    jWP d 90 7 [some (.inr (28, 0)), some (.inl v1), none, none, none] [] M Q :=
  jreg [(7, [2, 3, 4]), (51, [])] 34 (by decide) ckX10_layGuesses h
set_option maxRecDepth 100000 in
theorem fX10_layGuesses_51 {d : Nat} {v1 : Int} {v2 : Int} {v3 : Int} {v4 : Int} {M : jM} {Q : Int → jM → Prop} (h :
    (0 ≤ v2 ∧ v2 < jal 28 10) ∧ (0 ≤ (M 28 10 v2) ∧ (M 28 10 v2) < jal 28 1) ∧ ((M 28 1 (M 28 10 v2)) ≤ v4 →
      (v3 = (0 : Int) →
        jWP d 90 7 [some (.inr (28, 0)), some (.inl (jwr (v1 + 1))), none, none, none] [] M Q) ∧
      (¬ v3 = (0 : Int) →
        (0 ≤ v1 ∧ v1 < jal 28 25) ∧ (0 ≤ ((jup M 28 25 v1 (M 28 0 22)) 28 0 22) ∧ ((jup M 28 25 v1 (M 28 0 22)) 28 0 22) < jal 28 24) ∧ jWP d 90 7 [some (.inr (28, 0)), some (.inl (jwr (v1 + 1))), none, none, none] [] (jup (jup (jup M 28 25 v1 (M 28 0 22)) 28 24 ((jup M 28 25 v1 (M 28 0 22)) 28 0 22) v1) 28 0 22 (jwr (((jup (jup M 28 25 v1 (M 28 0 22)) 28 24 ((jup M 28 25 v1 (M 28 0 22)) 28 0 22) v1) 28 0 22) + 1))) Q)) ∧
    (v4 < (M 28 1 (M 28 10 v2)) →
      (v3 = (0 : Int) →
        jWP d 90 51 [some (.inr (28, 0)), some (.inl v1), some (.inl v2), some (.inl 0), some (.inl (jwr (v4 + 1)))] [] M Q) ∧
      (¬ v3 = (0 : Int) →
        (0 ≤ (jwr ((jwr (v2 + 1)) + v4)) ∧ (jwr ((jwr (v2 + 1)) + v4)) < jal 28 10) ∧ jCall d 89 [.inr (28, 0), .inl (M 28 10 (jwr ((jwr (v2 + 1)) + v4)))] M (fun r1 M1 =>
          (r1 < (0 : Int) →
            jWP d 90 51 [some (.inr (28, 0)), some (.inl v1), some (.inl v2), some (.inl 0), some (.inl (jwr (v4 + 1)))] [] M1 Q) ∧
          ((0 : Int) ≤ r1 →
            jWP d 90 51 [some (.inr (28, 0)), some (.inl v1), some (.inl v2), some (.inl 1), some (.inl (jwr (v4 + 1)))] [] M1 Q))))) :
    jWP d 90 51 [some (.inr (28, 0)), some (.inl v1), some (.inl v2), some (.inl v3), some (.inl v4)] [] M Q :=
  jreg [(7, [2, 3, 4]), (51, [])] 66 (by decide) ckX10_layGuesses h
set_option maxRecDepth 100000 in
theorem fX10_hasGuess_0 {d : Nat} {v1 : Int} {v2 : Int} {M : jM} {Q : Int → jM → Prop} (h :
    (0 ≤ v1 ∧ v1 < jal 28 24) ∧ jCall d 42 [.inl 12, .inl (M 28 24 v1)] M (fun r1 M1 =>
      (v2 < (0 : Int) →
        ((0 : Int) = 0 ∨ (0 : Int) = 1) ∧ Q 0 M1) ∧
      ((0 : Int) ≤ v2 →
        (0 ≤ (jwr (r1 + 1)) ∧ (jwr (r1 + 1)) < jal 28 10) ∧ jCall d 89 [.inr (28, 0), .inl (M1 28 10 (jwr (r1 + 1)))] M1 (fun r2 M2 =>
          (0 ≤ (jwr (r1 + 2)) ∧ (jwr (r1 + 2)) < jal 28 10) ∧ jCall d 89 [.inr (28, 0), .inl (M2 28 10 (jwr (r1 + 2)))] M2 (fun r3 M3 =>
            (0 ≤ (jwr (r1 + 3)) ∧ (jwr (r1 + 3)) < jal 28 10) ∧ jCall d 89 [.inr (28, 0), .inl (M3 28 10 (jwr (r1 + 3)))] M3 (fun r4 M4 =>
              jCall d 61 [.inr (28, 0), .inl 13, .inl v2, .inl r2, .inl r3, .inl r4] M4 (fun r5 M5 =>
                (r5 < (0 : Int) →
                  ((0 : Int) = 0 ∨ (0 : Int) = 1) ∧ Q 0 M5) ∧
                ((0 : Int) ≤ r5 →
                  ((1 : Int) = 0 ∨ (1 : Int) = 1) ∧ Q 1 M5)))))))) :
    jWP d 91 0 [some (.inr (28, 0)), some (.inl v1), some (.inl v2), none] [] M Q :=
  jreg [] 47 (by decide) ckX10_hasGuess h
set_option maxRecDepth 100000 in
theorem fX10_isAgainst_0 {d : Nat} {v1 : Int} {M : jM} {Q : Int → jM → Prop} (h :
    (0 ≤ v1 ∧ v1 < jal 28 24) ∧ jCall d 42 [.inl 12, .inl (M 28 24 v1)] M (fun r1 M1 =>
      (0 ≤ r1 ∧ r1 < jal 28 10) ∧ (0 ≤ (M1 28 10 r1) ∧ (M1 28 10 r1) < jal 28 4) ∧ jCall d 91 [.inr (28, 0), .inl v1, .inl (M1 28 4 (M1 28 10 r1))] M1 (fun r2 M2 =>
        (r2 = 0 ∨ r2 = 1) ∧ Q r2 M2))) :
    jWP d 92 0 [some (.inr (28, 0)), some (.inl v1)] [] M Q :=
  jreg [] 18 (by decide) ckX10_isAgainst h
