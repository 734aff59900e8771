set_option maxRecDepth 100000 in
theorem fX10_takeKept_0 {d : Nat}  {M : jM} {Q : Int → jM → Prop} (h :
    jWP d 93 2 [some (.inr (28, 0)), some (.inl 0)] [] M Q) :
    jWP d 93 0 [some (.inr (28, 0)), none] [] M Q :=
  jreg [(2, []), (28, [])] 5 (by decide) ckX10_takeKept h
set_option maxRecDepth 100000 in
theorem fX10_takeKept_2 {d : Nat} {v1 : Int} {M : jM} {Q : Int → jM → Prop} (h :
    ((6 : Int) ≤ v1 →
      jWP d 93 28 [some (.inr (28, 0)), some (.inl 0)] [] M Q) ∧
    (v1 < (6 : Int) →
      (0 ≤ v1 ∧ v1 < jal 28 21) ∧ (0 ≤ v1 ∧ v1 < jal 28 11) ∧ jWP d 93 2 [some (.inr (28, 0)), some (.inl (jwr (v1 + 1)))] [] (jup M 28 11 v1 (M 28 21 v1)) Q)) :
    jWP d 93 2 [some (.inr (28, 0)), some (.inl v1)] [] M Q :=
  jreg [(2, []), (28, [])] 19 (by decide) ckX10_takeKept h
set_option maxRecDepth 100000 in
theorem fX10_takeKept_28 {d : Nat} {v1 : Int} {M : jM} {Q : Int → jM → Prop} (h :
    ((14 : Int) ≤ v1 →
      jCall d 90 [.inr (28, 0)] M (fun _ M1 =>
        Q 0 M1)) ∧
    (v1 < (14 : Int) →
      (0 ≤ v1 ∧ v1 < jal 28 22) ∧ (0 ≤ v1 ∧ v1 < jal 28 12) ∧ jWP d 93 28 [some (.inr (28, 0)), some (.inl (jwr (v1 + 1)))] [] (jup M 28 12 v1 (M 28 22 v1)) Q)) :
    jWP d 93 28 [some (.inr (28, 0)), some (.inl v1)] [] M Q :=
  jreg [(2, []), (28, [])] 19 (by decide) ckX10_takeKept h
set_option maxRecDepth 100000 in
theorem fX10_guess_0 {d : Nat} {v1 : Int} {M : jM} {Q : Int → jM → Prop} (h :
    (¬ (M 28 0 17) = (0 : Int) →
      jCall d 93 [.inr (28, 0)] M (fun _ M1 =>
        (¬ v1 = (-1 : Int) →
          jCall d 39 [.inl v1, .inl 0, .inl (jwr ((M1 28 0 22) - 1))] M1 (fun r2 M2 =>
            (r2 = (0 : Int) →
              Q (-6) M2) ∧
            (¬ r2 = (0 : Int) →
              (0 ≤ v1 ∧ v1 < jal 28 24) ∧ Q (M2 28 24 v1) M2))) ∧
        (v1 = (-1 : Int) →
          Q (M1 28 0 22) M1))) ∧
    ((M 28 0 17) = (0 : Int) →
      Q (-3) M)) :
    jWP d 94 0 [some (.inr (28, 0)), some (.inl v1)] [] M Q :=
  jreg [] 32 (by decide) ckX10_guess h
set_option maxRecDepth 100000 in
theorem fX10_ofGuess_0 {d : Nat} {v1 : Int} {v2 : Int} {M : jM} {Q : Int → jM → Prop} (h :
    (¬ (M 28 0 17) = (0 : Int) →
      jCall d 39 [.inl v2, .inl 0, .inl 4] M (fun r1 M1 =>
        (¬ r1 = (0 : Int) →
          jCall d 93 [.inr (28, 0)] M1 (fun _ M2 =>
            jCall d 39 [.inl v1, .inl 0, .inl (jwr ((M2 28 0 22) - 1))] M2 (fun r3 M3 =>
              (¬ r3 = (0 : Int) →
                (0 ≤ v1 ∧ v1 < jal 28 24) ∧ jCall d 42 [.inl 12, .inl (M3 28 24 v1)] M3 (fun r4 M4 =>
                  ((3 : Int) ≤ v2 →
                    (¬ v2 = (3 : Int) →
                      jCall d 92 [.inr (28, 0), .inl v1] M4 (fun r5 M5 =>
                        (r5 = (0 : Int) →
                          Q 0 M5) ∧
                        (¬ r5 = (0 : Int) →
                          Q 1 M5))) ∧
                    (v2 = (3 : Int) →
                      (0 ≤ r4 ∧ r4 < jal 28 10) ∧ jCall d 91 [.inr (28, 0), .inl v1, .inl (M4 28 10 r4)] M4 (fun r6 M6 =>
                        (r6 = (0 : Int) →
                          Q 0 M6) ∧
                        (¬ r6 = (0 : Int) →
                          Q 1 M6)))) ∧
                  (v2 < (3 : Int) →
                    (0 ≤ (jwr ((jwr (r4 + 1)) + v2)) ∧ (jwr ((jwr (r4 + 1)) + v2)) < jal 28 10) ∧ jCall d 89 [.inr (28, 0), .inl (M4 28 10 (jwr ((jwr (r4 + 1)) + v2)))] M4 (fun r7 M7 =>
                      Q r7 M7)))) ∧
              (r3 = (0 : Int) →
                Q (-6) M3)))) ∧
        (r1 = (0 : Int) →
          Q (-2) M1))) ∧
    ((M 28 0 17) = (0 : Int) →
      Q (-3) M)) :
    jWP d 95 0 [some (.inr (28, 0)), some (.inl v1), some (.inl v2), none] [] M Q :=
  jreg [] 74 (by decide) ckX10_ofGuess h
set_option maxRecDepth 100000 in
theorem fX10_bits_0 {d : Nat} {v0 : Int} {M : jM} {Q : Int → jM → Prop} (h :
    jWP d 96 4 [some (.inl v0), some (.inl 0), some (.inl 0)] [] M Q) :
    jWP d 96 0 [some (.inl v0), none, none] [] M Q :=
  jreg [(4, [])] 7 (by decide) ckX10_bits h
set_option maxRecDepth 100000 in
theorem fX10_bits_4 {d : Nat} {v0 : Int} {v1 : Int} {v2 : Int} {M : jM} {Q : Int → jM → Prop} (h :
    ((6 : Int) ≤ v2 →
      Q v1 M) ∧
    (v2 < (6 : Int) →
      jWP d 96 4 [some (.inl v0), some (.inl (jwr (v1 + (jiand (jishr v0 v2) 1)))), some (.inl (jwr (v2 + 1)))] [] M Q)) :
    jWP d 96 4 [some (.inl v0), some (.inl v1), some (.inl v2)] [] M Q :=
  jreg [(4, [])] 18 (by decide) ckX10_bits h
set_option maxRecDepth 100000 in
theorem fX10_speaks_0 {d : Nat} {v1 : Int} {M : jM} {Q : Int → jM → Prop} (h :
    jWP d 97 2 [some (.inr (28, 0)), some (.inl v1), some (.inl 0), none] [] M Q) :
    jWP d 97 0 [some (.inr (28, 0)), some (.inl v1), none, none] [] M Q :=
  jreg [(2, [3]), (65, [1])] 5 (by decide) ckX10_speaks h
set_option maxRecDepth 100000 in
theorem fX10_speaks_2 {d : Nat} {v1 : Int} {v2 : Int} {M : jM} {Q : Int → jM → Prop} (h :
    ((6 : Int) ≤ v2 →
      jCall d 74 [.inr (28, 0), .inl 12, .inl 13, .inl (M 28 0 18), .inl (M 28 0 19)] M (fun r1 M1 =>
        jCall d 90 [.inr (28, 0)] M1 (fun _ M2 =>
          jWP d 97 65 [some (.inr (28, 0)), none, some (.inl 0), some (.inl 0)] [] M2 Q))) ∧
    (v2 < (6 : Int) →
      (¬ (jiand (jishr v1 v2) 1) = (1 : Int) →
        (0 ≤ v2 ∧ v2 < jal 28 21) ∧ (0 ≤ v2 ∧ v2 < jal 28 11) ∧ jWP d 97 2 [some (.inr (28, 0)), some (.inl v1), some (.inl (jwr (v2 + 1))), none] [] (jup M 28 11 v2 (M 28 21 v2)) Q) ∧
      ((jiand (jishr v1 v2) 1) = (1 : Int) →
        (0 ≤ v2 ∧ v2 < jal 28 11) ∧ jWP d 97 2 [some (.inr (28, 0)), some (.inl v1), some (.inl (jwr (v2 + 1))), none] [] (jup M 28 11 v2 9) Q))) :
    jWP d 97 2 [some (.inr (28, 0)), some (.inl v1), some (.inl v2), none] [] M Q :=
  jreg [(2, [3]), (65, [1])] 45 (by decide) ckX10_speaks h
set_option maxRecDepth 100000 in
theorem fX10_speaks_65 {d : Nat} {v2 : Int} {v3 : Int} {M : jM} {Q : Int → jM → Prop} (h :
    ((M 28 0 22) ≤ v3 →
      (v2 = 0 ∨ v2 = 1) ∧ Q v2 M) ∧
    (v3 < (M 28 0 22) →
      (¬ v2 = (0 : Int) →
        jWP d 97 65 [some (.inr (28, 0)), none, some (.inl 1), some (.inl (jwr (v3 + 1)))] [] M Q) ∧
      (v2 = (0 : Int) →
        jCall d 92 [.inr (28, 0), .inl v3] M (fun r1 M1 =>
          (r1 = (0 : Int) →
            jWP d 97 65 [some (.inr (28, 0)), none, some (.inl 0), some (.inl (jwr (v3 + 1)))] [] M1 Q) ∧
          (¬ r1 = (0 : Int) →
            jWP d 97 65 [some (.inr (28, 0)), none, some (.inl 1), some (.inl (jwr (v3 + 1)))] [] M1 Q))))) :
    jWP d 97 65 [some (.inr (28, 0)), none, some (.inl v2), some (.inl v3)] [] M Q :=
  jreg [(2, [3]), (65, [1])] 31 (by decide) ckX10_speaks h
set_option maxRecDepth 100000 in
theorem fX10_giveUp_0 {d : Nat}  {M : jM} {Q : Int → jM → Prop} (h :
    (¬ (M 28 0 17) = (0 : Int) →
      jWP d 98 14 [some (.inr (28, 0)), some (.inl 0), some (.inl 0), none, none] [] M Q) ∧
    ((M 28 0 17) = (0 : Int) →
      Q (-3) M)) :
    jWP d 98 0 [some (.inr (28, 0)), none, none, none, none] [] M Q :=
  jreg [(14, [3, 4]), (57, [4]), (83, [4])] 12 (by decide) ckX10_giveUp h
set_option maxRecDepth 100000 in
theorem fX10_giveUp_14 {d : Nat} {v1 : Int} {v2 : Int} {M : jM} {Q : Int → jM → Prop} (h :
    (0 ≤ (12 : Int) ∧ (12 : Int) < jal 28 6) ∧ ((M 28 6 12) ≤ v2 →
      jWP d 98 57 [some (.inr (28, 0)), some (.inl v1), some (.inl (-6)), some (.inl 0), none] [] M Q) ∧
    (v2 < (M 28 6 12) →
      (0 ≤ v2 ∧ v2 < jal 28 21) ∧ ((9 : Int) ≤ (M 28 21 v2) →
        jWP d 98 14 [some (.inr (28, 0)), some (.inl (jior v1 0)), some (.inl (jwr (v2 + 1))), none, none] [] M Q) ∧
      ((M 28 21 v2) < (9 : Int) →
        jWP d 98 14 [some (.inr (28, 0)), some (.inl (jior v1 (jishl 1 v2))), some (.inl (jwr (v2 + 1))), none, none] [] M Q))) :
    jWP d 98 14 [some (.inr (28, 0)), some (.inl v1), some (.inl v2), none, none] [] M Q :=
  jreg [(14, [3, 4]), (57, [4]), (83, [4])] 35 (by decide) ckX10_giveUp h
set_option maxRecDepth 100000 in
theorem fX10_giveUp_57 {d : Nat} {v1 : Int} {v2 : Int} {v3 : Int} {M : jM} {Q : Int → jM → Prop} (h :
    ((64 : Int) ≤ v3 →
      Q v2 M) ∧
    (v3 < (64 : Int) →
      (v2 < (0 : Int) →
        jWP d 98 83 [some (.inr (28, 0)), some (.inl v1), some (.inl v2), some (.inl v3), none] [.inl 1] M Q) ∧
      ((0 : Int) ≤ v2 →
        jCall d 96 [.inl v3] M (fun r1 M1 =>
          jCall d 96 [.inl v2] M1 (fun r2 M2 =>
            (r2 ≤ r1 →
              jWP d 98 83 [some (.inr (28, 0)), some (.inl v1), some (.inl v2), some (.inl v3), none] [.inl 0] M2 Q) ∧
            (r1 < r2 →
              jWP d 98 83 [some (.inr (28, 0)), some (.inl v1), some (.inl v2), some (.inl v3), none] [.inl 1] M2 Q)))))) :
    jWP d 98 57 [some (.inr (28, 0)), some (.inl v1), some (.inl v2), some (.inl v3), none] [] M Q :=
  jreg [(14, [3, 4]), (57, [4]), (83, [4])] 22 (by decide) ckX10_giveUp h
set_option maxRecDepth 100000 in
theorem fX10_giveUp_83 {d : Nat} {v1 : Int} {v2 : Int} {v3 : Int} {s0 : Int} {M : jM} {Q : Int → jM → Prop} (h :
    (¬ (jiand v3 (jixor v1 (-1))) = (0 : Int) →
      jWP d 98 57 [some (.inr (28, 0)), some (.inl v1), some (.inl v2), some (.inl (jwr (v3 + 1))), none] [] M Q) ∧
    ((jiand v3 (jixor v1 (-1))) = (0 : Int) →
      (s0 = (0 : Int) →
        jWP d 98 57 [some (.inr (28, 0)), some (.inl v1), some (.inl v2), some (.inl (jwr (v3 + 1))), none] [] M Q) ∧
      (¬ s0 = (0 : Int) →
        jCall d 97 [.inr (28, 0), .inl v3] M (fun r1 M1 =>
          (¬ r1 = (0 : Int) →
            jWP d 98 57 [some (.inr (28, 0)), some (.inl v1), some (.inl v2), some (.inl (jwr (v3 + 1))), none] [] M1 Q) ∧
          (r1 = (0 : Int) →
            jWP d 98 57 [some (.inr (28, 0)), some (.inl v1), some (.inl v3), some (.inl (jwr (v3 + 1))), none] [] M1 Q))))) :
    jWP d 98 83 [some (.inr (28, 0)), some (.inl v1), some (.inl v2), some (.inl v3), none] [.inl s0] M Q :=
  jreg [(14, [3, 4]), (57, [4]), (83, [4])] 29 (by decide) ckX10_giveUp h
set_option maxRecDepth 100000 in
theorem fX10_boundOf_0 {d : Nat} {v1 : Int} {v2 : Int} {M : jM} {Q : Int → jM → Prop} (h :
    jWP d 99 5 [some (.inr (28, 0)), some (.inl v1), some (.inl v2), some (.inl 0), some (.inl 0), none, none, none, none, none] [] M Q) :
    jWP d 99 0 [some (.inr (28, 0)), some (.inl v1), some (.inl v2), none, none, none, none, none, none, none] [] M Q :=
  jreg [(5, [5, 6, 7, 8, 9]), (24, [9]), (70, [5]), (125, [9]), (200, [5, 6, 7, 8, 9]), (216, [8, 9]), (263, [8, 9])] 7 (by decide) ckX10_boundOf h
set_option maxRecDepth 100000 in
theorem fX10_boundOf_5 {d : Nat} {v1 : Int} {v2 : Int} {v3 : Int} {v4 : Int} {M : jM} {Q : Int → jM → Prop} (h :
    ((16 : Int) ≤ v4 →
      jWP d 99 200 [some (.inr (28, 0)), some (.inl v1), some (.inl v2), some (.inl v3), some (.inl 0), none, none, none, none, none] [] M Q) ∧
    (v4 < (16 : Int) →
      jWP d 99 24 [some (.inr (28, 0)), some (.inl v1), some (.inl v2), some (.inl v3), some (.inl v4), some (.inl 0), some (.inl 0), some (.inl 0), some (.inl 0), none] [] M Q)) :
    jWP d 99 5 [some (.inr (28, 0)), some (.inl v1), some (.inl v2), some (.inl v3), some (.inl v4), none, none, none, none, none] [] M Q :=
  jreg [(5, [5, 6, 7, 8, 9]), (24, [9]), (70, [5]), (125, [9]), (200, [5, 6, 7, 8, 9]), (216, [8, 9]), (263, [8, 9])] 17 (by decide) ckX10_boundOf h
set_option maxRecDepth 100000 in
theorem fX10_boundOf_24 {d : Nat} {v1 : Int} {v2 : Int} {v3 : Int} {v4 : Int} {v5 : Int} {v6 : Int} {v7 : Int} {v8 : Int} {M : jM} {Q : Int → jM → Prop} (h :
    (0 ≤ v1 ∧ v1 < jal 28 9) ∧ ((M 28 9 v1) ≤ v8 →
      jWP d 99 125 [some (.inr (28, 0)), some (.inl v1), some (.inl v2), some (.inl v3), some (.inl v4), some (.inl v5), some (.inl v6), some (.inl v7), some (.inl 0), none] [] M Q) ∧
    (v8 < (M 28 9 v1) →
      jCall d 42 [.inl v1, .inl v8] M (fun r1 M1 =>
        (0 ≤ r1 ∧ r1 < jal 28 10) ∧ (¬ (M1 28 10 r1) = v4 →
          ((0 : Int) = (0 : Int) →
            jWP d 99 70 [some (.inr (28, 0)), some (.inl v1), some (.inl v2), some (.inl v3), some (.inl v4), none, some (.inl v6), some (.inl v7), some (.inl v8), some (.inl 0)] [.inl 0, .inl v5] M1 Q) ∧
          (¬ (0 : Int) = (0 : Int) →
            jWP d 99 70 [some (.inr (28, 0)), some (.inl v1), some (.inl v2), some (.inl v3), some (.inl v4), none, some (.inl v6), some (.inl v7), some (.inl v8), some (.inl 0)] [.inl 1, .inl v5] M1 Q)) ∧
        ((M1 28 10 r1) = v4 →
          ((1 : Int) = (0 : Int) →
            jWP d 99 70 [some (.inr (28, 0)), some (.inl v1), some (.inl v2), some (.inl v3), some (.inl v4), none, some (.inl v6), some (.inl v7), some (.inl v8), some (.inl 1)] [.inl 0, .inl v5] M1 Q) ∧
          (¬ (1 : Int) = (0 : Int) →
            jWP d 99 70 [some (.inr (28, 0)), some (.inl v1), some (.inl v2), some (.inl v3), some (.inl v4), none, some (.inl v6), some (.inl v7), some (.inl v8), some (.inl 1)] [.inl 1, .inl v5] M1 Q))))) :
    jWP d 99 24 [some (.inr (28, 0)), some (.inl v1), some (.inl v2), some (.inl v3), some (.inl v4), some (.inl v5), some (.inl v6), some (.inl v7), some (.inl v8), none] [] M Q :=
  jreg [(5, [5, 6, 7, 8, 9]), (24, [9]), (70, [5]), (125, [9]), (200, [5, 6, 7, 8, 9]), (216, [8, 9]), (263, [8, 9])] 40 (by decide) ckX10_boundOf h
set_option maxRecDepth 100000 in
theorem fX10_boundOf_70 {d : Nat} {v1 : Int} {v2 : Int} {v3 : Int} {v4 : Int} {v6 : Int} {v7 : Int} {v8 : Int} {v9 : Int} {s0 : Int} {s1 : Int} {M : jM} {Q : Int → jM → Prop} (h :
    (v9 = (0 : Int) →
      jWP d 99 24 [some (.inr (28, 0)), some (.inl v1), some (.inl v2), some (.inl v3), some (.inl v4), some (.inl (jwr (s1 + s0))), some (.inl v6), some (.inl v7), some (.inl (jwr (v8 + 1))), none] [] M Q) ∧
    (¬ v9 = (0 : Int) →
      jCall d 42 [.inl v1, .inl v8] M (fun r1 M1 =>
        (0 ≤ (jwr (r1 + 5)) ∧ (jwr (r1 + 5)) < jal 28 10) ∧ ((M1 28 10 (jwr (r1 + 5))) ≤ v7 →
          jWP d 99 24 [some (.inr (28, 0)), some (.inl v1), some (.inl v2), some (.inl v3), some (.inl v4), some (.inl (jwr (s1 + s0))), some (.inl v6), some (.inl v7), some (.inl (jwr (v8 + 1))), none] [] M1 Q) ∧
        (v7 < (M1 28 10 (jwr (r1 + 5))) →
          jCall d 42 [.inl v1, .inl v8] M1 (fun r2 M2 =>
            (0 ≤ (jwr (r2 + 5)) ∧ (jwr (r2 + 5)) < jal 28 10) ∧ jWP d 99 24 [some (.inr (28, 0)), some (.inl v1), some (.inl v2), some (.inl v3), some (.inl v4), some (.inl (jwr (s1 + s0))), some (.inl v6), some (.inl (M2 28 10 (jwr (r2 + 5)))), some (.inl (jwr (v8 + 1))), none] [] M2 Q))))) :
    jWP d 99 70 [some (.inr (28, 0)), some (.inl v1), some (.inl v2), some (.inl v3), some (.inl v4), none, some (.inl v6), some (.inl v7), some (.inl v8), some (.inl v9)] [.inl s0, .inl s1] M Q :=
  jreg [(5, [5, 6, 7, 8, 9]), (24, [9]), (70, [5]), (125, [9]), (200, [5, 6, 7, 8, 9]), (216, [8, 9]), (263, [8, 9])] 39 (by decide) ckX10_boundOf h
set_option maxRecDepth 100000 in
theorem fX10_boundOf_125 {d : Nat} {v1 : Int} {v2 : Int} {v3 : Int} {v4 : Int} {v5 : Int} {v6 : Int} {v7 : Int} {v8 : Int} {M : jM} {Q : Int → jM → Prop} (h :
    (0 ≤ v2 ∧ v2 < jal 28 9) ∧ ((M 28 9 v2) ≤ v8 →
      (v6 ≤ v5 →
        jWP d 99 5 [some (.inr (28, 0)), some (.inl v1), some (.inl v2), some (.inl (jwr (v3 + (jwr ((jwr (v6 * 6)) * v7))))), some (.inl (jwr (v4 + 1))), none, none, none, none, none] [] M Q) ∧
      (v5 < v6 →
        jWP d 99 5 [some (.inr (28, 0)), some (.inl v1), some (.inl v2), some (.inl (jwr (v3 + (jwr ((jwr (v5 * 6)) * v7))))), some (.inl (jwr (v4 + 1))), none, none, none, none, none] [] M Q)) ∧
    (v8 < (M 28 9 v2) →
      jCall d 42 [.inl v2, .inl v8] M (fun r1 M1 =>
        (0 ≤ r1 ∧ r1 < jal 28 10) ∧ (¬ (M1 28 10 r1) = v4 →
          jWP d 99 125 [some (.inr (28, 0)), some (.inl v1), some (.inl v2), some (.inl v3), some (.inl v4), some (.inl v5), some (.inl (jwr (v6 + 0))), some (.inl v7), some (.inl (jwr (v8 + 1))), none] [] M1 Q) ∧
        ((M1 28 10 r1) = v4 →
          jWP d 99 125 [some (.inr (28, 0)), some (.inl v1), some (.inl v2), some (.inl v3), some (.inl v4), some (.inl v5), some (.inl (jwr (v6 + 1))), some (.inl v7), some (.inl (jwr (v8 + 1))), none] [] M1 Q)))) :
    jWP d 99 125 [some (.inr (28, 0)), some (.inl v1), some (.inl v2), some (.inl v3), some (.inl v4), some (.inl v5), some (.inl v6), some (.inl v7), some (.inl v8), none] [] M Q :=
  jreg [(5, [5, 6, 7, 8, 9]), (24, [9]), (70, [5]), (125, [9]), (200, [5, 6, 7, 8, 9]), (216, [8, 9]), (263, [8, 9])] 55 (by decide) ckX10_boundOf h
set_option maxRecDepth 100000 in
theorem fX10_boundOf_200 {d : Nat} {v1 : Int} {v2 : Int} {v3 : Int} {v4 : Int} {M : jM} {Q : Int → jM → Prop} (h :
    ((10 : Int) ≤ v4 →
      Q v3 M) ∧
    (v4 < (10 : Int) →
      jWP d 99 216 [some (.inr (28, 0)), some (.inl v1), some (.inl v2), some (.inl v3), some (.inl v4), some (.inl 0), some (.inl 0), some (.inl 0), none, none] [] M Q)) :
    jWP d 99 200 [some (.inr (28, 0)), some (.inl v1), some (.inl v2), some (.inl v3), some (.inl v4), none, none, none, none, none] [] M Q :=
  jreg [(5, [5, 6, 7, 8, 9]), (24, [9]), (70, [5]), (125, [9]), (200, [5, 6, 7, 8, 9]), (216, [8, 9]), (263, [8, 9])] 14 (by decide) ckX10_boundOf h
set_option maxRecDepth 100000 in
theorem fX10_boundOf_216 {d : Nat} {v1 : Int} {v2 : Int} {v3 : Int} {v4 : Int} {v5 : Int} {v6 : Int} {v7 : Int} {M : jM} {Q : Int → jM → Prop} (h :
    (0 ≤ v1 ∧ v1 < jal 28 6) ∧ ((M 28 6 v1) ≤ v7 →
      jWP d 99 263 [some (.inr (28, 0)), some (.inl v1), some (.inl v2), some (.inl v3), some (.inl v4), some (.inl v5), some (.inl v6), some (.inl 0), none, none] [] M Q) ∧
    (v7 < (M 28 6 v1) →
      (0 ≤ (jwr ((jwr (6 * v1)) + v7)) ∧ (jwr ((jwr (6 * v1)) + v7)) < jal 28 7) ∧ (¬ (M 28 7 (jwr ((jwr (6 * v1)) + v7))) = v4 →
        jWP d 99 216 [some (.inr (28, 0)), some (.inl v1), some (.inl v2), some (.inl v3), some (.inl v4), some (.inl (jwr (v5 + 0))), some (.inl v6), some (.inl (jwr (v7 + 1))), none, none] [] M Q) ∧
      ((M 28 7 (jwr ((jwr (6 * v1)) + v7))) = v4 →
        jWP d 99 216 [some (.inr (28, 0)), some (.inl v1), some (.inl v2), some (.inl v3), some (.inl v4), some (.inl (jwr (v5 + 1))), some (.inl v6), some (.inl (jwr (v7 + 1))), none, none] [] M Q))) :
    jWP d 99 216 [some (.inr (28, 0)), some (.inl v1), some (.inl v2), some (.inl v3), some (.inl v4), some (.inl v5), some (.inl v6), some (.inl v7), none, none] [] M Q :=
  jreg [(5, [5, 6, 7, 8, 9]), (24, [9]), (70, [5]), (125, [9]), (200, [5, 6, 7, 8, 9]), (216, [8, 9]), (263, [8, 9])] 35 (by decide) ckX10_boundOf h
set_option maxRecDepth 100000 in
theorem fX10_boundOf_263 {d : Nat} {v1 : Int} {v2 : Int} {v3 : Int} {v4 : Int} {v5 : Int} {v6 : Int} {v7 : Int} {M : jM} {Q : Int → jM → Prop} (h :
    (0 ≤ v2 ∧ v2 < jal 28 6) ∧ ((M 28 6 v2) ≤ v7 →
      (v6 ≤ v5 →
        jWP d 99 200 [some (.inr (28, 0)), some (.inl v1), some (.inl v2), some (.inl (jwr (v3 + v6))), some (.inl (jwr (v4 + 1))), none, none, none, none, none] [] M Q) ∧
      (v5 < v6 →
        jWP d 99 200 [some (.inr (28, 0)), some (.inl v1), some (.inl v2), some (.inl (jwr (v3 + v5))), some (.inl (jwr (v4 + 1))), none, none, none, none, none] [] M Q)) ∧
    (v7 < (M 28 6 v2) →
      (0 ≤ (jwr ((jwr (6 * v2)) + v7)) ∧ (jwr ((jwr (6 * v2)) + v7)) < jal 28 7) ∧ (¬ (M 28 7 (jwr ((jwr (6 * v2)) + v7))) = v4 →
        jWP d 99 263 [some (.inr (28, 0)), some (.inl v1), some (.inl v2), some (.inl v3), some (.inl v4), some (.inl v5), some (.inl (jwr (v6 + 0))), some (.inl (jwr (v7 + 1))), none, none] [] M Q) ∧
      ((M 28 7 (jwr ((jwr (6 * v2)) + v7))) = v4 →
        jWP d 99 263 [some (.inr (28, 0)), some (.inl v1), some (.inl v2), some (.inl v3), some (.inl v4), some (.inl v5), some (.inl (jwr (v6 + 1))), some (.inl (jwr (v7 + 1))), none, none] [] M Q))) :
    jWP d 99 263 [some (.inr (28, 0)), some (.inl v1), some (.inl v2), some (.inl v3), some (.inl v4), some (.inl v5), some (.inl v6), some (.inl v7), none, none] [] M Q :=
  jreg [(5, [5, 6, 7, 8, 9]), (24, [9]), (70, [5]), (125, [9]), (200, [5, 6, 7, 8, 9]), (216, [8, 9]), (263, [8, 9])] 49 (by decide) ckX10_boundOf h
set_option maxRecDepth 100000 in
theorem fX10_bound_0 {d : Nat} {v1 : Int} {v2 : Int} {M : jM} {Q : Int → jM → Prop} (h :
    jCall d 41 [.inl v1] M (fun r1 M1 =>
      (r1 = (0 : Int) →
        Q (-1) M1) ∧
      (¬ r1 = (0 : Int) →
        jCall d 41 [.inl v2] M1 (fun r2 M2 =>
          (r2 = (0 : Int) →
            Q (-1) M2) ∧
          (¬ r2 = (0 : Int) →
            jCall d 99 [.inr (28, 0), .inl v1, .inl v2] M2 (fun r3 M3 =>
              Q r3 M3)))))) :
    jWP d 100 0 [some (.inr (28, 0)), some (.inl v1), some (.inl v2)] [] M Q :=
  jreg [] 18 (by decide) ckX10_bound h
set_option maxRecDepth 100000 in
theorem fX10_likest_0 {d : Nat} {v1 : Int} {M : jM} {Q : Int → jM → Prop} (h :
    jWP d 101 21 [some (.inr (28, 0)), some (.inl v1), some (.inl (jishl 1 v1)), some (.inl (-6)), some (.inl 0), none, none, none] [] (jup (jup M 28 0 25 0) 28 0 26 (-6)) Q) :
    jWP d 101 0 [some (.inr (28, 0)), some (.inl v1), none, none, none, none, none, none] [] M Q :=
  jreg [(21, [5, 6, 7]), (35, [7]), (66, [7]), (159, [6, 7]), (187, [6, 7])] 17 (by decide) ckX10_likest h
set_option maxRecDepth 100000 in
theorem fX10_likest_21 {d : Nat} {v1 : Int} {v2 : Int} {v3 : Int} {v4 : Int} {M : jM} {Q : Int → jM → Prop} (h :
    ((12 : Int) ≤ v4 →
      Q v3 M) ∧
    (v4 < (12 : Int) →
      jWP d 101 35 [some (.inr (28, 0)), some (.inl v1), some (.inl v2), some (.inl v3), some (.inl v4), some (.inl (-6)), some (.inl 0), none] [] M Q)) :
    jWP d 101 21 [some (.inr (28, 0)), some (.inl v1), some (.inl v2), some (.inl v3), some (.inl v4), none, none, none] [] M Q :=
  jreg [(21, [5, 6, 7]), (35, [7]), (66, [7]), (159, [6, 7]), (187, [6, 7])] 12 (by decide) ckX10_likest h
set_option maxRecDepth 100000 in
theorem fX10_likest_35 {d : Nat} {v1 : Int} {v2 : Int} {v3 : Int} {v4 : Int} {v5 : Int} {v6 : Int} {M : jM} {Q : Int → jM → Prop} (h :
    ((12 : Int) ≤ v6 →
      (v5 < (0 : Int) →
        jWP d 101 21 [some (.inr (28, 0)), some (.inl v1), some (.inl v2), some (.inl v3), some (.inl (jwr (v4 + 1))), none, none, none] [] M Q) ∧
      ((0 : Int) ≤ v5 →
        jCall d 99 [.inr (28, 0), .inl v1, .inl v5] M (fun r1 M1 =>
          (v3 < (0 : Int) →
            jWP d 101 159 [some (.inr (28, 0)), some (.inl v1), some (.inl (jior v2 (jishl 1 v5))), some (.inl v3), some (.inl v4), some (.inl v5), none, none] [] M1 Q) ∧
          ((0 : Int) ≤ v3 →
            ((M1 28 0 26) < r1 →
              jWP d 101 159 [some (.inr (28, 0)), some (.inl v1), some (.inl (jior v2 (jishl 1 v5))), some (.inl v3), some (.inl v4), some (.inl v5), none, none] [] M1 Q) ∧
            (r1 ≤ (M1 28 0 26) →
              (¬ r1 = (M1 28 0 26) →
                jWP d 101 21 [some (.inr (28, 0)), some (.inl v1), some (.inl (jior v2 (jishl 1 v5))), some (.inl v3), some (.inl (jwr (v4 + 1))), none, none, none] [] M1 Q) ∧
              (r1 = (M1 28 0 26) →
                (v3 ≤ v5 →
                  jWP d 101 21 [some (.inr (28, 0)), some (.inl v1), some (.inl (jior v2 (jishl 1 v5))), some (.inl v3), some (.inl (jwr (v4 + 1))), none, none, none] [] M1 Q) ∧
                (v5 < v3 →
                  jWP d 101 159 [some (.inr (28, 0)), some (.inl v1), some (.inl (jior v2 (jishl 1 v5))), some (.inl v3), some (.inl v4), some (.inl v5), none, none] [] M1 Q))))))) ∧
    (v6 < (12 : Int) →
      (¬ (jiand (jishr v2 v6) 1) = (0 : Int) →
        jWP d 101 66 [some (.inr (28, 0)), some (.inl v1), some (.inl v2), some (.inl v3), some (.inl v4), some (.inl v5), some (.inl v6), none] [.inl 0] M Q) ∧
      ((jiand (jishr v2 v6) 1) = (0 : Int) →
        (0 ≤ v6 ∧ v6 < jal 28 9) ∧ ((M 28 9 v6) ≤ (0 : Int) →
          jWP d 101 66 [some (.inr (28, 0)), some (.inl v1), some (.inl v2), some (.inl v3), some (.inl v4), some (.inl v5), some (.inl v6), none] [.inl 0] M Q) ∧
        ((0 : Int) < (M 28 9 v6) →
          jWP d 101 66 [some (.inr (28, 0)), some (.inl v1), some (.inl v2), some (.inl v3), some (.inl v4), some (.inl v5), some (.inl v6), none] [.inl 1] M Q)))) :
    jWP d 101 35 [some (.inr (28, 0)), some (.inl v1), some (.inl v2), some (.inl v3), some (.inl v4), some (.inl v5), some (.inl v6), none] [] M Q :=
  jreg [(21, [5, 6, 7]), (35, [7]), (66, [7]), (159, [6, 7]), (187, [6, 7])] 61 (by decide) ckX10_likest h
set_option maxRecDepth 100000 in
theorem fX10_likest_66 {d : Nat} {v1 : Int} {v2 : Int} {v3 : Int} {v4 : Int} {v5 : Int} {v6 : Int} {s0 : Int} {M : jM} {Q : Int → jM → Prop} (h :
    (s0 = (0 : Int) →
      jWP d 101 35 [some (.inr (28, 0)), some (.inl v1), some (.inl v2), some (.inl v3), some (.inl v4), some (.inl v5), some (.inl (jwr (v6 + 1))), none] [] M Q) ∧
    (¬ s0 = (0 : Int) →
      (v5 < (0 : Int) →
        jWP d 101 35 [some (.inr (28, 0)), some (.inl v1), some (.inl v2), some (.inl v3), some (.inl v4), some (.inl v6), some (.inl (jwr (v6 + 1))), none] [] M Q) ∧
      ((0 : Int) ≤ v5 →
        jCall d 99 [.inr (28, 0), .inl v1, .inl v6] M (fun r1 M1 =>
          jCall d 99 [.inr (28, 0), .inl v1, .inl v5] M1 (fun r2 M2 =>
            (r1 ≤ r2 →
              jWP d 101 35 [some (.inr (28, 0)), some (.inl v1), some (.inl v2), some (.inl v3), some (.inl v4), some (.inl v5), some (.inl (jwr (v6 + 1))), none] [] M2 Q) ∧
            (r2 < r1 →
              jWP d 101 35 [some (.inr (28, 0)), some (.inl v1), some (.inl v2), some (.inl v3), some (.inl v4), some (.inl v6), some (.inl (jwr (v6 + 1))), none] [] M2 Q)))))) :
    jWP d 101 66 [some (.inr (28, 0)), some (.inl v1), some (.inl v2), some (.inl v3), some (.inl v4), some (.inl v5), some (.inl v6), none] [.inl s0] M Q :=
  jreg [(21, [5, 6, 7]), (35, [7]), (66, [7]), (159, [6, 7]), (187, [6, 7])] 38 (by decide) ckX10_likest h
set_option maxRecDepth 100000 in
theorem fX10_likest_159 {d : Nat} {v1 : Int} {v2 : Int} {v3 : Int} {v4 : Int} {v5 : Int} {M : jM} {Q : Int → jM → Prop} (h :
    (¬ ((jup M 28 0 25 (jwr ((M 28 0 25) + 1))) 28 0 4) = (1 : Int) →
      jWP d 101 187 [some (.inr (28, 0)), some (.inl v1), some (.inl v2), some (.inl v3), some (.inl v4), some (.inl v5), none, none] [.inl 0, .inl 0, .inl v5, .inl v1, .inr (28, 0)] (jup M 28 0 25 (jwr ((M 28 0 25) + 1))) Q) ∧
    (((jup M 28 0 25 (jwr ((M 28 0 25) + 1))) 28 0 4) = (1 : Int) →
      jWP d 101 187 [some (.inr (28, 0)), some (.inl v1), some (.inl v2), some (.inl v3), some (.inl v4), some (.inl v5), none, none] [.inl 1, .inl 0, .inl v5, .inl v1, .inr (28, 0)] (jup M 28 0 25 (jwr ((M 28 0 25) + 1))) Q)) :
    jWP d 101 159 [some (.inr (28, 0)), some (.inl v1), some (.inl v2), some (.inl v3), some (.inl v4), some (.inl v5), none, none] [] M Q :=
  jreg [(21, [5, 6, 7]), (35, [7]), (66, [7]), (159, [6, 7]), (187, [6, 7])] 21 (by decide) ckX10_likest h
set_option maxRecDepth 100000 in
theorem fX10_likest_187 {d : Nat} {v1 : Int} {v2 : Int} {v3 : Int} {v4 : Int} {v5 : Int} {s0 : Int} {s1 : Int} {s2 : Int} {s3 : Int} {M : jM} {Q : Int → jM → Prop} (h :
    jCall d 80 [.inr (28, 0), .inl s3, .inl s2, .inl s1, .inl s0] M (fun r1 M1 =>
      (v3 < (0 : Int) →
        jWP d 101 21 [some (.inr (28, 0)), some (.inl v1), some (.inl v2), some (.inl v5), some (.inl (jwr (v4 + 1))), none, none, none] [] (jup M1 28 0 26 r1) Q) ∧
      ((0 : Int) ≤ v3 →
        ((M1 28 0 26) < r1 →
          jWP d 101 21 [some (.inr (28, 0)), some (.inl v1), some (.inl v2), some (.inl v5), some (.inl (jwr (v4 + 1))), none, none, none] [] (jup M1 28 0 26 r1) Q) ∧
        (r1 ≤ (M1 28 0 26) →
          (¬ r1 = (M1 28 0 26) →
            jWP d 101 21 [some (.inr (28, 0)), some (.inl v1), some (.inl v2), some (.inl v3), some (.inl (jwr (v4 + 1))), none, none, none] [] M1 Q) ∧
          (r1 = (M1 28 0 26) →
            (v3 ≤ v5 →
              jWP d 101 21 [some (.inr (28, 0)), some (.inl v1), some (.inl v2), some (.inl v3), some (.inl (jwr (v4 + 1))), none, none, none] [] M1 Q) ∧
            (v5 < v3 →
              jWP d 101 21 [some (.inr (28, 0)), some (.inl v1), some (.inl v2), some (.inl v5), some (.inl (jwr (v4 + 1))), none, none, none] [] (jup M1 28 0 26 r1) Q)))))) :
    jWP d 101 187 [some (.inr (28, 0)), some (.inl v1), some (.inl v2), some (.inl v3), some (.inl v4), some (.inl v5), none, none] [.inl s0, .inl s1, .inl s2, .inl s3, .inr (28, 0)] M Q :=
  jreg [(21, [5, 6, 7]), (35, [7]), (66, [7]), (159, [6, 7]), (187, [6, 7])] 47 (by decide) ckX10_likest h
set_option maxRecDepth 100000 in
theorem fX10_seek_0 {d : Nat} {v1 : Int} {M : jM} {Q : Int → jM → Prop} (h :
    jCall d 41 [.inl v1] M (fun r1 M1 =>
      (¬ r1 = (0 : Int) →
        jCall d 101 [.inr (28, 0), .inl v1] M1 (fun r2 M2 =>
          ((1 : Int) = 0 ∨ (1 : Int) = 1) ∧ Q r2 (jup (jup (jup M2 28 0 27 1) 28 0 28 ((jup M2 28 0 27 1) 28 0 25)) 28 0 29 ((jup (jup M2 28 0 27 1) 28 0 28 ((jup M2 28 0 27 1) 28 0 25)) 28 0 26)))) ∧
      (r1 = (0 : Int) →
        Q (-1) M1))) :
    jWP d 102 0 [some (.inr (28, 0)), some (.inl v1), none] [] M Q :=
  jreg [] 24 (by decide) ckX10_seek h
set_option maxRecDepth 100000 in
theorem fX10_sought_0 {d : Nat} {v1 : Int} {M : jM} {Q : Int → jM → Prop} (h :
    jCall d 39 [.inl v1, .inl 0, .inl 1] M (fun r1 M1 =>
      (¬ r1 = (0 : Int) →
        (¬ (M1 28 0 27) = (0 : Int) →
          (¬ v1 = (0 : Int) →
            Q (M1 28 0 29) M1) ∧
          (v1 = (0 : Int) →
            Q (M1 28 0 28) M1)) ∧
        ((M1 28 0 27) = (0 : Int) →
          Q (-3) M1)) ∧
      (r1 = (0 : Int) →
        Q (-2) M1))) :
    jWP d 103 0 [some (.inr (28, 0)), some (.inl v1)] [] M Q :=
  jreg [] 24 (by decide) ckX10_sought h
set_option maxRecDepth 100000 in
theorem fX10_moved_0 {d : Nat} {v1 : Int} {M : jM} {Q : Int → jM → Prop} (h :
    ((0 : Int) ≤ v1 →
      ((10 : Int) ≤ v1 →
        (0 ≤ (jwr (v1 - 10)) ∧ (jwr (v1 - 10)) < jal 28 32) ∧ Q (jwr (10 + (M 28 32 (jwr (v1 - 10))))) M) ∧
      (v1 < (10 : Int) →
        (0 ≤ v1 ∧ v1 < jal 28 31) ∧ Q (M 28 31 v1) M)) ∧
    (v1 < (0 : Int) →
      Q (-6) M)) :
    jWP d 104 0 [some (.inr (28, 0)), some (.inl v1)] [] M Q :=
  jreg [] 25 (by decide) ckX10_moved h
set_option maxRecDepth 100000 in
theorem fX10_add_0 {d : Nat} {v1 : Int} {v2 : Int} {v3 : Int} {v4 : Int} {v5 : Int} {M : jM} {Q : Int → jM → Prop} (h :
    jCall d 61 [.inr (28, 0), .inl 14, .inl v1, .inl v2, .inl v3, .inl v4] M (fun r1 M1 =>
      (r1 < (0 : Int) →
        jCall d 63 [.inr (28, 0), .inl 14, .inl v1, .inl v2, .inl v3, .inl v4, .inl v5] M1 (fun _ M2 =>
          (0 ≤ (14 : Int) ∧ (14 : Int) < jal 28 9) ∧ Q (jwr ((M2 28 9 14) - 1)) M2)) ∧
      ((0 : Int) ≤ r1 →
        Q r1 M1))) :
    jWP d 105 0 [some (.inr (28, 0)), some (.inl v1), some (.inl v2), some (.inl v3), some (.inl v4), some (.inl v5), none] [] M Q :=
  jreg [] 29 (by decide) ckX10_add h
set_option maxRecDepth 100000 in
theorem fX10_common_0 {d : Nat} {v1 : Int} {v2 : Int} {v3 : Int} {v4 : Int} {M : jM} {Q : Int → jM → Prop} (h :
    jCall d 41 [.inl v1] M (fun r1 M1 =>
      (r1 = (0 : Int) →
        Q (-1) M1) ∧
      (¬ r1 = (0 : Int) →
        jCall d 41 [.inl v2] M1 (fun r2 M2 =>
          (r2 = (0 : Int) →
            Q (-1) M2) ∧
          (¬ r2 = (0 : Int) →
            jCall d 41 [.inl v3] M2 (fun r3 M3 =>
              (¬ r3 = (0 : Int) →
                jCall d 81 [.inl v4] M3 (fun r4 M4 =>
                  (¬ r4 = (0 : Int) →
                    (v3 = v1 →
                      Q (-5) M4) ∧
                    (¬ v3 = v1 →
                      (¬ v3 = v2 →
                        (¬ (M4 28 0 4) = (1 : Int) →
                          jCall d 80 [.inr (28, 0), .inl v1, .inl v2, .inl v4, .inl 0] M4 (fun r5 M5 =>
                            jCall d 55 [.inr (28, 0), .inl 14, .inl 0] M5 (fun _ M6 =>
                              jWP d 106 79 [some (.inr (28, 0)), some (.inl v1), some (.inl v2), some (.inl v3), some (.inl v4), some (.inl 0), none, none, none] [] M6 Q))) ∧
                        ((M4 28 0 4) = (1 : Int) →
                          jCall d 80 [.inr (28, 0), .inl v1, .inl v2, .inl v4, .inl 1] M4 (fun r7 M7 =>
                            jCall d 55 [.inr (28, 0), .inl 14, .inl 0] M7 (fun _ M8 =>
                              jWP d 106 79 [some (.inr (28, 0)), some (.inl v1), some (.inl v2), some (.inl v3), some (.inl v4), some (.inl 0), none, none, none] [] M8 Q)))) ∧
                      (v3 = v2 →
                        Q (-5) M4))) ∧
                  (r4 = (0 : Int) →
                    Q (-2) M4))) ∧
              (r3 = (0 : Int) →
                Q (-1) M3))))))) :
    jWP d 106 0 [some (.inr (28, 0)), some (.inl v1), some (.inl v2), some (.inl v3), some (.inl v4), none, none, none, none] [] M Q :=
  jreg [(79, [6, 7, 8]), (153, [6, 7, 8]), (190, [6, 7, 8]), (211, [6, 7, 8])] 61 (by decide) ckX10_common h
set_option maxRecDepth 100000 in
theorem fX10_common_79 {d : Nat} {v1 : Int} {v2 : Int} {v3 : Int} {v4 : Int} {v5 : Int} {M : jM} {Q : Int → jM → Prop} (h :
    (0 ≤ v1 ∧ v1 < jal 28 6) ∧ ((M 28 6 v1) ≤ v5 →
      jWP d 106 211 [some (.inr (28, 0)), some (.inl v1), some (.inl v2), some (.inl v3), some (.inl v4), some (.inl 0), none, none, none] [] M Q) ∧
    (v5 < (M 28 6 v1) →
      (0 ≤ v5 ∧ v5 < jal 28 11) ∧ ((9 : Int) ≤ (M 28 11 v5) →
        jWP d 106 79 [some (.inr (28, 0)), some (.inl v1), some (.inl v2), some (.inl v3), some (.inl v4), some (.inl (jwr (v5 + 1))), none, none, none] [] M Q) ∧
      ((M 28 11 v5) < (9 : Int) →
        (0 ≤ (14 : Int) ∧ (14 : Int) < jal 28 6) ∧ (0 ≤ v5 ∧ v5 < jal 28 31) ∧ (0 ≤ (jwr ((jwr (6 * v1)) + v5)) ∧ (jwr ((jwr (6 * v1)) + v5)) < jal 28 7) ∧ (0 ≤ v5 ∧ v5 < jal 28 11) ∧ (0 ≤ (jwr ((jwr (6 * v2)) + ((jup M 28 31 v5 (M 28 6 14)) 28 11 v5))) ∧ (jwr ((jwr (6 * v2)) + ((jup M 28 31 v5 (M 28 6 14)) 28 11 v5))) < jal 28 7) ∧ (¬ ((jup M 28 31 v5 (M 28 6 14)) 28 7 (jwr ((jwr (6 * v1)) + v5))) = ((jup M 28 31 v5 (M 28 6 14)) 28 7 (jwr ((jwr (6 * v2)) + ((jup M 28 31 v5 (M 28 6 14)) 28 11 v5)))) →
          jWP d 106 153 [some (.inr (28, 0)), some (.inl v1), some (.inl v2), some (.inl v3), some (.inl v4), some (.inl v5), none, none, none] [.inl 0] (jup M 28 31 v5 (M 28 6 14)) Q) ∧
        (((jup M 28 31 v5 (M 28 6 14)) 28 7 (jwr ((jwr (6 * v1)) + v5))) = ((jup M 28 31 v5 (M 28 6 14)) 28 7 (jwr ((jwr (6 * v2)) + ((jup M 28 31 v5 (M 28 6 14)) 28 11 v5)))) →
          jWP d 106 153 [some (.inr (28, 0)), some (.inl v1), some (.inl v2), some (.inl v3), some (.inl v4), some (.inl v5), none, none, none] [.inl 1] (jup M 28 31 v5 (M 28 6 14)) Q)))) :
    jWP d 106 79 [some (.inr (28, 0)), some (.inl v1), some (.inl v2), some (.inl v3), some (.inl v4), some (.inl v5), none, none, none] [] M Q :=
  jreg [(79, [6, 7, 8]), (153, [6, 7, 8]), (190, [6, 7, 8]), (211, [6, 7, 8])] 53 (by decide) ckX10_common h
set_option maxRecDepth 100000 in
theorem fX10_common_153 {d : Nat} {v1 : Int} {v2 : Int} {v3 : Int} {v4 : Int} {v5 : Int} {s0 : Int} {M : jM} {Q : Int → jM → Prop} (h :
    (0 ≤ (14 : Int) ∧ (14 : Int) < jal 28 6) ∧ (s0 = (0 : Int) →
      jWP d 106 190 [some (.inr (28, 0)), some (.inl v1), some (.inl v2), some (.inl v3), some (.inl v4), some (.inl v5), none, none, none] [.inl 0, .inl (jwr (84 + (M 28 6 14))), .inr (28, 7)] M Q) ∧
    (¬ s0 = (0 : Int) →
      (0 ≤ (jwr ((jwr (6 * v1)) + v5)) ∧ (jwr ((jwr (6 * v1)) + v5)) < jal 28 7) ∧ jWP d 106 190 [some (.inr (28, 0)), some (.inl v1), some (.inl v2), some (.inl v3), some (.inl v4), some (.inl v5), none, none, none] [.inl (M 28 7 (jwr ((jwr (6 * v1)) + v5))), .inl (jwr (84 + (M 28 6 14))), .inr (28, 7)] M Q)) :
    jWP d 106 153 [some (.inr (28, 0)), some (.inl v1), some (.inl v2), some (.inl v3), some (.inl v4), some (.inl v5), none, none, none] [.inl s0] M Q :=
  jreg [(79, [6, 7, 8]), (153, [6, 7, 8]), (190, [6, 7, 8]), (211, [6, 7, 8])] 25 (by decide) ckX10_common h
set_option maxRecDepth 100000 in
theorem fX10_common_190 {d : Nat} {v1 : Int} {v2 : Int} {v3 : Int} {v4 : Int} {v5 : Int} {s0 : Int} {s1 : Int} {M : jM} {Q : Int → jM → Prop} (h :
    (0 ≤ s1 ∧ s1 < jal 28 7) ∧ (0 ≤ (14 : Int) ∧ (14 : Int) < jal 28 6) ∧ (0 ≤ (14 : Int) ∧ (14 : Int) < jal 28 6) ∧ jWP d 106 79 [some (.inr (28, 0)), some (.inl v1), some (.inl v2), some (.inl v3), some (.inl v4), some (.inl (jwr (v5 + 1))), none, none, none] [] (jup (jup M 28 7 s1 s0) 28 6 14 (jwr (((jup M 28 7 s1 s0) 28 6 14) + 1))) Q) :
    jWP d 106 190 [some (.inr (28, 0)), some (.inl v1), some (.inl v2), some (.inl v3), some (.inl v4), some (.inl v5), none, none, none] [.inl s0, .inl s1, .inr (28, 7)] M Q :=
  jreg [(79, [6, 7, 8]), (153, [6, 7, 8]), (190, [6, 7, 8]), (211, [6, 7, 8])] 14 (by decide) ckX10_common h
set_option maxRecDepth 100000 in
theorem fX10_common_211 {d : Nat} {v1 : Int} {v2 : Int} {v3 : Int} {v4 : Int} {v5 : Int} {M : jM} {Q : Int → jM → Prop} (h :
    (0 ≤ v1 ∧ v1 < jal 28 9) ∧ ((M 28 9 v1) ≤ v5 →
      jCall d 68 [.inr (28, 0), .inl v3, .inl 14] M (fun _ M1 =>
        (0 ≤ v3 ∧ v3 < jal 28 9) ∧ Q (M1 28 9 v3) M1)) ∧
    (v5 < (M 28 9 v1) →
      (0 ≤ v5 ∧ v5 < jal 28 12) ∧ ((M 28 12 v5) < (0 : Int) →
        jWP d 106 211 [some (.inr (28, 0)), some (.inl v1), some (.inl v2), some (.inl v3), some (.inl v4), some (.inl (jwr (v5 + 1))), none, none, none] [] M Q) ∧
      ((0 : Int) ≤ (M 28 12 v5) →
        jCall d 42 [.inl v1, .inl v5] M (fun r2 M2 =>
          (0 ≤ v5 ∧ v5 < jal 28 12) ∧ jCall d 42 [.inl v2, .inl (M2 28 12 v5)] M2 (fun r3 M3 =>
            (0 ≤ r3 ∧ r3 < jal 28 10) ∧ (0 ≤ r2 ∧ r2 < jal 28 10) ∧ (0 ≤ r2 ∧ r2 < jal 28 10) ∧ jCall d 52 [.inr (28, 0), .inl (M3 28 10 r2), .inl (M3 28 10 r3), .inl v4] M3 (fun r4 M4 =>
              jCall d 47 [.inr (28, 0), .inl (M3 28 10 r2), .inl r4] M4 (fun r5 M5 =>
                (0 ≤ (jwr (r2 + 1)) ∧ (jwr (r2 + 1)) < jal 28 10) ∧ jCall d 104 [.inr (28, 0), .inl (M5 28 10 (jwr (r2 + 1)))] M5 (fun r6 M6 =>
                  (0 ≤ (jwr (r2 + 2)) ∧ (jwr (r2 + 2)) < jal 28 10) ∧ jCall d 104 [.inr (28, 0), .inl (M6 28 10 (jwr (r2 + 2)))] M6 (fun r7 M7 =>
                    (0 ≤ (jwr (r2 + 3)) ∧ (jwr (r2 + 3)) < jal 28 10) ∧ jCall d 104 [.inr (28, 0), .inl (M7 28 10 (jwr (r2 + 3)))] M7 (fun r8 M8 =>
                      jCall d 105 [.inr (28, 0), .inl r5, .inl r6, .inl r7, .inl r8, .inl (-1)] M8 (fun r9 M9 =>
                        (0 ≤ v5 ∧ v5 < jal 28 32) ∧ jWP d 106 211 [some (.inr (28, 0)), some (.inl v1), some (.inl v2), some (.inl v3), some (.inl v4), some (.inl (jwr (v5 + 1))), none, none, none] [] (jup M9 28 32 v5 r9) Q))))))))))) :
    jWP d 106 211 [some (.inr (28, 0)), some (.inl v1), some (.inl v2), some (.inl v3), some (.inl v4), some (.inl v5), none, none, none] [] M Q :=
  jreg [(79, [6, 7, 8]), (153, [6, 7, 8]), (190, [6, 7, 8]), (211, [6, 7, 8])] 89 (by decide) ckX10_common h
set_option maxRecDepth 100000 in
theorem fX10_inMade_0 {d : Nat} {v1 : Int} {v2 : Int} {M : jM} {Q : Int → jM → Prop} (h :
    ((10 : Int) ≤ v2 →
      (0 ≤ (jwr (v2 - 10)) ∧ (jwr (v2 - 10)) < jal 28 36) ∧ ((M 28 36 (jwr (v2 - 10))) < (0 : Int) →
        jWP d 107 82 [some (.inr (28, 0)), some (.inl v1), some (.inl v2), some (.inl 0)] [] M Q) ∧
      ((0 : Int) ≤ (M 28 36 (jwr (v2 - 10))) →
        (0 ≤ (jwr (v2 - 10)) ∧ (jwr (v2 - 10)) < jal 28 36) ∧ Q (jwr (10 + (M 28 36 (jwr (v2 - 10))))) M)) ∧
    (v2 < (10 : Int) →
      jWP d 107 8 [some (.inr (28, 0)), some (.inl v1), some (.inl v2), some (.inl 0)] [] M Q)) :
    jWP d 107 0 [some (.inr (28, 0)), some (.inl v1), some (.inl v2), none] [] M Q :=
  jreg [(8, []), (82, [])] 27 (by decide) ckX10_inMade h
set_option maxRecDepth 100000 in
theorem fX10_inMade_8 {d : Nat} {v1 : Int} {v2 : Int} {v3 : Int} {M : jM} {Q : Int → jM → Prop} (h :
    (0 ≤ v1 ∧ v1 < jal 28 6) ∧ ((M 28 6 v1) ≤ v3 →
      Q (-6) M) ∧
    (v3 < (M 28 6 v1) →
      (0 ≤ v3 ∧ v3 < jal 28 33) ∧ (¬ (M 28 33 v3) = v2 →
        jWP d 107 8 [some (.inr (28, 0)), some (.inl v1), some (.inl v2), some (.inl (jwr (v3 + 1)))] [] M Q) ∧
      ((M 28 33 v3) = v2 →
        (0 ≤ v3 ∧ v3 < jal 28 11) ∧ ((9 : Int) ≤ (M 28 11 v3) →
          jWP d 107 8 [some (.inr (28, 0)), some (.inl v1), some (.inl v2), some (.inl (jwr (v3 + 1)))] [] M Q) ∧
        ((M 28 11 v3) < (9 : Int) →
          (0 ≤ v3 ∧ v3 < jal 28 11) ∧ Q (M 28 11 v3) M)))) :
    jWP d 107 8 [some (.inr (28, 0)), some (.inl v1), some (.inl v2), some (.inl v3)] [] M Q :=
  jreg [(8, []), (82, [])] 33 (by decide) ckX10_inMade h
set_option maxRecDepth 100000 in
theorem fX10_inMade_82 {d : Nat} {v1 : Int} {v2 : Int} {v3 : Int} {M : jM} {Q : Int → jM → Prop} (h :
    (0 ≤ v1 ∧ v1 < jal 28 9) ∧ ((M 28 9 v1) ≤ v3 →
      Q (-6) M) ∧
    (v3 < (M 28 9 v1) →
      (0 ≤ v3 ∧ v3 < jal 28 34) ∧ (¬ (M 28 34 v3) = (jwr (v2 - 10)) →
        jWP d 107 82 [some (.inr (28, 0)), some (.inl v1), some (.inl v2), some (.inl (jwr (v3 + 1)))] [] M Q) ∧
      ((M 28 34 v3) = (jwr (v2 - 10)) →
        (0 ≤ v3 ∧ v3 < jal 28 12) ∧ ((M 28 12 v3) < (0 : Int) →
          jWP d 107 82 [some (.inr (28, 0)), some (.inl v1), some (.inl v2), some (.inl (jwr (v3 + 1)))] [] M Q) ∧
        ((0 : Int) ≤ (M 28 12 v3) →
          (0 ≤ v3 ∧ v3 < jal 28 12) ∧ (0 ≤ (M 28 12 v3) ∧ (M 28 12 v3) < jal 28 35) ∧ ((M 28 35 (M 28 12 v3)) < (0 : Int) →
            jWP d 107 82 [some (.inr (28, 0)), some (.inl v1), some (.inl v2), some (.inl (jwr (v3 + 1)))] [] M Q) ∧
          ((0 : Int) ≤ (M 28 35 (M 28 12 v3)) →
            (0 ≤ v3 ∧ v3 < jal 28 12) ∧ (0 ≤ (M 28 12 v3) ∧ (M 28 12 v3) < jal 28 35) ∧ Q (jwr (10 + (M 28 35 (M 28 12 v3)))) M))))) :
    jWP d 107 82 [some (.inr (28, 0)), some (.inl v1), some (.inl v2), some (.inl v3)] [] M Q :=
  jreg [(8, []), (82, [])] 50 (by decide) ckX10_inMade h
