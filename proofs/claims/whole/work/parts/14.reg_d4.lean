set_option maxRecDepth 100000 in
theorem fX10_series_0 {d : Nat} {v1 : Int} {v2 : Int} {v3 : Int} {v4 : Int} {M : jM} {Q : Int → jM → Prop} (h :
    jCall d 41 [.inl v1] M (fun r1 M1 =>
      (r1 = (0 : Int) →
        Q (-1) M1) ∧
      (¬ r1 = (0 : Int) →
        jCall d 41 [.inl v2] M1 (fun r2 M2 =>
          (r2 = (0 : Int) →
            Q (-1) M2) ∧
          (¬ r2 = (0 : Int) →
            jCall d 41 [.inl v3] M2 (fun r3 M3 =>
              (r3 = (0 : Int) →
                Q (-1) M3) ∧
              (¬ r3 = (0 : Int) →
                jCall d 41 [.inl v4] M3 (fun r4 M4 =>
                  (¬ r4 = (0 : Int) →
                    (¬ (M4 28 0 4) = (1 : Int) →
                      jCall d 80 [.inr (28, 0), .inl v1, .inl v2, .inl 0, .inl 0] M4 (fun r5 M5 =>
                        jWP d 108 58 [some (.inr (28, 0)), some (.inl v1), some (.inl v2), some (.inl v3), some (.inl v4), some (.inl 0), some (.inl 0), none, none, none, none, none, none] [] M5 Q)) ∧
                    ((M4 28 0 4) = (1 : Int) →
                      jCall d 80 [.inr (28, 0), .inl v1, .inl v2, .inl 0, .inl 1] M4 (fun r6 M6 =>
                        jWP d 108 58 [some (.inr (28, 0)), some (.inl v1), some (.inl v2), some (.inl v3), some (.inl v4), some (.inl 0), some (.inl 0), none, none, none, none, none, none] [] M6 Q))) ∧
                  (r4 = (0 : Int) →
                    Q (-1) M4))))))))) :
    jWP d 108 0 [some (.inr (28, 0)), some (.inl v1), some (.inl v2), some (.inl v3), some (.inl v4), none, none, none, none, none, none, none, none] [] M Q :=
  jreg [(58, [7, 8, 9, 10, 11, 12]), (88, [7, 8, 9, 10, 11, 12]), (174, [8, 9, 10, 11, 12]), (257, [8, 9, 10, 11, 12]), (304, [8, 9, 10, 11, 12]), (326, [10, 11, 12]), (522, [3, 6, 8, 9, 10, 11, 12]), (570, [3, 6, 11, 12]), (625, [3, 6, 10, 11, 12]), (681, [3, 6, 9, 11, 12]), (718, [3, 6, 9, 12]), (757, [3, 6, 9])] 47 (by decide) ckX10_series h
set_option maxRecDepth 100000 in
theorem fX10_series_58 {d : Nat} {v1 : Int} {v2 : Int} {v3 : Int} {v4 : Int} {v5 : Int} {v6 : Int} {M : jM} {Q : Int → jM → Prop} (h :
    ((6 : Int) ≤ v6 →
      jWP d 108 88 [some (.inr (28, 0)), some (.inl v1), some (.inl v2), some (.inl v3), some (.inl v4), some (.inl v5), some (.inl 0), none, none, none, none, none, none] [] M Q) ∧
    (v6 < (6 : Int) →
      (0 ≤ v6 ∧ v6 < jal 28 11) ∧ (0 ≤ v6 ∧ v6 < jal 28 33) ∧ jWP d 108 58 [some (.inr (28, 0)), some (.inl v1), some (.inl v2), some (.inl v3), some (.inl v4), some (.inl v5), some (.inl (jwr (v6 + 1))), none, none, none, none, none, none] [] (jup M 28 33 v6 (M 28 11 v6)) Q)) :
    jWP d 108 58 [some (.inr (28, 0)), some (.inl v1), some (.inl v2), some (.inl v3), some (.inl v4), some (.inl v5), some (.inl v6), none, none, none, none, none, none] [] M Q :=
  jreg [(58, [7, 8, 9, 10, 11, 12]), (88, [7, 8, 9, 10, 11, 12]), (174, [8, 9, 10, 11, 12]), (257, [8, 9, 10, 11, 12]), (304, [8, 9, 10, 11, 12]), (326, [10, 11, 12]), (522, [3, 6, 8, 9, 10, 11, 12]), (570, [3, 6, 11, 12]), (625, [3, 6, 10, 11, 12]), (681, [3, 6, 9, 11, 12]), (718, [3, 6, 9, 12]), (757, [3, 6, 9])] 19 (by decide) ckX10_series h
set_option maxRecDepth 100000 in
theorem fX10_series_88 {d : Nat} {v1 : Int} {v2 : Int} {v3 : Int} {v4 : Int} {v5 : Int} {v6 : Int} {M : jM} {Q : Int → jM → Prop} (h :
    (0 ≤ v1 ∧ v1 < jal 28 9) ∧ ((M 28 9 v1) ≤ v6 →
      (¬ (M 28 0 4) = (1 : Int) →
        jCall d 80 [.inr (28, 0), .inl v1, .inl v3, .inl 0, .inl 0] M (fun r1 M1 =>
          jWP d 108 174 [some (.inr (28, 0)), some (.inl v1), some (.inl v2), some (.inl v3), some (.inl v4), some (.inl v5), some (.inl 0), some (.inl 0), none, none, none, none, none] [] M1 Q)) ∧
      ((M 28 0 4) = (1 : Int) →
        jCall d 80 [.inr (28, 0), .inl v1, .inl v3, .inl 0, .inl 1] M (fun r2 M2 =>
          jWP d 108 174 [some (.inr (28, 0)), some (.inl v1), some (.inl v2), some (.inl v3), some (.inl v4), some (.inl v5), some (.inl 0), some (.inl 0), none, none, none, none, none] [] M2 Q))) ∧
    (v6 < (M 28 9 v1) →
      (0 ≤ v6 ∧ v6 < jal 28 12) ∧ (0 ≤ v6 ∧ v6 < jal 28 34) ∧ (0 ≤ v6 ∧ v6 < jal 28 12) ∧ (((jup M 28 34 v6 (M 28 12 v6)) 28 12 v6) < (0 : Int) →
        jWP d 108 88 [some (.inr (28, 0)), some (.inl v1), some (.inl v2), some (.inl v3), some (.inl v4), some (.inl (jior v5 0)), some (.inl (jwr (v6 + 1))), none, none, none, none, none, none] [] (jup M 28 34 v6 (M 28 12 v6)) Q) ∧
      ((0 : Int) ≤ ((jup M 28 34 v6 (M 28 12 v6)) 28 12 v6) →
        (0 ≤ v6 ∧ v6 < jal 28 12) ∧ jWP d 108 88 [some (.inr (28, 0)), some (.inl v1), some (.inl v2), some (.inl v3), some (.inl v4), some (.inl (jior v5 (jishl 1 ((jup M 28 34 v6 (M 28 12 v6)) 28 12 v6)))), some (.inl (jwr (v6 + 1))), none, none, none, none, none, none] [] (jup M 28 34 v6 (M 28 12 v6)) Q))) :
    jWP d 108 88 [some (.inr (28, 0)), some (.inl v1), some (.inl v2), some (.inl v3), some (.inl v4), some (.inl v5), some (.inl v6), none, none, none, none, none, none] [] M Q :=
  jreg [(58, [7, 8, 9, 10, 11, 12]), (88, [7, 8, 9, 10, 11, 12]), (174, [8, 9, 10, 11, 12]), (257, [8, 9, 10, 11, 12]), (304, [8, 9, 10, 11, 12]), (326, [10, 11, 12]), (522, [3, 6, 8, 9, 10, 11, 12]), (570, [3, 6, 11, 12]), (625, [3, 6, 10, 11, 12]), (681, [3, 6, 9, 11, 12]), (718, [3, 6, 9, 12]), (757, [3, 6, 9])] 65 (by decide) ckX10_series h
set_option maxRecDepth 100000 in
theorem fX10_series_174 {d : Nat} {v1 : Int} {v2 : Int} {v3 : Int} {v4 : Int} {v5 : Int} {v6 : Int} {v7 : Int} {M : jM} {Q : Int → jM → Prop} (h :
    (0 ≤ v1 ∧ v1 < jal 28 9) ∧ ((M 28 9 v1) ≤ v7 →
      (0 ≤ v3 ∧ v3 < jal 28 6) ∧ jCall d 55 [.inr (28, 0), .inl 14, .inl (M 28 6 v3)] M (fun _ M1 =>
        (0 ≤ v3 ∧ v3 < jal 28 8) ∧ (0 ≤ (14 : Int) ∧ (14 : Int) < jal 28 8) ∧ jWP d 108 257 [some (.inr (28, 0)), some (.inl v1), some (.inl v2), some (.inl v3), some (.inl v4), some (.inl v5), some (.inl v6), some (.inl 0), none, none, none, none, none] [] (jup M1 28 8 14 (M1 28 8 v3)) Q)) ∧
    (v7 < (M 28 9 v1) →
      (0 ≤ v7 ∧ v7 < jal 28 34) ∧ ((0 : Int) ≤ (M 28 34 v7) →
        jWP d 108 174 [some (.inr (28, 0)), some (.inl v1), some (.inl v2), some (.inl v3), some (.inl v4), some (.inl v5), some (.inl (jior v6 0)), some (.inl (jwr (v7 + 1))), none, none, none, none, none] [] M Q) ∧
      ((M 28 34 v7) < (0 : Int) →
        (0 ≤ v7 ∧ v7 < jal 28 12) ∧ ((M 28 12 v7) < (0 : Int) →
          jWP d 108 174 [some (.inr (28, 0)), some (.inl v1), some (.inl v2), some (.inl v3), some (.inl v4), some (.inl v5), some (.inl (jior v6 0)), some (.inl (jwr (v7 + 1))), none, none, none, none, none] [] M Q) ∧
        ((0 : Int) ≤ (M 28 12 v7) →
          (0 ≤ v7 ∧ v7 < jal 28 12) ∧ jWP d 108 174 [some (.inr (28, 0)), some (.inl v1), some (.inl v2), some (.inl v3), some (.inl v4), some (.inl v5), some (.inl (jior v6 (jishl 1 (M 28 12 v7)))), some (.inl (jwr (v7 + 1))), none, none, none, none, none] [] M Q)))) :
    jWP d 108 174 [some (.inr (28, 0)), some (.inl v1), some (.inl v2), some (.inl v3), some (.inl v4), some (.inl v5), some (.inl v6), some (.inl v7), none, none, none, none, none] [] M Q :=
  jreg [(58, [7, 8, 9, 10, 11, 12]), (88, [7, 8, 9, 10, 11, 12]), (174, [8, 9, 10, 11, 12]), (257, [8, 9, 10, 11, 12]), (304, [8, 9, 10, 11, 12]), (326, [10, 11, 12]), (522, [3, 6, 8, 9, 10, 11, 12]), (570, [3, 6, 11, 12]), (625, [3, 6, 10, 11, 12]), (681, [3, 6, 9, 11, 12]), (718, [3, 6, 9, 12]), (757, [3, 6, 9])] 61 (by decide) ckX10_series h
set_option maxRecDepth 100000 in
theorem fX10_series_257 {d : Nat} {v1 : Int} {v2 : Int} {v3 : Int} {v4 : Int} {v5 : Int} {v6 : Int} {v7 : Int} {M : jM} {Q : Int → jM → Prop} (h :
    ((6 : Int) ≤ v7 →
      jWP d 108 304 [some (.inr (28, 0)), some (.inl v1), some (.inl v2), some (.inl v3), some (.inl v4), some (.inl v5), some (.inl v6), some (.inl 0), none, none, none, none, none] [] M Q) ∧
    (v7 < (6 : Int) →
      (0 ≤ (jwr ((jwr (6 * v3)) + v7)) ∧ (jwr ((jwr (6 * v3)) + v7)) < jal 28 7) ∧ (0 ≤ (jwr (84 + v7)) ∧ (jwr (84 + v7)) < jal 28 7) ∧ (0 ≤ v7 ∧ v7 < jal 28 31) ∧ jWP d 108 257 [some (.inr (28, 0)), some (.inl v1), some (.inl v2), some (.inl v3), some (.inl v4), some (.inl v5), some (.inl v6), some (.inl (jwr (v7 + 1))), none, none, none, none, none] [] (jup (jup M 28 7 (jwr (84 + v7)) (M 28 7 (jwr ((jwr (6 * v3)) + v7)))) 28 31 v7 v7) Q)) :
    jWP d 108 257 [some (.inr (28, 0)), some (.inl v1), some (.inl v2), some (.inl v3), some (.inl v4), some (.inl v5), some (.inl v6), some (.inl v7), none, none, none, none, none] [] M Q :=
  jreg [(58, [7, 8, 9, 10, 11, 12]), (88, [7, 8, 9, 10, 11, 12]), (174, [8, 9, 10, 11, 12]), (257, [8, 9, 10, 11, 12]), (304, [8, 9, 10, 11, 12]), (326, [10, 11, 12]), (522, [3, 6, 8, 9, 10, 11, 12]), (570, [3, 6, 11, 12]), (625, [3, 6, 10, 11, 12]), (681, [3, 6, 9, 11, 12]), (718, [3, 6, 9, 12]), (757, [3, 6, 9])] 30 (by decide) ckX10_series h
set_option maxRecDepth 100000 in
theorem fX10_series_304 {d : Nat} {v1 : Int} {v2 : Int} {v3 : Int} {v4 : Int} {v5 : Int} {v6 : Int} {v7 : Int} {M : jM} {Q : Int → jM → Prop} (h :
    (0 ≤ v3 ∧ v3 < jal 28 9) ∧ ((M 28 9 v3) ≤ v7 →
      jWP d 108 522 [some (.inr (28, 0)), some (.inl v1), some (.inl v2), none, some (.inl v4), some (.inl v5), none, some (.inl 0), none, none, none, none, none] [] M Q) ∧
    (v7 < (M 28 9 v3) →
      jCall d 42 [.inl v3, .inl v7] M (fun r1 M1 =>
        jWP d 108 326 [some (.inr (28, 0)), some (.inl v1), some (.inl v2), some (.inl v3), some (.inl v4), some (.inl v5), some (.inl v6), some (.inl v7), some (.inl r1), some (.inl 0), none, none, none] [] M1 Q))) :
    jWP d 108 304 [some (.inr (28, 0)), some (.inl v1), some (.inl v2), some (.inl v3), some (.inl v4), some (.inl v5), some (.inl v6), some (.inl v7), none, none, none, none, none] [] M Q :=
  jreg [(58, [7, 8, 9, 10, 11, 12]), (88, [7, 8, 9, 10, 11, 12]), (174, [8, 9, 10, 11, 12]), (257, [8, 9, 10, 11, 12]), (304, [8, 9, 10, 11, 12]), (326, [10, 11, 12]), (522, [3, 6, 8, 9, 10, 11, 12]), (570, [3, 6, 11, 12]), (625, [3, 6, 10, 11, 12]), (681, [3, 6, 9, 11, 12]), (718, [3, 6, 9, 12]), (757, [3, 6, 9])] 18 (by decide) ckX10_series h
set_option maxRecDepth 100000 in
theorem fX10_series_326 {d : Nat} {v1 : Int} {v2 : Int} {v3 : Int} {v4 : Int} {v5 : Int} {v6 : Int} {v7 : Int} {v8 : Int} {v9 : Int} {M : jM} {Q : Int → jM → Prop} (h :
    (0 ≤ v8 ∧ v8 < jal 28 10) ∧ (0 ≤ (M 28 10 v8) ∧ (M 28 10 v8) < jal 28 1) ∧ ((M 28 1 (M 28 10 v8)) ≤ v9 →
      (0 ≤ v7 ∧ v7 < jal 28 35) ∧ (0 ≤ v7 ∧ v7 < jal 28 32) ∧ (¬ (jiand (jishr v6 v7) 1) = (0 : Int) →
        jWP d 108 304 [some (.inr (28, 0)), some (.inl v1), some (.inl v2), some (.inl v3), some (.inl v4), some (.inl v5), some (.inl v6), some (.inl (jwr (v7 + 1))), none, none, none, none, none] [] (jup (jup M 28 35 v7 (-6)) 28 32 v7 0) Q) ∧
      ((jiand (jishr v6 v7) 1) = (0 : Int) →
        (0 ≤ (14 : Int) ∧ (14 : Int) < jal 28 9) ∧ (0 ≤ v7 ∧ v7 < jal 28 35) ∧ (0 ≤ v7 ∧ v7 < jal 28 35) ∧ (0 ≤ v7 ∧ v7 < jal 28 32) ∧ (0 ≤ v8 ∧ v8 < jal 28 10) ∧ (0 ≤ (jwr (v8 + 1)) ∧ (jwr (v8 + 1)) < jal 28 10) ∧ jCall d 104 [.inr (28, 0), .inl ((jup (jup (jup (jup M 28 35 v7 (-6)) 28 32 v7 0) 28 35 v7 ((jup (jup M 28 35 v7 (-6)) 28 32 v7 0) 28 9 14)) 28 32 v7 ((jup (jup (jup M 28 35 v7 (-6)) 28 32 v7 0) 28 35 v7 ((jup (jup M 28 35 v7 (-6)) 28 32 v7 0) 28 9 14)) 28 35 v7)) 28 10 (jwr (v8 + 1)))] (jup (jup (jup (jup M 28 35 v7 (-6)) 28 32 v7 0) 28 35 v7 ((jup (jup M 28 35 v7 (-6)) 28 32 v7 0) 28 9 14)) 28 32 v7 ((jup (jup (jup M 28 35 v7 (-6)) 28 32 v7 0) 28 35 v7 ((jup (jup M 28 35 v7 (-6)) 28 32 v7 0) 28 9 14)) 28 35 v7)) (fun r1 M1 =>
          (0 ≤ (jwr (v8 + 2)) ∧ (jwr (v8 + 2)) < jal 28 10) ∧ jCall d 104 [.inr (28, 0), .inl (M1 28 10 (jwr (v8 + 2)))] M1 (fun r2 M2 =>
            (0 ≤ (jwr (v8 + 3)) ∧ (jwr (v8 + 3)) < jal 28 10) ∧ jCall d 104 [.inr (28, 0), .inl (M2 28 10 (jwr (v8 + 3)))] M2 (fun r3 M3 =>
              (0 ≤ (jwr (v8 + 4)) ∧ (jwr (v8 + 4)) < jal 28 10) ∧ jCall d 63 [.inr (28, 0), .inl 14, .inl ((jup (jup (jup (jup M 28 35 v7 (-6)) 28 32 v7 0) 28 35 v7 ((jup (jup M 28 35 v7 (-6)) 28 32 v7 0) 28 9 14)) 28 32 v7 ((jup (jup (jup M 28 35 v7 (-6)) 28 32 v7 0) 28 35 v7 ((jup (jup M 28 35 v7 (-6)) 28 32 v7 0) 28 9 14)) 28 35 v7)) 28 10 v8), .inl r1, .inl r2, .inl r3, .inl (M3 28 10 (jwr (v8 + 4)))] M3 (fun _ M4 =>
                jWP d 108 304 [some (.inr (28, 0)), some (.inl v1), some (.inl v2), some (.inl v3), some (.inl v4), some (.inl v5), some (.inl v6), some (.inl (jwr (v7 + 1))), none, none, none, none, none] [] M4 Q)))))) ∧
    (v9 < (M 28 1 (M 28 10 v8)) →
      (0 ≤ (jwr ((jwr (v8 + 1)) + v9)) ∧ (jwr ((jwr (v8 + 1)) + v9)) < jal 28 10) ∧ ((M 28 10 (jwr ((jwr (v8 + 1)) + v9))) < (10 : Int) →
        jWP d 108 326 [some (.inr (28, 0)), some (.inl v1), some (.inl v2), some (.inl v3), some (.inl v4), some (.inl v5), some (.inl (jior v6 0)), some (.inl v7), some (.inl v8), some (.inl (jwr (v9 + 1))), none, none, none] [] M Q) ∧
      ((10 : Int) ≤ (M 28 10 (jwr ((jwr (v8 + 1)) + v9))) →
        (¬ (jiand (jishr v6 (jwr ((M 28 10 (jwr ((jwr (v8 + 1)) + v9))) - 10))) 1) = (1 : Int) →
          jWP d 108 326 [some (.inr (28, 0)), some (.inl v1), some (.inl v2), some (.inl v3), some (.inl v4), some (.inl v5), some (.inl (jior v6 0)), some (.inl v7), some (.inl v8), some (.inl (jwr (v9 + 1))), none, none, none] [] M Q) ∧
        ((jiand (jishr v6 (jwr ((M 28 10 (jwr ((jwr (v8 + 1)) + v9))) - 10))) 1) = (1 : Int) →
          jWP d 108 326 [some (.inr (28, 0)), some (.inl v1), some (.inl v2), some (.inl v3), some (.inl v4), some (.inl v5), some (.inl (jior v6 (jishl 1 v7))), some (.inl v7), some (.inl v8), some (.inl (jwr (v9 + 1))), none, none, none] [] M Q)))) :
    jWP d 108 326 [some (.inr (28, 0)), some (.inl v1), some (.inl v2), some (.inl v3), some (.inl v4), some (.inl v5), some (.inl v6), some (.inl v7), some (.inl v8), some (.inl v9), none, none, none] [] M Q :=
  jreg [(58, [7, 8, 9, 10, 11, 12]), (88, [7, 8, 9, 10, 11, 12]), (174, [8, 9, 10, 11, 12]), (257, [8, 9, 10, 11, 12]), (304, [8, 9, 10, 11, 12]), (326, [10, 11, 12]), (522, [3, 6, 8, 9, 10, 11, 12]), (570, [3, 6, 11, 12]), (625, [3, 6, 10, 11, 12]), (681, [3, 6, 9, 11, 12]), (718, [3, 6, 9, 12]), (757, [3, 6, 9])] 129 (by decide) ckX10_series h
set_option maxRecDepth 100000 in
theorem fX10_series_522 {d : Nat} {v1 : Int} {v2 : Int} {v4 : Int} {v5 : Int} {v7 : Int} {M : jM} {Q : Int → jM → Prop} (h :
    (0 ≤ v2 ∧ v2 < jal 28 9) ∧ ((M 28 9 v2) ≤ v7 →
      jCall d 68 [.inr (28, 0), .inl v4, .inl 14] M (fun _ M1 =>
        (0 ≤ v4 ∧ v4 < jal 28 9) ∧ Q (M1 28 9 v4) M1)) ∧
    (v7 < (M 28 9 v2) →
      (0 ≤ v7 ∧ v7 < jal 28 36) ∧ jCall d 42 [.inl v2, .inl v7] (jup M 28 36 v7 (-6)) (fun r2 M2 =>
        (¬ (jiand (jishr v5 v7) 1) = (0 : Int) →
          jWP d 108 570 [some (.inr (28, 0)), some (.inl v1), some (.inl v2), none, some (.inl v4), some (.inl v5), none, some (.inl v7), some (.inl r2), some (.inl 0), some (.inl 0), none, none] [] M2 Q) ∧
        ((jiand (jishr v5 v7) 1) = (0 : Int) →
          jWP d 108 570 [some (.inr (28, 0)), some (.inl v1), some (.inl v2), none, some (.inl v4), some (.inl v5), none, some (.inl v7), some (.inl r2), some (.inl 1), some (.inl 0), none, none] [] M2 Q)))) :
    jWP d 108 522 [some (.inr (28, 0)), some (.inl v1), some (.inl v2), none, some (.inl v4), some (.inl v5), none, some (.inl v7), none, none, none, none, none] [] M Q :=
  jreg [(58, [7, 8, 9, 10, 11, 12]), (88, [7, 8, 9, 10, 11, 12]), (174, [8, 9, 10, 11, 12]), (257, [8, 9, 10, 11, 12]), (304, [8, 9, 10, 11, 12]), (326, [10, 11, 12]), (522, [3, 6, 8, 9, 10, 11, 12]), (570, [3, 6, 11, 12]), (625, [3, 6, 10, 11, 12]), (681, [3, 6, 9, 11, 12]), (718, [3, 6, 9, 12]), (757, [3, 6, 9])] 43 (by decide) ckX10_series h
set_option maxRecDepth 100000 in
theorem fX10_series_570 {d : Nat} {v1 : Int} {v2 : Int} {v4 : Int} {v5 : Int} {v7 : Int} {v8 : Int} {v9 : Int} {v10 : Int} {M : jM} {Q : Int → jM → Prop} (h :
    (0 ≤ v8 ∧ v8 < jal 28 10) ∧ (0 ≤ (M 28 10 v8) ∧ (M 28 10 v8) < jal 28 1) ∧ ((M 28 1 (M 28 10 v8)) ≤ v10 →
      jWP d 108 625 [some (.inr (28, 0)), some (.inl v1), some (.inl v2), none, some (.inl v4), some (.inl v5), none, some (.inl v7), some (.inl v8), some (.inl v9), none, none, none] [] M Q) ∧
    (v10 < (M 28 1 (M 28 10 v8)) →
      (v9 = (0 : Int) →
        jWP d 108 625 [some (.inr (28, 0)), some (.inl v1), some (.inl v2), none, some (.inl v4), some (.inl v5), none, some (.inl v7), some (.inl v8), some (.inl v9), none, none, none] [] M Q) ∧
      (¬ v9 = (0 : Int) →
        (0 ≤ (jwr ((jwr (v8 + 1)) + v10)) ∧ (jwr ((jwr (v8 + 1)) + v10)) < jal 28 10) ∧ jCall d 107 [.inr (28, 0), .inl v1, .inl (M 28 10 (jwr ((jwr (v8 + 1)) + v10)))] M (fun r1 M1 =>
          (r1 < (0 : Int) →
            jWP d 108 570 [some (.inr (28, 0)), some (.inl v1), some (.inl v2), none, some (.inl v4), some (.inl v5), none, some (.inl v7), some (.inl v8), some (.inl 0), some (.inl (jwr (v10 + 1))), none, none] [] M1 Q) ∧
          ((0 : Int) ≤ r1 →
            jWP d 108 570 [some (.inr (28, 0)), some (.inl v1), some (.inl v2), none, some (.inl v4), some (.inl v5), none, some (.inl v7), some (.inl v8), some (.inl 1), some (.inl (jwr (v10 + 1))), none, none] [] M1 Q))))) :
    jWP d 108 570 [some (.inr (28, 0)), some (.inl v1), some (.inl v2), none, some (.inl v4), some (.inl v5), none, some (.inl v7), some (.inl v8), some (.inl v9), some (.inl v10), none, none] [] M Q :=
  jreg [(58, [7, 8, 9, 10, 11, 12]), (88, [7, 8, 9, 10, 11, 12]), (174, [8, 9, 10, 11, 12]), (257, [8, 9, 10, 11, 12]), (304, [8, 9, 10, 11, 12]), (326, [10, 11, 12]), (522, [3, 6, 8, 9, 10, 11, 12]), (570, [3, 6, 11, 12]), (625, [3, 6, 10, 11, 12]), (681, [3, 6, 9, 11, 12]), (718, [3, 6, 9, 12]), (757, [3, 6, 9])] 38 (by decide) ckX10_series h
set_option maxRecDepth 100000 in
theorem fX10_series_625 {d : Nat} {v1 : Int} {v2 : Int} {v4 : Int} {v5 : Int} {v7 : Int} {v8 : Int} {v9 : Int} {M : jM} {Q : Int → jM → Prop} (h :
    (v9 = (0 : Int) →
      jWP d 108 522 [some (.inr (28, 0)), some (.inl v1), some (.inl v2), none, some (.inl v4), some (.inl v5), none, some (.inl (jwr (v7 + 1))), none, none, none, none, none] [] M Q) ∧
    (¬ v9 = (0 : Int) →
      (0 ≤ (jwr (v8 + 1)) ∧ (jwr (v8 + 1)) < jal 28 10) ∧ jCall d 107 [.inr (28, 0), .inl v1, .inl (M 28 10 (jwr (v8 + 1)))] M (fun r1 M1 =>
        (0 ≤ v8 ∧ v8 < jal 28 10) ∧ (0 ≤ (M1 28 10 v8) ∧ (M1 28 10 v8) < jal 28 1) ∧ ((M1 28 1 (M1 28 10 v8)) ≤ (1 : Int) →
          jWP d 108 681 [some (.inr (28, 0)), some (.inl v1), some (.inl v2), none, some (.inl v4), some (.inl v5), none, some (.inl v7), some (.inl v8), none, some (.inl r1), none, none] [.inl (-6)] M1 Q) ∧
        ((1 : Int) < (M1 28 1 (M1 28 10 v8)) →
          (0 ≤ (jwr (v8 + 2)) ∧ (jwr (v8 + 2)) < jal 28 10) ∧ jCall d 107 [.inr (28, 0), .inl v1, .inl (M1 28 10 (jwr (v8 + 2)))] M1 (fun r2 M2 =>
            jWP d 108 681 [some (.inr (28, 0)), some (.inl v1), some (.inl v2), none, some (.inl v4), some (.inl v5), none, some (.inl v7), some (.inl v8), none, some (.inl r1), none, none] [.inl r2] M2 Q))))) :
    jWP d 108 625 [some (.inr (28, 0)), some (.inl v1), some (.inl v2), none, some (.inl v4), some (.inl v5), none, some (.inl v7), some (.inl v8), some (.inl v9), none, none, none] [] M Q :=
  jreg [(58, [7, 8, 9, 10, 11, 12]), (88, [7, 8, 9, 10, 11, 12]), (174, [8, 9, 10, 11, 12]), (257, [8, 9, 10, 11, 12]), (304, [8, 9, 10, 11, 12]), (326, [10, 11, 12]), (522, [3, 6, 8, 9, 10, 11, 12]), (570, [3, 6, 11, 12]), (625, [3, 6, 10, 11, 12]), (681, [3, 6, 9, 11, 12]), (718, [3, 6, 9, 12]), (757, [3, 6, 9])] 39 (by decide) ckX10_series h
set_option maxRecDepth 100000 in
theorem fX10_series_681 {d : Nat} {v1 : Int} {v2 : Int} {v4 : Int} {v5 : Int} {v7 : Int} {v8 : Int} {v10 : Int} {s0 : Int} {M : jM} {Q : Int → jM → Prop} (h :
    (0 ≤ v8 ∧ v8 < jal 28 10) ∧ (0 ≤ (M 28 10 v8) ∧ (M 28 10 v8) < jal 28 1) ∧ ((M 28 1 (M 28 10 v8)) ≤ (2 : Int) →
      jWP d 108 718 [some (.inr (28, 0)), some (.inl v1), some (.inl v2), none, some (.inl v4), some (.inl v5), none, some (.inl v7), some (.inl v8), none, some (.inl v10), some (.inl s0), none] [.inl (-6)] M Q) ∧
    ((2 : Int) < (M 28 1 (M 28 10 v8)) →
      (0 ≤ (jwr (v8 + 3)) ∧ (jwr (v8 + 3)) < jal 28 10) ∧ jCall d 107 [.inr (28, 0), .inl v1, .inl (M 28 10 (jwr (v8 + 3)))] M (fun r1 M1 =>
        jWP d 108 718 [some (.inr (28, 0)), some (.inl v1), some (.inl v2), none, some (.inl v4), some (.inl v5), none, some (.inl v7), some (.inl v8), none, some (.inl v10), some (.inl s0), none] [.inl r1] M1 Q))) :
    jWP d 108 681 [some (.inr (28, 0)), some (.inl v1), some (.inl v2), none, some (.inl v4), some (.inl v5), none, some (.inl v7), some (.inl v8), none, some (.inl v10), none, none] [.inl s0] M Q :=
  jreg [(58, [7, 8, 9, 10, 11, 12]), (88, [7, 8, 9, 10, 11, 12]), (174, [8, 9, 10, 11, 12]), (257, [8, 9, 10, 11, 12]), (304, [8, 9, 10, 11, 12]), (326, [10, 11, 12]), (522, [3, 6, 8, 9, 10, 11, 12]), (570, [3, 6, 11, 12]), (625, [3, 6, 10, 11, 12]), (681, [3, 6, 9, 11, 12]), (718, [3, 6, 9, 12]), (757, [3, 6, 9])] 25 (by decide) ckX10_series h
set_option maxRecDepth 100000 in
theorem fX10_series_718 {d : Nat} {v1 : Int} {v2 : Int} {v4 : Int} {v5 : Int} {v7 : Int} {v8 : Int} {v10 : Int} {v11 : Int} {s0 : Int} {M : jM} {Q : Int → jM → Prop} (h :
    (0 ≤ (14 : Int) ∧ (14 : Int) < jal 28 9) ∧ (¬ (M 28 9 14) = (14 : Int) →
      jWP d 108 757 [some (.inr (28, 0)), some (.inl v1), some (.inl v2), none, some (.inl v4), some (.inl v5), none, some (.inl v7), some (.inl v8), none, some (.inl v10), some (.inl v11), some (.inl s0)] [] M Q) ∧
    ((M 28 9 14) = (14 : Int) →
      (0 ≤ v8 ∧ v8 < jal 28 10) ∧ jCall d 61 [.inr (28, 0), .inl 14, .inl (M 28 10 v8), .inl v10, .inl v11, .inl s0] M (fun r1 M1 =>
        ((0 : Int) ≤ r1 →
          jWP d 108 757 [some (.inr (28, 0)), some (.inl v1), some (.inl v2), none, some (.inl v4), some (.inl v5), none, some (.inl v7), some (.inl v8), none, some (.inl v10), some (.inl v11), some (.inl s0)] [] M1 Q) ∧
        (r1 < (0 : Int) →
          Q (-4) M1)))) :
    jWP d 108 718 [some (.inr (28, 0)), some (.inl v1), some (.inl v2), none, some (.inl v4), some (.inl v5), none, some (.inl v7), some (.inl v8), none, some (.inl v10), some (.inl v11), none] [.inl s0] M Q :=
  jreg [(58, [7, 8, 9, 10, 11, 12]), (88, [7, 8, 9, 10, 11, 12]), (174, [8, 9, 10, 11, 12]), (257, [8, 9, 10, 11, 12]), (304, [8, 9, 10, 11, 12]), (326, [10, 11, 12]), (522, [3, 6, 8, 9, 10, 11, 12]), (570, [3, 6, 11, 12]), (625, [3, 6, 10, 11, 12]), (681, [3, 6, 9, 11, 12]), (718, [3, 6, 9, 12]), (757, [3, 6, 9])] 24 (by decide) ckX10_series h
set_option maxRecDepth 100000 in
theorem fX10_series_757 {d : Nat} {v1 : Int} {v2 : Int} {v4 : Int} {v5 : Int} {v7 : Int} {v8 : Int} {v10 : Int} {v11 : Int} {v12 : Int} {M : jM} {Q : Int → jM → Prop} (h :
    (0 ≤ v8 ∧ v8 < jal 28 10) ∧ (0 ≤ (jwr (v8 + 4)) ∧ (jwr (v8 + 4)) < jal 28 10) ∧ jCall d 105 [.inr (28, 0), .inl (M 28 10 v8), .inl v10, .inl v11, .inl v12, .inl (M 28 10 (jwr (v8 + 4)))] M (fun r1 M1 =>
      (0 ≤ v7 ∧ v7 < jal 28 36) ∧ jWP d 108 522 [some (.inr (28, 0)), some (.inl v1), some (.inl v2), none, some (.inl v4), some (.inl v5), none, some (.inl (jwr (v7 + 1))), none, none, none, none, none] [] (jup M1 28 36 v7 r1) Q)) :
    jWP d 108 757 [some (.inr (28, 0)), some (.inl v1), some (.inl v2), none, some (.inl v4), some (.inl v5), none, some (.inl v7), some (.inl v8), none, some (.inl v10), some (.inl v11), some (.inl v12)] [] M Q :=
  jreg [(58, [7, 8, 9, 10, 11, 12]), (88, [7, 8, 9, 10, 11, 12]), (174, [8, 9, 10, 11, 12]), (257, [8, 9, 10, 11, 12]), (304, [8, 9, 10, 11, 12]), (326, [10, 11, 12]), (522, [3, 6, 8, 9, 10, 11, 12]), (570, [3, 6, 11, 12]), (625, [3, 6, 10, 11, 12]), (681, [3, 6, 9, 11, 12]), (718, [3, 6, 9, 12]), (757, [3, 6, 9])] 24 (by decide) ckX10_series h
set_option maxRecDepth 100000 in
theorem fX10_leftOut_0 {d : Nat} {v1 : Int} {v2 : Int} {M : jM} {Q : Int → jM → Prop} (h :
    jCall d 41 [.inl v1] M (fun r1 M1 =>
      (r1 = (0 : Int) →
        Q (-1) M1) ∧
      (¬ r1 = (0 : Int) →
        jCall d 41 [.inl v2] M1 (fun r2 M2 =>
          (¬ r2 = (0 : Int) →
            (¬ (M2 28 0 4) = (1 : Int) →
              jCall d 80 [.inr (28, 0), .inl v1, .inl v2, .inl 0, .inl 0] M2 (fun r3 M3 =>
                (0 ≤ v1 ∧ v1 < jal 28 9) ∧ Q (jwr ((M3 28 9 v1) - (M3 28 0 16))) M3)) ∧
            ((M2 28 0 4) = (1 : Int) →
              jCall d 80 [.inr (28, 0), .inl v1, .inl v2, .inl 0, .inl 1] M2 (fun r4 M4 =>
                (0 ≤ v1 ∧ v1 < jal 28 9) ∧ Q (jwr ((M4 28 9 v1) - (M4 28 0 16))) M4))) ∧
          (r2 = (0 : Int) →
            Q (-1) M2))))) :
    jWP d 109 0 [some (.inr (28, 0)), some (.inl v1), some (.inl v2)] [] M Q :=
  jreg [] 43 (by decide) ckX10_leftOut h
set_option maxRecDepth 100000 in
theorem fX10_trial_0 {d : Nat} {v1 : Int} {M : jM} {Q : Int → jM → Prop} (h :
    jCall d 39 [.inl v1, .inl 0, .inl 1] M (fun r1 M1 =>
      (¬ r1 = (0 : Int) →
        jWP d 110 30 [some (.inr (28, 0)), some (.inl v1), some (.inl 0), some (.inl 0), some (.inl 0), none, none] [] M1 Q) ∧
      (r1 = (0 : Int) →
        jCall d 39 [.inl v1, .inl 10, .inl 19] M1 (fun r2 M2 =>
          (¬ r2 = (0 : Int) →
            jWP d 110 30 [some (.inr (28, 0)), some (.inl v1), some (.inl 0), some (.inl 0), some (.inl 0), none, none] [] M2 Q) ∧
          (r2 = (0 : Int) →
            Q (-2) M2))))) :
    jWP d 110 0 [some (.inr (28, 0)), some (.inl v1), none, none, none, none, none] [] M Q :=
  jreg [(30, [5, 6]), (66, [5, 6]), (91, [6])] 28 (by decide) ckX10_trial h
set_option maxRecDepth 100000 in
theorem fX10_trial_30 {d : Nat} {v1 : Int} {v2 : Int} {v3 : Int} {v4 : Int} {M : jM} {Q : Int → jM → Prop} (h :
    ((12 : Int) ≤ v4 →
      (¬ v1 = (1 : Int) →
        Q v2 M) ∧
      (v1 = (1 : Int) →
        Q v3 M)) ∧
    (v4 < (12 : Int) →
      (0 ≤ v4 ∧ v4 < jal 28 9) ∧ ((M 28 9 v4) ≤ (0 : Int) →
        jWP d 110 30 [some (.inr (28, 0)), some (.inl v1), some (.inl v2), some (.inl v3), some (.inl (jwr (v4 + 1))), none, none] [] M Q) ∧
      ((0 : Int) < (M 28 9 v4) →
        (¬ v1 = (1 : Int) →
          jCall d 101 [.inr (28, 0), .inl v4] M (fun r1 M1 =>
            jWP d 110 66 [some (.inr (28, 0)), some (.inl v1), some (.inl v2), some (.inl (jwr (v3 + 1))), some (.inl v4), none, none] [.inl r1] M1 Q)) ∧
        (v1 = (1 : Int) →
          jWP d 110 66 [some (.inr (28, 0)), some (.inl v1), some (.inl v2), some (.inl (jwr (v3 + 1))), some (.inl v4), none, none] [.inl (-6)] M Q)))) :
    jWP d 110 30 [some (.inr (28, 0)), some (.inl v1), some (.inl v2), some (.inl v3), some (.inl v4), none, none] [] M Q :=
  jreg [(30, [5, 6]), (66, [5, 6]), (91, [6])] 32 (by decide) ckX10_trial h
set_option maxRecDepth 100000 in
theorem fX10_trial_66 {d : Nat} {v1 : Int} {v2 : Int} {v3 : Int} {v4 : Int} {s0 : Int} {M : jM} {Q : Int → jM → Prop} (h :
    (v1 = (0 : Int) →
      jWP d 110 91 [some (.inr (28, 0)), some (.inl v1), some (.inl v2), some (.inl v3), some (.inl v4), some (.inl s0), none] [.inl 1] M Q) ∧
    (¬ v1 = (0 : Int) →
      (0 ≤ v4 ∧ v4 < jal 28 8) ∧ (¬ (M 28 8 v4) = (jwr (v1 - 10)) →
        jWP d 110 91 [some (.inr (28, 0)), some (.inl v1), some (.inl v2), some (.inl v3), some (.inl v4), some (.inl s0), none] [.inl 0] M Q) ∧
      ((M 28 8 v4) = (jwr (v1 - 10)) →
        jWP d 110 91 [some (.inr (28, 0)), some (.inl v1), some (.inl v2), some (.inl v3), some (.inl v4), some (.inl s0), none] [.inl 1] M Q))) :
    jWP d 110 66 [some (.inr (28, 0)), some (.inl v1), some (.inl v2), some (.inl v3), some (.inl v4), none, none] [.inl s0] M Q :=
  jreg [(30, [5, 6]), (66, [5, 6]), (91, [6])] 21 (by decide) ckX10_trial h
set_option maxRecDepth 100000 in
theorem fX10_trial_91 {d : Nat} {v1 : Int} {v2 : Int} {v3 : Int} {v4 : Int} {v5 : Int} {s0 : Int} {M : jM} {Q : Int → jM → Prop} (h :
    (v5 < (0 : Int) →
      jWP d 110 30 [some (.inr (28, 0)), some (.inl v1), some (.inl (jwr (v2 + 0))), some (.inl v3), some (.inl (jwr (v4 + 1))), none, none] [] M Q) ∧
    ((0 : Int) ≤ v5 →
      (s0 = (0 : Int) →
        jWP d 110 30 [some (.inr (28, 0)), some (.inl v1), some (.inl (jwr (v2 + 0))), some (.inl v3), some (.inl (jwr (v4 + 1))), none, none] [] M Q) ∧
      (¬ s0 = (0 : Int) →
        (0 ≤ v5 ∧ v5 < jal 28 8) ∧ (0 ≤ v4 ∧ v4 < jal 28 8) ∧ (¬ (M 28 8 v5) = (M 28 8 v4) →
          jWP d 110 30 [some (.inr (28, 0)), some (.inl v1), some (.inl (jwr (v2 + 0))), some (.inl v3), some (.inl (jwr (v4 + 1))), none, none] [] M Q) ∧
        ((M 28 8 v5) = (M 28 8 v4) →
          jWP d 110 30 [some (.inr (28, 0)), some (.inl v1), some (.inl (jwr (v2 + 1))), some (.inl v3), some (.inl (jwr (v4 + 1))), none, none] [] M Q)))) :
    jWP d 110 91 [some (.inr (28, 0)), some (.inl v1), some (.inl v2), some (.inl v3), some (.inl v4), some (.inl v5), none] [.inl s0] M Q :=
  jreg [(30, [5, 6]), (66, [5, 6]), (91, [6])] 42 (by decide) ckX10_trial h
