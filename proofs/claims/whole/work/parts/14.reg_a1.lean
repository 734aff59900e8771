set_option maxRecDepth 100000 in
theorem fX1_gather_24_0 {d : Nat}  {M : jM} {Q : Int → jM → Prop} (h :
    jWP d 124 7 [some (.inr (24, 0)), some (.inl 0)] [] (jup M 24 0 3 0) Q) :
    jWP d 124 0 [some (.inr (24, 0)), none] [] M Q :=
  jreg [(7, [])] 8 (by decide) ckX1_gather h
set_option maxRecDepth 100000 in
theorem fX1_gather_24_7 {d : Nat} {v1 : Int} {M : jM} {Q : Int → jM → Prop} (h :
    (0 ≤ (12 : Int) ∧ (12 : Int) < 18) ∧ ((M 12 0 1) ≤ v1 →
      Q 0 M) ∧
    (v1 < (M 12 0 1) →
      (0 ≤ v1 ∧ v1 < jal 24 6) ∧ (0 ≤ v1 ∧ v1 < jal 23 7) ∧ (¬ ((jup M 24 6 v1 (-1)) 23 7 v1) = (-1 : Int) →
        jWP d 124 7 [some (.inr (24, 0)), some (.inl (jwr (v1 + 1)))] [] (jup M 24 6 v1 (-1)) Q) ∧
      (((jup M 24 6 v1 (-1)) 23 7 v1) = (-1 : Int) →
        jCall d 125 [.inr (24, 0), .inl v1] (jup M 24 6 v1 (-1)) (fun r1 M1 =>
          (r1 = (0 : Int) →
            jWP d 124 7 [some (.inr (24, 0)), some (.inl (jwr (v1 + 1)))] [] M1 Q) ∧
          (¬ r1 = (0 : Int) →
            (0 ≤ v1 ∧ v1 < jal 24 6) ∧ (0 ≤ ((jup M1 24 6 v1 (M1 24 0 3)) 24 0 3) ∧ ((jup M1 24 6 v1 (M1 24 0 3)) 24 0 3) < jal 24 5) ∧ jWP d 124 7 [some (.inr (24, 0)), some (.inl (jwr (v1 + 1)))] [] (jup (jup (jup M1 24 6 v1 (M1 24 0 3)) 24 5 ((jup M1 24 6 v1 (M1 24 0 3)) 24 0 3) v1) 24 0 3 (jwr (((jup (jup M1 24 6 v1 (M1 24 0 3)) 24 5 ((jup M1 24 6 v1 (M1 24 0 3)) 24 0 3) v1) 24 0 3) + 1))) Q))))) :
    jWP d 124 7 [some (.inr (24, 0)), some (.inl v1)] [] M Q :=
  jreg [(7, [])] 50 (by decide) ckX1_gather h
set_option maxRecDepth 100000 in
theorem fX1_gather_25_0 {d : Nat}  {M : jM} {Q : Int → jM → Prop} (h :
    jWP d 124 7 [some (.inr (25, 0)), some (.inl 0)] [] (jup M 25 0 3 0) Q) :
    jWP d 124 0 [some (.inr (25, 0)), none] [] M Q :=
  jreg [(7, [])] 8 (by decide) ckX1_gather h
set_option maxRecDepth 100000 in
theorem fX1_gather_25_7 {d : Nat} {v1 : Int} {M : jM} {Q : Int → jM → Prop} (h :
    (0 ≤ (12 : Int) ∧ (12 : Int) < 18) ∧ ((M 12 0 1) ≤ v1 →
      Q 0 M) ∧
    (v1 < (M 12 0 1) →
      (0 ≤ v1 ∧ v1 < jal 25 6) ∧ (0 ≤ v1 ∧ v1 < jal 20 7) ∧ (¬ ((jup M 25 6 v1 (-1)) 20 7 v1) = (-1 : Int) →
        jWP d 124 7 [some (.inr (25, 0)), some (.inl (jwr (v1 + 1)))] [] (jup M 25 6 v1 (-1)) Q) ∧
      (((jup M 25 6 v1 (-1)) 20 7 v1) = (-1 : Int) →
        jCall d 125 [.inr (25, 0), .inl v1] (jup M 25 6 v1 (-1)) (fun r1 M1 =>
          (r1 = (0 : Int) →
            jWP d 124 7 [some (.inr (25, 0)), some (.inl (jwr (v1 + 1)))] [] M1 Q) ∧
          (¬ r1 = (0 : Int) →
            (0 ≤ v1 ∧ v1 < jal 25 6) ∧ (0 ≤ ((jup M1 25 6 v1 (M1 25 0 3)) 25 0 3) ∧ ((jup M1 25 6 v1 (M1 25 0 3)) 25 0 3) < jal 25 5) ∧ jWP d 124 7 [some (.inr (25, 0)), some (.inl (jwr (v1 + 1)))] [] (jup (jup (jup M1 25 6 v1 (M1 25 0 3)) 25 5 ((jup M1 25 6 v1 (M1 25 0 3)) 25 0 3) v1) 25 0 3 (jwr (((jup (jup M1 25 6 v1 (M1 25 0 3)) 25 5 ((jup M1 25 6 v1 (M1 25 0 3)) 25 0 3) v1) 25 0 3) + 1))) Q))))) :
    jWP d 124 7 [some (.inr (25, 0)), some (.inl v1)] [] M Q :=
  jreg [(7, [])] 50 (by decide) ckX1_gather h
set_option maxRecDepth 100000 in
theorem fX1_isGuess_24_0 {d : Nat} {v1 : Int} {M : jM} {Q : Int → jM → Prop} (h :
    jWP d 125 2 [some (.inr (24, 0)), some (.inl v1), some (.inl 0), none] [] M Q) :
    jWP d 125 0 [some (.inr (24, 0)), some (.inl v1), none, none] [] M Q :=
  jreg [(2, [3])] 5 (by decide) ckX1_isGuess h
set_option maxRecDepth 100000 in
theorem fX1_isGuess_24_2 {d : Nat} {v1 : Int} {v2 : Int} {M : jM} {Q : Int → jM → Prop} (h :
    ((3 : Int) ≤ v2 →
      ((1 : Int) = 0 ∨ (1 : Int) = 1) ∧ Q 1 M) ∧
    (v2 < (3 : Int) →
      (0 ≤ (12 : Int) ∧ (12 : Int) < 18) ∧ (0 ≤ (jwr ((jwr (v1 * 3)) + v2)) ∧ (jwr ((jwr (v1 * 3)) + v2)) < jal 12 6) ∧ ((M 12 6 (jwr ((jwr (v1 * 3)) + v2))) = (-1 : Int) →
        jWP d 125 2 [some (.inr (24, 0)), some (.inl v1), some (.inl (jwr (v2 + 1))), none] [] M Q) ∧
      (¬ (M 12 6 (jwr ((jwr (v1 * 3)) + v2))) = (-1 : Int) →
        jCall d 126 [.inr (24, 0), .inl (M 12 6 (jwr ((jwr (v1 * 3)) + v2)))] M (fun r1 M1 =>
          (¬ r1 = (-1 : Int) →
            jWP d 125 2 [some (.inr (24, 0)), some (.inl v1), some (.inl (jwr (v2 + 1))), none] [] M1 Q) ∧
          (r1 = (-1 : Int) →
            ((0 : Int) = 0 ∨ (0 : Int) = 1) ∧ Q 0 M1))))) :
    jWP d 125 2 [some (.inr (24, 0)), some (.inl v1), some (.inl v2), none] [] M Q :=
  jreg [(2, [3])] 33 (by decide) ckX1_isGuess h
set_option maxRecDepth 100000 in
theorem fX1_isGuess_25_0 {d : Nat} {v1 : Int} {M : jM} {Q : Int → jM → Prop} (h :
    jWP d 125 2 [some (.inr (25, 0)), some (.inl v1), some (.inl 0), none] [] M Q) :
    jWP d 125 0 [some (.inr (25, 0)), some (.inl v1), none, none] [] M Q :=
  jreg [(2, [3])] 5 (by decide) ckX1_isGuess h
set_option maxRecDepth 100000 in
theorem fX1_isGuess_25_2 {d : Nat} {v1 : Int} {v2 : Int} {M : jM} {Q : Int → jM → Prop} (h :
    ((3 : Int) ≤ v2 →
      ((1 : Int) = 0 ∨ (1 : Int) = 1) ∧ Q 1 M) ∧
    (v2 < (3 : Int) →
      (0 ≤ (12 : Int) ∧ (12 : Int) < 18) ∧ (0 ≤ (jwr ((jwr (v1 * 3)) + v2)) ∧ (jwr ((jwr (v1 * 3)) + v2)) < jal 12 6) ∧ ((M 12 6 (jwr ((jwr (v1 * 3)) + v2))) = (-1 : Int) →
        jWP d 125 2 [some (.inr (25, 0)), some (.inl v1), some (.inl (jwr (v2 + 1))), none] [] M Q) ∧
      (¬ (M 12 6 (jwr ((jwr (v1 * 3)) + v2))) = (-1 : Int) →
        jCall d 126 [.inr (25, 0), .inl (M 12 6 (jwr ((jwr (v1 * 3)) + v2)))] M (fun r1 M1 =>
          (¬ r1 = (-1 : Int) →
            jWP d 125 2 [some (.inr (25, 0)), some (.inl v1), some (.inl (jwr (v2 + 1))), none] [] M1 Q) ∧
          (r1 = (-1 : Int) →
            ((0 : Int) = 0 ∨ (0 : Int) = 1) ∧ Q 0 M1))))) :
    jWP d 125 2 [some (.inr (25, 0)), some (.inl v1), some (.inl v2), none] [] M Q :=
  jreg [(2, [3])] 33 (by decide) ckX1_isGuess h
set_option maxRecDepth 100000 in
theorem fX1_over_24_0 {d : Nat} {v1 : Int} {M : jM} {Q : Int → jM → Prop} (h :
    ((6 : Int) ≤ v1 →
      ((jwr (v1 - 10)) < (0 : Int) →
        Q (-1) M) ∧
      ((0 : Int) ≤ (jwr (v1 - 10)) →
        (0 ≤ (12 : Int) ∧ (12 : Int) < 18) ∧ ((jwr (v1 - 10)) < (M 12 0 1) →
          (0 ≤ (jwr (v1 - 10)) ∧ (jwr (v1 - 10)) < jal 23 7) ∧ ((M 23 7 (jwr (v1 - 10))) = (-1 : Int) →
            (0 ≤ (jwr (v1 - 10)) ∧ (jwr (v1 - 10)) < jal 24 6) ∧ (¬ (M 24 6 (jwr (v1 - 10))) = (-1 : Int) →
              (0 ≤ (jwr (v1 - 10)) ∧ (jwr (v1 - 10)) < jal 24 6) ∧ Q (jwr (30 + (M 24 6 (jwr (v1 - 10))))) M) ∧
            ((M 24 6 (jwr (v1 - 10))) = (-1 : Int) →
              Q (-1) M)) ∧
          (¬ (M 23 7 (jwr (v1 - 10))) = (-1 : Int) →
            (0 ≤ (jwr (v1 - 10)) ∧ (jwr (v1 - 10)) < jal 23 7) ∧ Q (jwr (10 + (M 23 7 (jwr (v1 - 10))))) M)) ∧
        ((M 12 0 1) ≤ (jwr (v1 - 10)) →
          Q (-1) M))) ∧
    (v1 < (6 : Int) →
      (v1 < (0 : Int) →
        Q (-1) M) ∧
      ((0 : Int) ≤ v1 →
        (0 ≤ v1 ∧ v1 < jal 23 6) ∧ ((0 : Int) ≤ (M 23 6 v1) →
          (0 ≤ v1 ∧ v1 < jal 23 6) ∧ Q (M 23 6 v1) M) ∧
        ((M 23 6 v1) < (0 : Int) →
          Q (-1) M)))) :
    jWP d 126 0 [some (.inr (24, 0)), some (.inl v1), none] [] M Q :=
  jreg [] 67 (by decide) ckX1_over h
set_option maxRecDepth 100000 in
theorem fX1_over_25_0 {d : Nat} {v1 : Int} {M : jM} {Q : Int → jM → Prop} (h :
    ((6 : Int) ≤ v1 →
      ((jwr (v1 - 10)) < (0 : Int) →
        Q (-1) M) ∧
      ((0 : Int) ≤ (jwr (v1 - 10)) →
        (0 ≤ (12 : Int) ∧ (12 : Int) < 18) ∧ ((jwr (v1 - 10)) < (M 12 0 1) →
          (0 ≤ (jwr (v1 - 10)) ∧ (jwr (v1 - 10)) < jal 20 7) ∧ ((M 20 7 (jwr (v1 - 10))) = (-1 : Int) →
            (0 ≤ (jwr (v1 - 10)) ∧ (jwr (v1 - 10)) < jal 25 6) ∧ (¬ (M 25 6 (jwr (v1 - 10))) = (-1 : Int) →
              (0 ≤ (jwr (v1 - 10)) ∧ (jwr (v1 - 10)) < jal 25 6) ∧ Q (jwr (30 + (M 25 6 (jwr (v1 - 10))))) M) ∧
            ((M 25 6 (jwr (v1 - 10))) = (-1 : Int) →
              Q (-1) M)) ∧
          (¬ (M 20 7 (jwr (v1 - 10))) = (-1 : Int) →
            (0 ≤ (jwr (v1 - 10)) ∧ (jwr (v1 - 10)) < jal 20 7) ∧ Q (jwr (10 + (M 20 7 (jwr (v1 - 10))))) M)) ∧
        ((M 12 0 1) ≤ (jwr (v1 - 10)) →
          Q (-1) M))) ∧
    (v1 < (6 : Int) →
      (v1 < (0 : Int) →
        Q (-1) M) ∧
      ((0 : Int) ≤ v1 →
        (0 ≤ v1 ∧ v1 < jal 20 6) ∧ ((0 : Int) ≤ (M 20 6 v1) →
          (0 ≤ v1 ∧ v1 < jal 20 6) ∧ Q (M 20 6 v1) M) ∧
        ((M 20 6 v1) < (0 : Int) →
          Q (-1) M)))) :
    jWP d 126 0 [some (.inr (25, 0)), some (.inl v1), none] [] M Q :=
  jreg [] 67 (by decide) ckX1_over h
set_option maxRecDepth 100000 in
theorem fX1_endOver_24_0 {d : Nat} {v1 : Int} {v2 : Int} {M : jM} {Q : Int → jM → Prop} (h :
    (0 ≤ (12 : Int) ∧ (12 : Int) < 18) ∧ (0 ≤ v1 ∧ v1 < jal 24 5) ∧ (0 ≤ (jwr ((jwr ((M 24 5 v1) * 3)) + v2)) ∧ (jwr ((jwr ((M 24 5 v1) * 3)) + v2)) < jal 12 6) ∧ jCall d 126 [.inr (24, 0), .inl (M 12 6 (jwr ((jwr ((M 24 5 v1) * 3)) + v2)))] M (fun r1 M1 =>
      Q r1 M1)) :
    jWP d 127 0 [some (.inr (24, 0)), some (.inl v1), some (.inl v2)] [] M Q :=
  jreg [] 17 (by decide) ckX1_endOver h
set_option maxRecDepth 100000 in
theorem fX1_endOver_25_0 {d : Nat} {v1 : Int} {v2 : Int} {M : jM} {Q : Int → jM → Prop} (h :
    (0 ≤ (12 : Int) ∧ (12 : Int) < 18) ∧ (0 ≤ v1 ∧ v1 < jal 25 5) ∧ (0 ≤ (jwr ((jwr ((M 25 5 v1) * 3)) + v2)) ∧ (jwr ((jwr ((M 25 5 v1) * 3)) + v2)) < jal 12 6) ∧ jCall d 126 [.inr (25, 0), .inl (M 12 6 (jwr ((jwr ((M 25 5 v1) * 3)) + v2)))] M (fun r1 M1 =>
      Q r1 M1)) :
    jWP d 127 0 [some (.inr (25, 0)), some (.inl v1), some (.inl v2)] [] M Q :=
  jreg [] 17 (by decide) ckX1_endOver h
set_option maxRecDepth 100000 in
theorem fX1_isHeld_24_0 {d : Nat} {v1 : Int} {g2 : Int} {M : jM} {Q : Int → jM → Prop} (h :
    (0 ≤ (12 : Int) ∧ (12 : Int) < 18) ∧ (0 ≤ v1 ∧ v1 < jal 24 5) ∧ (0 ≤ (M 24 5 v1) ∧ (M 24 5 v1) < jal 12 5) ∧ jCall d 130 [.inr (24, 0), .inl v1, .inl (M 12 5 (M 24 5 v1)), .inr (g2, 0), .inr (19, 0)] M (fun r1 M1 =>
      (r1 = 0 ∨ r1 = 1) ∧ Q r1 M1)) :
    jWP d 128 0 [some (.inr (24, 0)), some (.inl v1), some (.inr (g2, 0)), some (.inr (19, 0))] [] M Q :=
  jreg [] 16 (by decide) ckX1_isHeld h
set_option maxRecDepth 100000 in
theorem fX1_isHeld_25_0 {d : Nat} {v1 : Int} {g2 : Int} {M : jM} {Q : Int → jM → Prop} (h :
    (0 ≤ (12 : Int) ∧ (12 : Int) < 18) ∧ (0 ≤ v1 ∧ v1 < jal 25 5) ∧ (0 ≤ (M 25 5 v1) ∧ (M 25 5 v1) < jal 12 5) ∧ jCall d 130 [.inr (25, 0), .inl v1, .inl (M 12 5 (M 25 5 v1)), .inr (g2, 0), .inr (19, 0)] M (fun r1 M1 =>
      (r1 = 0 ∨ r1 = 1) ∧ Q r1 M1)) :
    jWP d 128 0 [some (.inr (25, 0)), some (.inl v1), some (.inr (g2, 0)), some (.inr (19, 0))] [] M Q :=
  jreg [] 16 (by decide) ckX1_isHeld h
set_option maxRecDepth 100000 in
theorem fX1_isAgainst_24_0 {d : Nat} {v1 : Int} {g2 : Int} {M : jM} {Q : Int → jM → Prop} (h :
    (0 ≤ (12 : Int) ∧ (12 : Int) < 18) ∧ (0 ≤ v1 ∧ v1 < jal 24 5) ∧ (0 ≤ (M 24 5 v1) ∧ (M 24 5 v1) < jal 12 5) ∧ (0 ≤ (M 12 5 (M 24 5 v1)) ∧ (M 12 5 (M 24 5 v1)) < jal 19 4) ∧ ((M 19 4 (M 12 5 (M 24 5 v1))) = (-1 : Int) →
      ((0 : Int) = 0 ∨ (0 : Int) = 1) ∧ Q 0 M) ∧
    (¬ (M 19 4 (M 12 5 (M 24 5 v1))) = (-1 : Int) →
      jCall d 130 [.inr (24, 0), .inl v1, .inl (M 19 4 (M 12 5 (M 24 5 v1))), .inr (g2, 0), .inr (19, 0)] M (fun r1 M1 =>
        (r1 = (0 : Int) →
          ((0 : Int) = 0 ∨ (0 : Int) = 1) ∧ Q 0 M1) ∧
        (¬ r1 = (0 : Int) →
          ((1 : Int) = 0 ∨ (1 : Int) = 1) ∧ Q 1 M1)))) :
    jWP d 129 0 [some (.inr (24, 0)), some (.inl v1), some (.inr (g2, 0)), some (.inr (19, 0)), none] [] M Q :=
  jreg [] 31 (by decide) ckX1_isAgainst h
set_option maxRecDepth 100000 in
theorem fX1_isAgainst_25_0 {d : Nat} {v1 : Int} {g2 : Int} {M : jM} {Q : Int → jM → Prop} (h :
    (0 ≤ (12 : Int) ∧ (12 : Int) < 18) ∧ (0 ≤ v1 ∧ v1 < jal 25 5) ∧ (0 ≤ (M 25 5 v1) ∧ (M 25 5 v1) < jal 12 5) ∧ (0 ≤ (M 12 5 (M 25 5 v1)) ∧ (M 12 5 (M 25 5 v1)) < jal 19 4) ∧ ((M 19 4 (M 12 5 (M 25 5 v1))) = (-1 : Int) →
      ((0 : Int) = 0 ∨ (0 : Int) = 1) ∧ Q 0 M) ∧
    (¬ (M 19 4 (M 12 5 (M 25 5 v1))) = (-1 : Int) →
      jCall d 130 [.inr (25, 0), .inl v1, .inl (M 19 4 (M 12 5 (M 25 5 v1))), .inr (g2, 0), .inr (19, 0)] M (fun r1 M1 =>
        (r1 = (0 : Int) →
          ((0 : Int) = 0 ∨ (0 : Int) = 1) ∧ Q 0 M1) ∧
        (¬ r1 = (0 : Int) →
          ((1 : Int) = 0 ∨ (1 : Int) = 1) ∧ Q 1 M1)))) :
    jWP d 129 0 [some (.inr (25, 0)), some (.inl v1), some (.inr (g2, 0)), some (.inr (19, 0)), none] [] M Q :=
  jreg [] 31 (by decide) ckX1_isAgainst h
set_option maxRecDepth 100000 in
theorem fX1_isTold_24_0 {d : Nat} {v1 : Int} {v2 : Int} {g3 : Int} {M : jM} {Q : Int → jM → Prop} (h :
    jCall d 127 [.inr (24, 0), .inl v1, .inl 0] M (fun r1 M1 =>
      jCall d 127 [.inr (24, 0), .inl v1, .inl 1] M1 (fun r2 M2 =>
        jCall d 127 [.inr (24, 0), .inl v1, .inl 2] M2 (fun r3 M3 =>
          (0 ≤ g3 ∧ g3 < 18) ∧ jCall d 144 [.inr (g3, 0), .inr (19, 0), .inl v2, .inl r1, .inl r2, .inl r3] M3 (fun r4 M4 =>
            (r4 = (-1 : Int) →
              ((0 : Int) = 0 ∨ (0 : Int) = 1) ∧ Q 0 M4) ∧
            (¬ r4 = (-1 : Int) →
              ((1 : Int) = 0 ∨ (1 : Int) = 1) ∧ Q 1 M4)))))) :
    jWP d 130 0 [some (.inr (24, 0)), some (.inl v1), some (.inl v2), some (.inr (g3, 0)), some (.inr (19, 0))] [] M Q :=
  jreg [] 25 (by decide) ckX1_isTold h
set_option maxRecDepth 100000 in
theorem fX1_isTold_25_0 {d : Nat} {v1 : Int} {v2 : Int} {g3 : Int} {M : jM} {Q : Int → jM → Prop} (h :
    jCall d 127 [.inr (25, 0), .inl v1, .inl 0] M (fun r1 M1 =>
      jCall d 127 [.inr (25, 0), .inl v1, .inl 1] M1 (fun r2 M2 =>
        jCall d 127 [.inr (25, 0), .inl v1, .inl 2] M2 (fun r3 M3 =>
          (0 ≤ g3 ∧ g3 < 18) ∧ jCall d 144 [.inr (g3, 0), .inr (19, 0), .inl v2, .inl r1, .inl r2, .inl r3] M3 (fun r4 M4 =>
            (r4 = (-1 : Int) →
              ((0 : Int) = 0 ∨ (0 : Int) = 1) ∧ Q 0 M4) ∧
            (¬ r4 = (-1 : Int) →
              ((1 : Int) = 0 ∨ (1 : Int) = 1) ∧ Q 1 M4)))))) :
    jWP d 130 0 [some (.inr (25, 0)), some (.inl v1), some (.inl v2), some (.inr (g3, 0)), some (.inr (19, 0))] [] M Q :=
  jreg [] 25 (by decide) ckX1_isTold h
set_option maxRecDepth 100000 in
theorem fX2_take_0 {d : Nat} {g1 : Int} {g2 : Int} {v3 : Int} {v4 : Int} {M : jM} {Q : Int → jM → Prop} (h :
    ((1 : Int) = 0 ∨ (1 : Int) = 1) ∧ (v4 = 0 ∨ v4 = 1) ∧ (0 ≤ (12 : Int) ∧ (12 : Int) < 18) ∧ jCall d 141 [.inr (12, 0), .inr (g1, 0)] (jup (jup (jup M 23 0 0 1) 23 0 1 v3) 23 0 2 v4) (fun _ M1 =>
      (0 ≤ (13 : Int) ∧ (13 : Int) < 18) ∧ jCall d 141 [.inr (13, 0), .inr (g2, 0)] M1 (fun _ M2 =>
        Q 0 M2))) :
    jWP d 131 0 [some (.inr (23, 0)), some (.inr (g1, 0)), some (.inr (g2, 0)), some (.inl v3), some (.inl v4)] [] M Q :=
  jreg [] 20 (by decide) ckX2_take h
set_option maxRecDepth 100000 in
theorem fX2_takePairing_0 {d : Nat}  {M : jM} {Q : Int → jM → Prop} (h :
    0 < jal 20 6 ∧ ((jal 20 6) < (6 : Int) →
      Q 0 M) ∧
    ((6 : Int) ≤ (jal 20 6) →
      0 < jal 20 7 ∧ ((14 : Int) ≤ (jal 20 7) →
        (0 ≤ (0 : Int) ∧ 0 ≤ (0 : Int) ∧ 0 < (6 : Int) ∧ 0 + 6 ≤ jal 20 6 ∧ 0 + 6 ≤ jal 23 6) ∧ (0 ≤ (0 : Int) ∧ 0 ≤ (0 : Int) ∧ 0 < (14 : Int) ∧ 0 + 14 ≤ jal 20 7 ∧ 0 + 14 ≤ jal 23 7) ∧ jCall d 124 [.inr (24, 0)] (jcp (jcp M 20 6 0 23 6 0 6) 20 7 0 23 7 0 14) (fun _ M1 =>
          Q 0 M1)) ∧
      ((jal 20 7) < (14 : Int) →
        Q 0 M))) :
    jWP d 132 0 [some (.inr (23, 0)), some (.inr (20, 6)), some (.inr (20, 7))] [] M Q :=
  jreg [] 30 (by decide) ckX2_takePairing h
set_option maxRecDepth 100000 in
theorem fX2_pairedThings_0 {d : Nat}  {M : jM} {Q : Int → jM → Prop} (h :
    jWP d 133 4 [some (.inr (23, 0)), some (.inl 0), some (.inl 0)] [] M Q) :
    jWP d 133 0 [some (.inr (23, 0)), none, none] [] M Q :=
  jreg [(4, [])] 7 (by decide) ckX2_pairedThings h
set_option maxRecDepth 100000 in
theorem fX2_pairedThings_4 {d : Nat} {v1 : Int} {v2 : Int} {M : jM} {Q : Int → jM → Prop} (h :
    (0 ≤ (12 : Int) ∧ (12 : Int) < 18) ∧ ((M 12 0 0) ≤ v2 →
      Q v1 M) ∧
    (v2 < (M 12 0 0) →
      (0 ≤ v2 ∧ v2 < jal 23 6) ∧ ((M 23 6 v2) < (0 : Int) →
        jWP d 133 4 [some (.inr (23, 0)), some (.inl (jior v1 0)), some (.inl (jwr (v2 + 1)))] [] M Q) ∧
      ((0 : Int) ≤ (M 23 6 v2) →
        jWP d 133 4 [some (.inr (23, 0)), some (.inl (jior v1 (jishl 1 v2))), some (.inl (jwr (v2 + 1)))] [] M Q))) :
    jWP d 133 4 [some (.inr (23, 0)), some (.inl v1), some (.inl v2)] [] M Q :=
  jreg [(4, [])] 30 (by decide) ckX2_pairedThings h
set_option maxRecDepth 100000 in
theorem fX3_isLinked_0 {d : Nat} {v1 : Int} {M : jM} {Q : Int → jM → Prop} (h :
    (0 ≤ v1 ∧ v1 < jal 19 3) ∧ (¬ (M 19 3 v1) = (-1 : Int) →
      ((1 : Int) = 0 ∨ (1 : Int) = 1) ∧ Q 1 M) ∧
    ((M 19 3 v1) = (-1 : Int) →
      (0 ≤ v1 ∧ v1 < jal 19 4) ∧ ((M 19 4 v1) = (-1 : Int) →
        jWP d 134 24 [some (.inr (19, 0)), some (.inl v1), some (.inl 0)] [] M Q) ∧
      (¬ (M 19 4 v1) = (-1 : Int) →
        ((1 : Int) = 0 ∨ (1 : Int) = 1) ∧ Q 1 M))) :
    jWP d 134 0 [some (.inr (19, 0)), some (.inl v1), none] [] M Q :=
  jreg [(24, [])] 21 (by decide) ckX3_isLinked h
set_option maxRecDepth 100000 in
theorem fX3_isLinked_24 {d : Nat} {v1 : Int} {v2 : Int} {M : jM} {Q : Int → jM → Prop} (h :
    ((16 : Int) ≤ v2 →
      ((0 : Int) = 0 ∨ (0 : Int) = 1) ∧ Q 0 M) ∧
    (v2 < (16 : Int) →
      (0 ≤ v2 ∧ v2 < jal 19 3) ∧ (¬ (M 19 3 v2) = v1 →
        jWP d 134 24 [some (.inr (19, 0)), some (.inl v1), some (.inl (jwr (v2 + 1)))] [] M Q) ∧
      ((M 19 3 v2) = v1 →
        ((1 : Int) = 0 ∨ (1 : Int) = 1) ∧ Q 1 M))) :
    jWP d 134 24 [some (.inr (19, 0)), some (.inl v1), some (.inl v2)] [] M Q :=
  jreg [(24, [])] 18 (by decide) ckX3_isLinked h
set_option maxRecDepth 100000 in
theorem fX3_mayStandOver_0 {d : Nat} {v1 : Int} {v2 : Int} {M : jM} {Q : Int → jM → Prop} (h :
    (0 ≤ v1 ∧ v1 < jal 19 1) ∧ (0 ≤ v2 ∧ v2 < jal 19 1) ∧ ((M 19 1 v1) = (M 19 1 v2) →
      jWP d 135 22 [some (.inr (19, 0)), none, some (.inl v2), some (.inl v1), some (.inl 0)] [] M Q) ∧
    (¬ (M 19 1 v1) = (M 19 1 v2) →
      ((0 : Int) = 0 ∨ (0 : Int) = 1) ∧ Q 0 M)) :
    jWP d 135 0 [some (.inr (19, 0)), some (.inl v1), some (.inl v2), none, none] [] M Q :=
  jreg [(22, [1])] 18 (by decide) ckX3_mayStandOver h
set_option maxRecDepth 100000 in
theorem fX3_mayStandOver_22 {d : Nat} {v2 : Int} {v3 : Int} {v4 : Int} {M : jM} {Q : Int → jM → Prop} (h :
    ((16 : Int) < v4 →
      ((1 : Int) = 0 ∨ (1 : Int) = 1) ∧ Q 1 M) ∧
    (v4 ≤ (16 : Int) →
      (v3 = (-1 : Int) →
        ((1 : Int) = 0 ∨ (1 : Int) = 1) ∧ Q 1 M) ∧
      (¬ v3 = (-1 : Int) →
        (¬ v3 = v2 →
          (0 ≤ v3 ∧ v3 < jal 19 3) ∧ jWP d 135 22 [some (.inr (19, 0)), none, some (.inl v2), some (.inl (M 19 3 v3)), some (.inl (jwr (v4 + 1)))] [] M Q) ∧
        (v3 = v2 →
          ((0 : Int) = 0 ∨ (0 : Int) = 1) ∧ Q 0 M)))) :
    jWP d 135 22 [some (.inr (19, 0)), none, some (.inl v2), some (.inl v3), some (.inl v4)] [] M Q :=
  jreg [(22, [1])] 25 (by decide) ckX3_mayStandOver h
set_option maxRecDepth 100000 in
theorem fX3_oppose_0 {d : Nat} {v1 : Int} {v2 : Int} {M : jM} {Q : Int → jM → Prop} (h :
    jCall d 137 [.inr (19, 0), .inl v1] M (fun _ M1 =>
      jCall d 137 [.inr (19, 0), .inl v2] M1 (fun _ M2 =>
        (v1 = v2 →
          Q 0 M2) ∧
        (¬ v1 = v2 →
          (0 ≤ v1 ∧ v1 < jal 19 4) ∧ (0 ≤ v2 ∧ v2 < jal 19 4) ∧ Q 0 (jup (jup M2 19 4 v1 v2) 19 4 v2 v1))))) :
    jWP d 136 0 [some (.inr (19, 0)), some (.inl v1), some (.inl v2)] [] M Q :=
  jreg [] 23 (by decide) ckX3_oppose h
set_option maxRecDepth 100000 in
theorem fX3_loosen_0 {d : Nat} {v1 : Int} {M : jM} {Q : Int → jM → Prop} (h :
    (0 ≤ v1 ∧ v1 < jal 19 4) ∧ ((M 19 4 v1) = (-1 : Int) →
      Q 0 M) ∧
    (¬ (M 19 4 v1) = (-1 : Int) →
      (0 ≤ (M 19 4 v1) ∧ (M 19 4 v1) < jal 19 4) ∧ (0 ≤ v1 ∧ v1 < jal 19 4) ∧ Q 0 (jup (jup M 19 4 (M 19 4 v1) (-1)) 19 4 v1 (-1)))) :
    jWP d 137 0 [some (.inr (19, 0)), some (.inl v1), none] [] M Q :=
  jreg [] 22 (by decide) ckX3_loosen h
set_option maxRecDepth 100000 in
theorem fX3_above_0 {d : Nat} {v1 : Int} {v2 : Int} {M : jM} {Q : Int → jM → Prop} (h :
    jWP d 138 5 [some (.inr (19, 0)), none, some (.inl v2), some (.inl v1), some (.inl 0)] [] M Q) :
    jWP d 138 0 [some (.inr (19, 0)), some (.inl v1), some (.inl v2), none, none] [] M Q :=
  jreg [(5, [1])] 7 (by decide) ckX3_above h
set_option maxRecDepth 100000 in
theorem fX3_above_5 {d : Nat} {v2 : Int} {v3 : Int} {v4 : Int} {M : jM} {Q : Int → jM → Prop} (h :
    (v2 ≤ v4 →
      Q v3 M) ∧
    (v4 < v2 →
      (0 ≤ v3 ∧ v3 < jal 19 3) ∧ ((M 19 3 v3) = (-1 : Int) →
        Q v3 M) ∧
      (¬ (M 19 3 v3) = (-1 : Int) →
        (0 ≤ v3 ∧ v3 < jal 19 3) ∧ jWP d 138 5 [some (.inr (19, 0)), none, some (.inl v2), some (.inl (M 19 3 v3)), some (.inl (jwr (v4 + 1)))] [] M Q))) :
    jWP d 138 5 [some (.inr (19, 0)), none, some (.inl v2), some (.inl v3), some (.inl v4)] [] M Q :=
  jreg [(5, [1])] 23 (by decide) ckX3_above h
set_option maxRecDepth 100000 in
theorem fX3_meetingLevel_0 {d : Nat} {v1 : Int} {v2 : Int} {M : jM} {Q : Int → jM → Prop} (h :
    jWP d 139 2 [some (.inr (19, 0)), some (.inl v1), some (.inl v2), some (.inl 0)] [] M Q) :
    jWP d 139 0 [some (.inr (19, 0)), some (.inl v1), some (.inl v2), none] [] M Q :=
  jreg [(2, [])] 5 (by decide) ckX3_meetingLevel h
set_option maxRecDepth 100000 in
theorem fX3_meetingLevel_2 {d : Nat} {v1 : Int} {v2 : Int} {v3 : Int} {M : jM} {Q : Int → jM → Prop} (h :
    ((2 : Int) < v3 →
      Q (-1) M) ∧
    (v3 ≤ (2 : Int) →
      jCall d 138 [.inr (19, 0), .inl v1, .inl v3] M (fun r1 M1 =>
        jCall d 138 [.inr (19, 0), .inl v2, .inl v3] M1 (fun r2 M2 =>
          (¬ r1 = r2 →
            jWP d 139 2 [some (.inr (19, 0)), some (.inl v1), some (.inl v2), some (.inl (jwr (v3 + 1)))] [] M2 Q) ∧
          (r1 = r2 →
            Q v3 M2))))) :
    jWP d 139 2 [some (.inr (19, 0)), some (.inl v1), some (.inl v2), some (.inl v3)] [] M Q :=
  jreg [(2, [])] 21 (by decide) ckX3_meetingLevel h
set_option maxRecDepth 100000 in
theorem fX4_empty_0 {d : Nat} {g0 : Int} {v1 : Int} {M : jM} {Q : Int → jM → Prop} (h :
    (0 ≤ g0 ∧ g0 < 18) ∧ (0 ≤ g0 ∧ g0 < 18) ∧ (0 ≤ g0 ∧ g0 < 18) ∧ jWP d 140 17 [some (.inr (g0, 0)), none, some (.inl 0)] [] (jup (jup (jup M g0 0 0 v1) g0 0 1 0) g0 0 2 0) Q) :
    jWP d 140 0 [some (.inr (g0, 0)), some (.inl v1), none] [] M Q :=
  jreg [(17, [1])] 14 (by decide) ckX4_empty h
set_option maxRecDepth 100000 in
theorem fX4_empty_17 {d : Nat} {g0 : Int} {v2 : Int} {M : jM} {Q : Int → jM → Prop} (h :
    ((6 : Int) ≤ v2 →
      Q 0 M) ∧
    (v2 < (6 : Int) →
      (0 ≤ g0 ∧ g0 < 18) ∧ (0 ≤ v2 ∧ v2 < jal g0 4) ∧ jWP d 140 17 [some (.inr (g0, 0)), none, some (.inl (jwr (v2 + 1)))] [] (jup M g0 4 v2 0) Q)) :
    jWP d 140 17 [some (.inr (g0, 0)), none, some (.inl v2)] [] M Q :=
  jreg [(17, [1])] 14 (by decide) ckX4_empty h
set_option maxRecDepth 100000 in
theorem fX4_become_0 {d : Nat} {g0 : Int} {g1 : Int} {M : jM} {Q : Int → jM → Prop} (h :
    (0 ≤ g1 ∧ g1 < 18) ∧ (0 ≤ g0 ∧ g0 < 18) ∧ (0 ≤ g1 ∧ g1 < 18) ∧ (0 ≤ g0 ∧ g0 < 18) ∧ (0 ≤ g1 ∧ g1 < 18) ∧ (0 ≤ g0 ∧ g0 < 18) ∧ (0 ≤ g1 ∧ g1 < 18) ∧ (0 ≤ g0 ∧ g0 < 18) ∧ (0 ≤ (0 : Int) ∧ 0 ≤ (0 : Int) ∧ 0 < (6 : Int) ∧ 0 + 6 ≤ jal g1 4 ∧ 0 + 6 ≤ jal g0 4) ∧ (0 ≤ g1 ∧ g1 < 18) ∧ (0 ≤ g0 ∧ g0 < 18) ∧ (0 ≤ (0 : Int) ∧ 0 ≤ (0 : Int) ∧ 0 < (14 : Int) ∧ 0 + 14 ≤ jal g1 5 ∧ 0 + 14 ≤ jal g0 5) ∧ (0 ≤ g1 ∧ g1 < 18) ∧ (0 ≤ g0 ∧ g0 < 18) ∧ (0 ≤ (0 : Int) ∧ 0 ≤ (0 : Int) ∧ 0 < (42 : Int) ∧ 0 + 42 ≤ jal g1 6 ∧ 0 + 42 ≤ jal g0 6) ∧ (0 ≤ g1 ∧ g1 < 18) ∧ (0 ≤ g0 ∧ g0 < 18) ∧ (0 ≤ (0 : Int) ∧ 0 ≤ (0 : Int) ∧ 0 < (14 : Int) ∧ 0 + 14 ≤ jal g1 7 ∧ 0 + 14 ≤ jal g0 7) ∧ (0 ≤ g1 ∧ g1 < 18) ∧ (0 ≤ g0 ∧ g0 < 18) ∧ (0 ≤ (0 : Int) ∧ 0 ≤ (0 : Int) ∧ 0 < (14 : Int) ∧ 0 + 14 ≤ jal g1 8 ∧ 0 + 14 ≤ jal g0 8) ∧ Q 0 (jcp (jcp (jcp (jcp (jcp (jup (jup (jup M g0 0 0 (M g1 0 0)) g0 0 1 ((jup M g0 0 0 (M g1 0 0)) g1 0 1)) g0 0 2 ((jup (jup M g0 0 0 (M g1 0 0)) g0 0 1 ((jup M g0 0 0 (M g1 0 0)) g1 0 1)) g1 0 2)) g1 4 0 g0 4 0 6) g1 5 0 g0 5 0 14) g1 6 0 g0 6 0 42) g1 7 0 g0 7 0 14) g1 8 0 g0 8 0 14)) :
    jWP d 141 0 [some (.inr (g0, 0)), some (.inr (g1, 0))] [] M Q :=
  jreg [] 55 (by decide) ckX4_become h
set_option maxRecDepth 100000 in
theorem fX4_hasEnds_0 {d : Nat} {g0 : Int} {v1 : Int} {v2 : Int} {v3 : Int} {v4 : Int} {M : jM} {Q : Int → jM → Prop} (h :
    (0 ≤ g0 ∧ g0 < 18) ∧ jCall d 143 [.inr (g0, 0), .inl v2] M (fun r1 M1 =>
      (r1 = (0 : Int) →
        ((0 : Int) = 0 ∨ (0 : Int) = 1) ∧ Q 0 M1) ∧
      (¬ r1 = (0 : Int) →
        (v1 < (2 : Int) →
          (¬ v3 = (-1 : Int) →
            ((0 : Int) = 0 ∨ (0 : Int) = 1) ∧ Q 0 M1) ∧
          (v3 = (-1 : Int) →
            jWP d 142 29 [some (.inr (g0, 0)), some (.inl v1), none, none, some (.inl v4)] [] M1 Q)) ∧
        ((2 : Int) ≤ v1 →
          (0 ≤ g0 ∧ g0 < 18) ∧ jCall d 143 [.inr (g0, 0), .inl v3] M1 (fun r2 M2 =>
            (r2 = (0 : Int) →
              ((0 : Int) = 0 ∨ (0 : Int) = 1) ∧ Q 0 M2) ∧
            (¬ r2 = (0 : Int) →
              jWP d 142 29 [some (.inr (g0, 0)), some (.inl v1), none, none, some (.inl v4)] [] M2 Q)))))) :
    jWP d 142 0 [some (.inr (g0, 0)), some (.inl v1), some (.inl v2), some (.inl v3), some (.inl v4)] [] M Q :=
  jreg [(29, [2, 3])] 25 (by decide) ckX4_hasEnds h
set_option maxRecDepth 100000 in
theorem fX4_hasEnds_29 {d : Nat} {g0 : Int} {v1 : Int} {v4 : Int} {M : jM} {Q : Int → jM → Prop} (h :
    (v1 < (3 : Int) →
      (¬ v4 = (-1 : Int) →
        ((0 : Int) = 0 ∨ (0 : Int) = 1) ∧ Q 0 M) ∧
      (v4 = (-1 : Int) →
        ((1 : Int) = 0 ∨ (1 : Int) = 1) ∧ Q 1 M)) ∧
    ((3 : Int) ≤ v1 →
      (0 ≤ g0 ∧ g0 < 18) ∧ jCall d 143 [.inr (g0, 0), .inl v4] M (fun r1 M1 =>
        (r1 = (0 : Int) →
          ((0 : Int) = 0 ∨ (0 : Int) = 1) ∧ Q 0 M1) ∧
        (¬ r1 = (0 : Int) →
          ((1 : Int) = 0 ∨ (1 : Int) = 1) ∧ Q 1 M1)))) :
    jWP d 142 29 [some (.inr (g0, 0)), some (.inl v1), none, none, some (.inl v4)] [] M Q :=
  jreg [(29, [2, 3])] 23 (by decide) ckX4_hasEnds h
set_option maxRecDepth 100000 in
theorem fX4_isEnd_0 {d : Nat} {g0 : Int} {v1 : Int} {M : jM} {Q : Int → jM → Prop} (h :
    (v1 < (0 : Int) →
      jWP d 143 12 [some (.inr (g0, 0)), some (.inl v1)] [] M Q) ∧
    ((0 : Int) ≤ v1 →
      (0 ≤ g0 ∧ g0 < 18) ∧ (v1 < (M g0 0 0) →
        ((1 : Int) = 0 ∨ (1 : Int) = 1) ∧ Q 1 M) ∧
      ((M g0 0 0) ≤ v1 →
        jWP d 143 12 [some (.inr (g0, 0)), some (.inl v1)] [] M Q))) :
    jWP d 143 0 [some (.inr (g0, 0)), some (.inl v1)] [] M Q :=
  jreg [(12, [])] 13 (by decide) ckX4_isEnd h
set_option maxRecDepth 100000 in
theorem fX4_isEnd_12 {d : Nat} {g0 : Int} {v1 : Int} {M : jM} {Q : Int → jM → Prop} (h :
    (v1 < (10 : Int) →
      ((0 : Int) = 0 ∨ (0 : Int) = 1) ∧ Q 0 M) ∧
    ((10 : Int) ≤ v1 →
      (0 ≤ g0 ∧ g0 < 18) ∧ ((jwr (10 + (M g0 0 1))) ≤ v1 →
        ((0 : Int) = 0 ∨ (0 : Int) = 1) ∧ Q 0 M) ∧
      (v1 < (jwr (10 + (M g0 0 1))) →
        ((1 : Int) = 0 ∨ (1 : Int) = 1) ∧ Q 1 M))) :
    jWP d 143 12 [some (.inr (g0, 0)), some (.inl v1)] [] M Q :=
  jreg [(12, [])] 18 (by decide) ckX4_isEnd h
set_option maxRecDepth 100000 in
theorem fX4_find_0 {d : Nat} {g0 : Int} {v2 : Int} {v3 : Int} {v4 : Int} {v5 : Int} {M : jM} {Q : Int → jM → Prop} (h :
    jWP d 144 3 [some (.inr (g0, 0)), some (.inr (19, 0)), some (.inl v2), some (.inl v3), some (.inl v4), some (.inl v5), some (.inl 0), none, none, none] [] M Q) :
    jWP d 144 0 [some (.inr (g0, 0)), some (.inr (19, 0)), some (.inl v2), some (.inl v3), some (.inl v4), some (.inl v5), none, none, none, none] [] M Q :=
  jreg [(3, [7, 8, 9]), (81, [9])] 5 (by decide) ckX4_find h
set_option maxRecDepth 100000 in
theorem fX4_find_3 {d : Nat} {g0 : Int} {v2 : Int} {v3 : Int} {v4 : Int} {v5 : Int} {v6 : Int} {M : jM} {Q : Int → jM → Prop} (h :
    (0 ≤ g0 ∧ g0 < 18) ∧ ((M g0 0 1) ≤ v6 →
      Q (-1) M) ∧
    (v6 < (M g0 0 1) →
      (0 ≤ g0 ∧ g0 < 18) ∧ (0 ≤ v6 ∧ v6 < jal g0 5) ∧ (¬ (M g0 5 v6) = v2 →
        jWP d 144 3 [some (.inr (g0, 0)), some (.inr (19, 0)), some (.inl v2), some (.inl v3), some (.inl v4), some (.inl v5), some (.inl (jwr (v6 + 1))), none, none, none] [] M Q) ∧
      ((M g0 5 v6) = v2 →
        (0 ≤ g0 ∧ g0 < 18) ∧ (0 ≤ (jwr (v6 * 3)) ∧ (jwr (v6 * 3)) < jal g0 6) ∧ (0 ≤ g0 ∧ g0 < 18) ∧ (0 ≤ (jwr ((jwr (v6 * 3)) + 1)) ∧ (jwr ((jwr (v6 * 3)) + 1)) < jal g0 6) ∧ (¬ (M g0 6 (jwr (v6 * 3))) = v3 →
          jWP d 144 81 [some (.inr (g0, 0)), some (.inr (19, 0)), some (.inl v2), some (.inl v3), some (.inl v4), some (.inl v5), some (.inl v6), some (.inl (M g0 6 (jwr (v6 * 3)))), some (.inl (M g0 6 (jwr ((jwr (v6 * 3)) + 1)))), none] [.inl 0] M Q) ∧
        ((M g0 6 (jwr (v6 * 3))) = v3 →
          (¬ (M g0 6 (jwr ((jwr (v6 * 3)) + 1))) = v4 →
            jWP d 144 81 [some (.inr (g0, 0)), some (.inr (19, 0)), some (.inl v2), some (.inl v3), some (.inl v4), some (.inl v5), some (.inl v6), some (.inl (M g0 6 (jwr (v6 * 3)))), some (.inl (M g0 6 (jwr ((jwr (v6 * 3)) + 1)))), none] [.inl 0] M Q) ∧
          ((M g0 6 (jwr ((jwr (v6 * 3)) + 1))) = v4 →
            (0 ≤ g0 ∧ g0 < 18) ∧ (0 ≤ (jwr ((jwr (v6 * 3)) + 2)) ∧ (jwr ((jwr (v6 * 3)) + 2)) < jal g0 6) ∧ (¬ (M g0 6 (jwr ((jwr (v6 * 3)) + 2))) = v5 →
              jWP d 144 81 [some (.inr (g0, 0)), some (.inr (19, 0)), some (.inl v2), some (.inl v3), some (.inl v4), some (.inl v5), some (.inl v6), some (.inl (M g0 6 (jwr (v6 * 3)))), some (.inl (M g0 6 (jwr ((jwr (v6 * 3)) + 1)))), none] [.inl 0] M Q) ∧
            ((M g0 6 (jwr ((jwr (v6 * 3)) + 2))) = v5 →
              jWP d 144 81 [some (.inr (g0, 0)), some (.inr (19, 0)), some (.inl v2), some (.inl v3), some (.inl v4), some (.inl v5), some (.inl v6), some (.inl (M g0 6 (jwr (v6 * 3)))), some (.inl (M g0 6 (jwr ((jwr (v6 * 3)) + 1)))), none] [.inl 1] M Q)))))) :
    jWP d 144 3 [some (.inr (g0, 0)), some (.inr (19, 0)), some (.inl v2), some (.inl v3), some (.inl v4), some (.inl v5), some (.inl v6), none, none, none] [] M Q :=
  jreg [(3, [7, 8, 9]), (81, [9])] 58 (by decide) ckX4_find h
set_option maxRecDepth 100000 in
theorem fX4_find_81 {d : Nat} {g0 : Int} {v2 : Int} {v3 : Int} {v4 : Int} {v5 : Int} {v6 : Int} {v7 : Int} {v8 : Int} {s0 : Int} {M : jM} {Q : Int → jM → Prop} (h :
    (¬ s0 = (0 : Int) →
      Q v6 M) ∧
    (s0 = (0 : Int) →
      (0 ≤ v2 ∧ v2 < jbl 19 2) ∧ ((M 19 2 v2) = (0 : Int) →
        jWP d 144 3 [some (.inr (g0, 0)), some (.inr (19, 0)), some (.inl v2), some (.inl v3), some (.inl v4), some (.inl v5), some (.inl (jwr (v6 + 1))), none, none, none] [] M Q) ∧
      (¬ (M 19 2 v2) = (0 : Int) →
        (¬ v7 = v4 →
          jWP d 144 3 [some (.inr (g0, 0)), some (.inr (19, 0)), some (.inl v2), some (.inl v3), some (.inl v4), some (.inl v5), some (.inl (jwr (v6 + 1))), none, none, none] [] M Q) ∧
        (v7 = v4 →
          (¬ v8 = v3 →
            jWP d 144 3 [some (.inr (g0, 0)), some (.inr (19, 0)), some (.inl v2), some (.inl v3), some (.inl v4), some (.inl v5), some (.inl (jwr (v6 + 1))), none, none, none] [] M Q) ∧
          (v8 = v3 →
            Q v6 M))))) :
    jWP d 144 81 [some (.inr (g0, 0)), some (.inr (19, 0)), some (.inl v2), some (.inl v3), some (.inl v4), some (.inl v5), some (.inl v6), some (.inl v7), some (.inl v8), none] [.inl s0] M Q :=
  jreg [(3, [7, 8, 9]), (81, [9])] 29 (by decide) ckX4_find h
set_option maxRecDepth 100000 in
theorem fX4_put_0 {d : Nat} {g0 : Int} {v1 : Int} {v2 : Int} {v3 : Int} {v4 : Int} {v5 : Int} {M : jM} {Q : Int → jM → Prop} (h :
    (0 ≤ g0 ∧ g0 < 18) ∧ ((M g0 0 1) < (14 : Int) →
      (0 ≤ g0 ∧ g0 < 18) ∧ (0 ≤ g0 ∧ g0 < 18) ∧ (0 ≤ (M g0 0 1) ∧ (M g0 0 1) < jal g0 5) ∧ (0 ≤ g0 ∧ g0 < 18) ∧ (0 ≤ (jwr ((M g0 0 1) * 3)) ∧ (jwr ((M g0 0 1) * 3)) < jal g0 6) ∧ (0 ≤ g0 ∧ g0 < 18) ∧ (0 ≤ (jwr ((jwr ((M g0 0 1) * 3)) + 1)) ∧ (jwr ((jwr ((M g0 0 1) * 3)) + 1)) < jal g0 6) ∧ (0 ≤ g0 ∧ g0 < 18) ∧ (0 ≤ (jwr ((jwr ((M g0 0 1) * 3)) + 2)) ∧ (jwr ((jwr ((M g0 0 1) * 3)) + 2)) < jal g0 6) ∧ (0 ≤ g0 ∧ g0 < 18) ∧ (0 ≤ (M g0 0 1) ∧ (M g0 0 1) < jal g0 7) ∧ (0 ≤ g0 ∧ g0 < 18) ∧ (0 ≤ g0 ∧ g0 < 18) ∧ jCall d 146 [.inr (g0, 0), .inl v2] (jup (jup (jup (jup (jup M g0 5 (M g0 0 1) v1) g0 6 (jwr ((M g0 0 1) * 3)) v2) g0 6 (jwr ((jwr ((M g0 0 1) * 3)) + 1)) v3) g0 6 (jwr ((jwr ((M g0 0 1) * 3)) + 2)) v4) g0 7 (M g0 0 1) v5) (fun r1 M1 =>
        (0 ≤ g0 ∧ g0 < 18) ∧ jCall d 146 [.inr (g0, 0), .inl v3] M1 (fun r2 M2 =>
          (0 ≤ g0 ∧ g0 < 18) ∧ jCall d 146 [.inr (g0, 0), .inl v4] M2 (fun r3 M3 =>
            (0 ≤ (M g0 0 1) ∧ (M g0 0 1) < jal g0 8) ∧ (0 ≤ g0 ∧ g0 < 18) ∧ (0 ≤ g0 ∧ g0 < 18) ∧ Q (M g0 0 1) (jup (jup M3 g0 8 (M g0 0 1) (jwr (1 + (if r1 < (if r2 < r3 then r3 else r2) then (if r2 < r3 then r3 else r2) else r1)))) g0 0 1 (jwr (((jup M3 g0 8 (M g0 0 1) (jwr (1 + (if r1 < (if r2 < r3 then r3 else r2) then (if r2 < r3 then r3 else r2) else r1)))) g0 0 1) + 1))))))) ∧
    ((14 : Int) ≤ (M g0 0 1) →
      Q (-1) M)) :
    jWP d 145 0 [some (.inr (g0, 0)), some (.inl v1), some (.inl v2), some (.inl v3), some (.inl v4), some (.inl v5), none] [] M Q :=
  jreg [] 71 (by decide) ckX4_put h
set_option maxRecDepth 100000 in
theorem fX4_heightOfEnd_0 {d : Nat} {g0 : Int} {v1 : Int} {M : jM} {Q : Int → jM → Prop} (h :
    (v1 < (10 : Int) →
      Q 0 M) ∧
    ((10 : Int) ≤ v1 →
      (0 ≤ g0 ∧ g0 < 18) ∧ ((jwr (10 + (M g0 0 1))) ≤ v1 →
        Q 0 M) ∧
      (v1 < (jwr (10 + (M g0 0 1))) →
        (0 ≤ g0 ∧ g0 < 18) ∧ (0 ≤ (jwr (v1 - 10)) ∧ (jwr (v1 - 10)) < jal g0 8) ∧ Q (M g0 8 (jwr (v1 - 10))) M))) :
    jWP d 146 0 [some (.inr (g0, 0)), some (.inl v1)] [] M Q :=
  jreg [] 23 (by decide) ckX4_heightOfEnd h
set_option maxRecDepth 100000 in
theorem fX4_greatestHeight_0 {d : Nat} {g0 : Int} {M : jM} {Q : Int → jM → Prop} (h :
    jWP d 147 4 [some (.inr (g0, 0)), some (.inl 0), some (.inl 0)] [] M Q) :
    jWP d 147 0 [some (.inr (g0, 0)), none, none] [] M Q :=
  jreg [(4, [])] 7 (by decide) ckX4_greatestHeight h
set_option maxRecDepth 100000 in
theorem fX4_greatestHeight_4 {d : Nat} {g0 : Int} {v1 : Int} {v2 : Int} {M : jM} {Q : Int → jM → Prop} (h :
    (0 ≤ g0 ∧ g0 < 18) ∧ ((M g0 0 1) ≤ v2 →
      Q v1 M) ∧
    (v2 < (M g0 0 1) →
      (0 ≤ g0 ∧ g0 < 18) ∧ (0 ≤ v2 ∧ v2 < jal g0 8) ∧ jWP d 147 4 [some (.inr (g0, 0)), some (.inl (if v1 < (M g0 8 v2) then (M g0 8 v2) else v1)), some (.inl (jwr (v2 + 1)))] [] M Q)) :
    jWP d 147 4 [some (.inr (g0, 0)), some (.inl v1), some (.inl v2)] [] M Q :=
  jreg [(4, [])] 18 (by decide) ckX4_greatestHeight h
set_option maxRecDepth 100000 in
theorem fX4_countOfKind_0 {d : Nat} {g0 : Int} {v1 : Int} {M : jM} {Q : Int → jM → Prop} (h :
    jWP d 148 4 [some (.inr (g0, 0)), some (.inl v1), some (.inl 0), some (.inl 0)] [] M Q) :
    jWP d 148 0 [some (.inr (g0, 0)), some (.inl v1), none, none] [] M Q :=
  jreg [(4, [])] 7 (by decide) ckX4_countOfKind h
set_option maxRecDepth 100000 in
theorem fX4_countOfKind_4 {d : Nat} {g0 : Int} {v1 : Int} {v2 : Int} {v3 : Int} {M : jM} {Q : Int → jM → Prop} (h :
    (0 ≤ g0 ∧ g0 < 18) ∧ ((M g0 0 1) ≤ v3 →
      Q v2 M) ∧
    (v3 < (M g0 0 1) →
      (0 ≤ g0 ∧ g0 < 18) ∧ (0 ≤ v3 ∧ v3 < jal g0 5) ∧ (¬ (M g0 5 v3) = v1 →
        jWP d 148 4 [some (.inr (g0, 0)), some (.inl v1), some (.inl v2), some (.inl (jwr (v3 + 1)))] [] M Q) ∧
      ((M g0 5 v3) = v1 →
        jWP d 148 4 [some (.inr (g0, 0)), some (.inl v1), some (.inl (jwr (v2 + 1))), some (.inl (jwr (v3 + 1)))] [] M Q))) :
    jWP d 148 4 [some (.inr (g0, 0)), some (.inl v1), some (.inl v2), some (.inl v3)] [] M Q :=
  jreg [(4, [])] 21 (by decide) ckX4_countOfKind h
set_option maxRecDepth 100000 in
theorem fX4_countOfMoments_0 {d : Nat} {g0 : Int} {M : jM} {Q : Int → jM → Prop} (h :
    jWP d 149 4 [some (.inr (g0, 0)), some (.inl 0), some (.inl 0)] [] M Q) :
    jWP d 149 0 [some (.inr (g0, 0)), none, none] [] M Q :=
  jreg [(4, [])] 7 (by decide) ckX4_countOfMoments h
set_option maxRecDepth 100000 in
theorem fX4_countOfMoments_4 {d : Nat} {g0 : Int} {v1 : Int} {v2 : Int} {M : jM} {Q : Int → jM → Prop} (h :
    (0 ≤ g0 ∧ g0 < 18) ∧ ((M g0 0 1) ≤ v2 →
      Q v1 M) ∧
    (v2 < (M g0 0 1) →
      (0 ≤ g0 ∧ g0 < 18) ∧ (0 ≤ v2 ∧ v2 < jal g0 7) ∧ ((M g0 7 v2) = (-1 : Int) →
        jWP d 149 4 [some (.inr (g0, 0)), some (.inl v1), some (.inl (jwr (v2 + 1)))] [] M Q) ∧
      (¬ (M g0 7 v2) = (-1 : Int) →
        jWP d 149 4 [some (.inr (g0, 0)), some (.inl (jwr (v1 + 1))), some (.inl (jwr (v2 + 1)))] [] M Q))) :
    jWP d 149 4 [some (.inr (g0, 0)), some (.inl v1), some (.inl v2)] [] M Q :=
  jreg [(4, [])] 21 (by decide) ckX4_countOfMoments h
set_option maxRecDepth 100000 in
theorem fJ6_bitCount_0 {d : Nat} {v0 : Int} {M : jM} {Q : Int → jM → Prop} (h :
    Q (jiand (jwr ((jwr ((jiand (jwr ((jwr ((jiand (jwr (v0 - (jiand (jiushr v0 1) ((1431655765 : Nat) : Int)))) ((858993459 : Nat) : Int)) + (jiand (jiushr (jwr (v0 - (jiand (jiushr v0 1) ((1431655765 : Nat) : Int)))) 2) ((858993459 : Nat) : Int)))) + (jiushr (jwr ((jiand (jwr (v0 - (jiand (jiushr v0 1) ((1431655765 : Nat) : Int)))) ((858993459 : Nat) : Int)) + (jiand (jiushr (jwr (v0 - (jiand (jiushr v0 1) ((1431655765 : Nat) : Int)))) 2) ((858993459 : Nat) : Int)))) 4))) ((252645135 : Nat) : Int)) + (jiushr (jiand (jwr ((jwr ((jiand (jwr (v0 - (jiand (jiushr v0 1) ((1431655765 : Nat) : Int)))) ((858993459 : Nat) : Int)) + (jiand (jiushr (jwr (v0 - (jiand (jiushr v0 1) ((1431655765 : Nat) : Int)))) 2) ((858993459 : Nat) : Int)))) + (jiushr (jwr ((jiand (jwr (v0 - (jiand (jiushr v0 1) ((1431655765 : Nat) : Int)))) ((858993459 : Nat) : Int)) + (jiand (jiushr (jwr (v0 - (jiand (jiushr v0 1) ((1431655765 : Nat) : Int)))) 2) ((858993459 : Nat) : Int)))) 4))) ((252645135 : Nat) : Int)) 8))) + (jiushr (jwr ((jiand (jwr ((jwr ((jiand (jwr (v0 - (jiand (jiushr v0 1) ((1431655765 : Nat) : Int)))) ((858993459 : Nat) : Int)) + (jiand (jiushr (jwr (v0 - (jiand (jiushr v0 1) ((1431655765 : Nat) : Int)))) 2) ((858993459 : Nat) : Int)))) + (jiushr (jwr ((jiand (jwr (v0 - (jiand (jiushr v0 1) ((1431655765 : Nat) : Int)))) ((858993459 : Nat) : Int)) + (jiand (jiushr (jwr (v0 - (jiand (jiushr v0 1) ((1431655765 : Nat) : Int)))) 2) ((858993459 : Nat) : Int)))) 4))) ((252645135 : Nat) : Int)) + (jiushr (jiand (jwr ((jwr ((jiand (jwr (v0 - (jiand (jiushr v0 1) ((1431655765 : Nat) : Int)))) ((858993459 : Nat) : Int)) + (jiand (jiushr (jwr (v0 - (jiand (jiushr v0 1) ((1431655765 : Nat) : Int)))) 2) ((858993459 : Nat) : Int)))) + (jiushr (jwr ((jiand (jwr (v0 - (jiand (jiushr v0 1) ((1431655765 : Nat) : Int)))) ((858993459 : Nat) : Int)) + (jiand (jiushr (jwr (v0 - (jiand (jiushr v0 1) ((1431655765 : Nat) : Int)))) 2) ((858993459 : Nat) : Int)))) 4))) ((252645135 : Nat) : Int)) 8))) 16))) 63) M) :
    jWP d 181 0 [some (.inl v0)] [] M Q :=
  jreg [] 44 (by decide) ckJ6_bitCount h
