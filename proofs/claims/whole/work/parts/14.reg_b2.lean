set_option maxRecDepth 100000 in
theorem fX8_weaveLeft_0 {d : Nat} {g1 : Int} {g2 : Int} {M : jM} {Q : Int → jM → Prop} (h :
    jCall d 177 [.inr (26, 0)] M (fun _ M1 =>
      jWP d 174 9 [some (.inr (26, 0)), some (.inr (g1, 0)), some (.inr (g2, 0)), some (.inl 0), some (.inl 0), none] [] M1 Q)) :
    jWP d 174 0 [some (.inr (26, 0)), some (.inr (g1, 0)), some (.inr (g2, 0)), none, none, none] [] M Q :=
  jreg [(9, [5]), (48, [5]), (105, [1, 5]), (149, [1, 5])] 9 (by decide) ckX8_weaveLeft h
set_option maxRecDepth 100000 in
theorem fX8_weaveLeft_9 {d : Nat} {g1 : Int} {g2 : Int} {v3 : Int} {v4 : Int} {M : jM} {Q : Int → jM → Prop} (h :
    (0 ≤ g1 ∧ g1 < 18) ∧ ((M g1 0 1) ≤ v4 →
      (0 ≤ g2 ∧ g2 < 18) ∧ (0 ≤ (14 : Int) ∧ (14 : Int) < 18) ∧ jCall d 140 [.inr (14, 0), .inl (M g2 0 0)] M (fun _ M1 =>
        (0 ≤ g2 ∧ g2 < 18) ∧ (0 ≤ (14 : Int) ∧ (14 : Int) < 18) ∧ jWP d 174 105 [some (.inr (26, 0)), none, some (.inr (g2, 0)), some (.inl v3), some (.inl 0), none] [] (jup M1 14 0 2 (M1 g2 0 2)) Q)) ∧
    (v4 < (M g1 0 1) →
      (0 ≤ v4 ∧ v4 < jal 26 5) ∧ (¬ (M 26 5 v4) = (-1 : Int) →
        jWP d 174 48 [some (.inr (26, 0)), some (.inr (g1, 0)), some (.inr (g2, 0)), some (.inl v3), some (.inl v4), none] [.inl 0] M Q) ∧
      ((M 26 5 v4) = (-1 : Int) →
        (0 ≤ v4 ∧ v4 < jal 20 7) ∧ ((M 20 7 v4) = (-1 : Int) →
          jWP d 174 48 [some (.inr (26, 0)), some (.inr (g1, 0)), some (.inr (g2, 0)), some (.inl v3), some (.inl v4), none] [.inl 0] M Q) ∧
        (¬ (M 20 7 v4) = (-1 : Int) →
          jWP d 174 48 [some (.inr (26, 0)), some (.inr (g1, 0)), some (.inr (g2, 0)), some (.inl v3), some (.inl v4), none] [.inl 1] M Q)))) :
    jWP d 174 9 [some (.inr (26, 0)), some (.inr (g1, 0)), some (.inr (g2, 0)), some (.inl v3), some (.inl v4), none] [] M Q :=
  jreg [(9, [5]), (48, [5]), (105, [1, 5]), (149, [1, 5])] 39 (by decide) ckX8_weaveLeft h
set_option maxRecDepth 100000 in
theorem fX8_weaveLeft_48 {d : Nat} {g1 : Int} {g2 : Int} {v3 : Int} {v4 : Int} {s0 : Int} {M : jM} {Q : Int → jM → Prop} (h :
    (s0 = (0 : Int) →
      jWP d 174 9 [some (.inr (26, 0)), some (.inr (g1, 0)), some (.inr (g2, 0)), some (.inl (jior v3 0)), some (.inl (jwr (v4 + 1))), none] [] M Q) ∧
    (¬ s0 = (0 : Int) →
      (0 ≤ v4 ∧ v4 < jal 20 7) ∧ jWP d 174 9 [some (.inr (26, 0)), some (.inr (g1, 0)), some (.inr (g2, 0)), some (.inl (jior v3 (jishl 1 (M 20 7 v4)))), some (.inl (jwr (v4 + 1))), none] [] M Q)) :
    jWP d 174 48 [some (.inr (26, 0)), some (.inr (g1, 0)), some (.inr (g2, 0)), some (.inl v3), some (.inl v4), none] [.inl s0] M Q :=
  jreg [(9, [5]), (48, [5]), (105, [1, 5]), (149, [1, 5])] 25 (by decide) ckX8_weaveLeft h
set_option maxRecDepth 100000 in
theorem fX8_weaveLeft_105 {d : Nat} {g2 : Int} {v3 : Int} {v4 : Int} {M : jM} {Q : Int → jM → Prop} (h :
    (0 ≤ g2 ∧ g2 < 18) ∧ ((M g2 0 0) ≤ v4 →
      jWP d 174 149 [some (.inr (26, 0)), none, some (.inr (g2, 0)), some (.inl v3), some (.inl 0), none] [] M Q) ∧
    (v4 < (M g2 0 0) →
      (0 ≤ (14 : Int) ∧ (14 : Int) < 18) ∧ (0 ≤ g2 ∧ g2 < 18) ∧ (0 ≤ v4 ∧ v4 < jal g2 4) ∧ (0 ≤ v4 ∧ v4 < jal 14 4) ∧ (0 ≤ v4 ∧ v4 < jal 26 6) ∧ jWP d 174 105 [some (.inr (26, 0)), none, some (.inr (g2, 0)), some (.inl v3), some (.inl (jwr (v4 + 1))), none] [] (jup (jup M 14 4 v4 (M g2 4 v4)) 26 6 v4 v4) Q)) :
    jWP d 174 105 [some (.inr (26, 0)), none, some (.inr (g2, 0)), some (.inl v3), some (.inl v4), none] [] M Q :=
  jreg [(9, [5]), (48, [5]), (105, [1, 5]), (149, [1, 5])] 26 (by decide) ckX8_weaveLeft h
set_option maxRecDepth 100000 in
theorem fX8_weaveLeft_149 {d : Nat} {g2 : Int} {v3 : Int} {v4 : Int} {M : jM} {Q : Int → jM → Prop} (h :
    (0 ≤ g2 ∧ g2 < 18) ∧ ((M g2 0 1) ≤ v4 →
      (0 ≤ (0 : Int) ∧ 0 ≤ (0 : Int) ∧ 0 < (14 : Int) ∧ 0 + 14 ≤ jal 26 7 ∧ 0 + 14 ≤ jal 26 8) ∧ Q 0 (jcp M 26 7 0 26 8 0 14)) ∧
    (v4 < (M g2 0 1) →
      (¬ (jiand (jishr v3 v4) 1) = (0 : Int) →
        jWP d 174 149 [some (.inr (26, 0)), none, some (.inr (g2, 0)), some (.inl v3), some (.inl (jwr (v4 + 1))), none] [] M Q) ∧
      ((jiand (jishr v3 v4) 1) = (0 : Int) →
        jCall d 178 [.inr (26, 0), .inr (g2, 0), .inl v4] M (fun r1 M1 =>
          (r1 = (0 : Int) →
            jWP d 174 149 [some (.inr (26, 0)), none, some (.inr (g2, 0)), some (.inl v3), some (.inl (jwr (v4 + 1))), none] [] M1 Q) ∧
          (¬ r1 = (0 : Int) →
            (0 ≤ g2 ∧ g2 < 18) ∧ (0 ≤ v4 ∧ v4 < jal g2 5) ∧ (0 ≤ g2 ∧ g2 < 18) ∧ (0 ≤ v4 ∧ v4 < jal g2 7) ∧ jCall d 180 [.inr (26, 0), .inl (M1 g2 5 v4), .inl (M1 g2 7 v4)] M1 (fun r2 M2 =>
              (0 ≤ v4 ∧ v4 < jal 26 7) ∧ jWP d 174 149 [some (.inr (26, 0)), none, some (.inr (g2, 0)), some (.inl v3), some (.inl (jwr (v4 + 1))), none] [] (jup M2 26 7 v4 r2) Q)))))) :
    jWP d 174 149 [some (.inr (26, 0)), none, some (.inr (g2, 0)), some (.inl v3), some (.inl v4), none] [] M Q :=
  jreg [(9, [5]), (48, [5]), (105, [1, 5]), (149, [1, 5])] 49 (by decide) ckX8_weaveLeft h
set_option maxRecDepth 100000 in
theorem fX8_bridge_0 {d : Nat} {g1 : Int} {M : jM} {Q : Int → jM → Prop} (h :
    jCall d 177 [.inr (26, 0)] M (fun _ M1 =>
      jWP d 175 6 [some (.inr (26, 0)), some (.inr (g1, 0)), some (.inl 0)] [] M1 Q)) :
    jWP d 175 0 [some (.inr (26, 0)), some (.inr (g1, 0)), none] [] M Q :=
  jreg [(6, []), (51, [])] 7 (by decide) ckX8_bridge h
set_option maxRecDepth 100000 in
theorem fX8_bridge_6 {d : Nat} {g1 : Int} {v2 : Int} {M : jM} {Q : Int → jM → Prop} (h :
    (0 ≤ g1 ∧ g1 < 18) ∧ ((M g1 0 0) ≤ v2 →
      jWP d 175 51 [some (.inr (26, 0)), some (.inr (g1, 0)), some (.inl 0)] [] M Q) ∧
    (v2 < (M g1 0 0) →
      (0 ≤ v2 ∧ v2 < jal 26 4) ∧ ((M 26 4 v2) < (0 : Int) →
        jWP d 175 6 [some (.inr (26, 0)), some (.inr (g1, 0)), some (.inl (jwr (v2 + 1)))] [] M Q) ∧
      ((0 : Int) ≤ (M 26 4 v2) →
        (0 ≤ v2 ∧ v2 < jal 26 4) ∧ (0 ≤ v2 ∧ v2 < jal 20 6) ∧ (0 ≤ (M 26 4 v2) ∧ (M 26 4 v2) < jal 26 6) ∧ jWP d 175 6 [some (.inr (26, 0)), some (.inr (g1, 0)), some (.inl (jwr (v2 + 1)))] [] (jup M 26 6 (M 26 4 v2) (M 20 6 v2)) Q))) :
    jWP d 175 6 [some (.inr (26, 0)), some (.inr (g1, 0)), some (.inl v2)] [] M Q :=
  jreg [(6, []), (51, [])] 32 (by decide) ckX8_bridge h
set_option maxRecDepth 100000 in
theorem fX8_bridge_51 {d : Nat} {g1 : Int} {v2 : Int} {M : jM} {Q : Int → jM → Prop} (h :
    (0 ≤ g1 ∧ g1 < 18) ∧ ((M g1 0 1) ≤ v2 →
      Q 0 M) ∧
    (v2 < (M g1 0 1) →
      (0 ≤ v2 ∧ v2 < jal 26 5) ∧ ((M 26 5 v2) < (0 : Int) →
        jWP d 175 51 [some (.inr (26, 0)), some (.inr (g1, 0)), some (.inl (jwr (v2 + 1)))] [] M Q) ∧
      ((0 : Int) ≤ (M 26 5 v2) →
        (0 ≤ v2 ∧ v2 < jal 20 7) ∧ ((M 20 7 v2) < (0 : Int) →
          jWP d 175 51 [some (.inr (26, 0)), some (.inr (g1, 0)), some (.inl (jwr (v2 + 1)))] [] M Q) ∧
        ((0 : Int) ≤ (M 20 7 v2) →
          (0 ≤ v2 ∧ v2 < jal 26 5) ∧ (0 ≤ v2 ∧ v2 < jal 20 7) ∧ (0 ≤ (M 20 7 v2) ∧ (M 20 7 v2) < jal 26 8) ∧ (0 ≤ (M 26 5 v2) ∧ (M 26 5 v2) < jal 26 7) ∧ jWP d 175 51 [some (.inr (26, 0)), some (.inr (g1, 0)), some (.inl (jwr (v2 + 1)))] [] (jup M 26 7 (M 26 5 v2) (M 26 8 (M 20 7 v2))) Q)))) :
    jWP d 175 51 [some (.inr (26, 0)), some (.inr (g1, 0)), some (.inl v2)] [] M Q :=
  jreg [(6, []), (51, [])] 42 (by decide) ckX8_bridge h
set_option maxRecDepth 100000 in
theorem fX8_putWon_0 {d : Nat} {g1 : Int} {g2 : Int} {M : jM} {Q : Int → jM → Prop} (h :
    jWP d 176 5 [some (.inr (26, 0)), some (.inr (g1, 0)), some (.inr (g2, 0)), some (.inl 0), some (.inl 0)] [] M Q) :
    jWP d 176 0 [some (.inr (26, 0)), some (.inr (g1, 0)), some (.inr (g2, 0)), none, none] [] M Q :=
  jreg [(5, []), (49, [1])] 7 (by decide) ckX8_putWon h
set_option maxRecDepth 100000 in
theorem fX8_putWon_5 {d : Nat} {g1 : Int} {g2 : Int} {v3 : Int} {v4 : Int} {M : jM} {Q : Int → jM → Prop} (h :
    (0 ≤ g1 ∧ g1 < 18) ∧ ((M g1 0 1) ≤ v4 →
      jWP d 176 49 [some (.inr (26, 0)), none, some (.inr (g2, 0)), some (.inl v3), some (.inl 0)] [] M Q) ∧
    (v4 < (M g1 0 1) →
      (0 ≤ v4 ∧ v4 < jal 26 5) ∧ ((M 26 5 v4) < (0 : Int) →
        jWP d 176 5 [some (.inr (26, 0)), some (.inr (g1, 0)), some (.inr (g2, 0)), some (.inl (jior v3 0)), some (.inl (jwr (v4 + 1)))] [] M Q) ∧
      ((0 : Int) ≤ (M 26 5 v4) →
        (0 ≤ v4 ∧ v4 < jal 26 5) ∧ jWP d 176 5 [some (.inr (26, 0)), some (.inr (g1, 0)), some (.inr (g2, 0)), some (.inl (jior v3 (jishl 1 (M 26 5 v4)))), some (.inl (jwr (v4 + 1)))] [] M Q))) :
    jWP d 176 5 [some (.inr (26, 0)), some (.inr (g1, 0)), some (.inr (g2, 0)), some (.inl v3), some (.inl v4)] [] M Q :=
  jreg [(5, []), (49, [1])] 33 (by decide) ckX8_putWon h
set_option maxRecDepth 100000 in
theorem fX8_putWon_49 {d : Nat} {g2 : Int} {v3 : Int} {v4 : Int} {M : jM} {Q : Int → jM → Prop} (h :
    (0 ≤ g2 ∧ g2 < 18) ∧ ((M g2 0 1) ≤ v4 →
      ((1 : Int) = 0 ∨ (1 : Int) = 1) ∧ Q 1 M) ∧
    (v4 < (M g2 0 1) →
      (¬ (jiand (jishr v3 v4) 1) = (0 : Int) →
        jWP d 176 49 [some (.inr (26, 0)), none, some (.inr (g2, 0)), some (.inl v3), some (.inl (jwr (v4 + 1)))] [] M Q) ∧
      ((jiand (jishr v3 v4) 1) = (0 : Int) →
        jCall d 178 [.inr (26, 0), .inr (g2, 0), .inl v4] M (fun r1 M1 =>
          (r1 = (0 : Int) →
            jWP d 176 49 [some (.inr (26, 0)), none, some (.inr (g2, 0)), some (.inl v3), some (.inl (jwr (v4 + 1)))] [] M1 Q) ∧
          (¬ r1 = (0 : Int) →
            (0 ≤ g2 ∧ g2 < 18) ∧ (0 ≤ v4 ∧ v4 < jal g2 5) ∧ (0 ≤ g2 ∧ g2 < 18) ∧ (0 ≤ v4 ∧ v4 < jal g2 7) ∧ jCall d 180 [.inr (26, 0), .inl (M1 g2 5 v4), .inl (M1 g2 7 v4)] M1 (fun r2 M2 =>
              (0 ≤ v4 ∧ v4 < jal 26 7) ∧ (0 ≤ v4 ∧ v4 < jal 26 7) ∧ (¬ ((jup M2 26 7 v4 r2) 26 7 v4) = (-1 : Int) →
                jWP d 176 49 [some (.inr (26, 0)), none, some (.inr (g2, 0)), some (.inl v3), some (.inl (jwr (v4 + 1)))] [] (jup M2 26 7 v4 r2) Q) ∧
              (((jup M2 26 7 v4 r2) 26 7 v4) = (-1 : Int) →
                ((0 : Int) = 0 ∨ (0 : Int) = 1) ∧ Q 0 (jup M2 26 7 v4 r2)))))))) :
    jWP d 176 49 [some (.inr (26, 0)), none, some (.inr (g2, 0)), some (.inl v3), some (.inl v4)] [] M Q :=
  jreg [(5, []), (49, [1])] 50 (by decide) ckX8_putWon h
set_option maxRecDepth 100000 in
theorem fX8_clear_0 {d : Nat}  {M : jM} {Q : Int → jM → Prop} (h :
    jWP d 177 2 [some (.inr (26, 0)), some (.inl 0)] [] M Q) :
    jWP d 177 0 [some (.inr (26, 0)), none] [] M Q :=
  jreg [(2, []), (23, [])] 5 (by decide) ckX8_clear h
set_option maxRecDepth 100000 in
theorem fX8_clear_2 {d : Nat} {v1 : Int} {M : jM} {Q : Int → jM → Prop} (h :
    ((6 : Int) ≤ v1 →
      jWP d 177 23 [some (.inr (26, 0)), some (.inl 0)] [] M Q) ∧
    (v1 < (6 : Int) →
      (0 ≤ v1 ∧ v1 < jal 26 6) ∧ jWP d 177 2 [some (.inr (26, 0)), some (.inl (jwr (v1 + 1)))] [] (jup M 26 6 v1 (-1)) Q)) :
    jWP d 177 2 [some (.inr (26, 0)), some (.inl v1)] [] M Q :=
  jreg [(2, []), (23, [])] 16 (by decide) ckX8_clear h
set_option maxRecDepth 100000 in
theorem fX8_clear_23 {d : Nat} {v1 : Int} {M : jM} {Q : Int → jM → Prop} (h :
    ((14 : Int) ≤ v1 →
      Q 0 M) ∧
    (v1 < (14 : Int) →
      (0 ≤ v1 ∧ v1 < jal 26 7) ∧ jWP d 177 23 [some (.inr (26, 0)), some (.inl (jwr (v1 + 1)))] [] (jup M 26 7 v1 (-1)) Q)) :
    jWP d 177 23 [some (.inr (26, 0)), some (.inl v1)] [] M Q :=
  jreg [(2, []), (23, [])] 14 (by decide) ckX8_clear h
set_option maxRecDepth 100000 in
theorem fX8_bringEnds_0 {d : Nat} {g1 : Int} {v2 : Int} {M : jM} {Q : Int → jM → Prop} (h :
    jWP d 178 2 [some (.inr (26, 0)), some (.inr (g1, 0)), some (.inl v2), some (.inl 0), none] [] M Q) :
    jWP d 178 0 [some (.inr (26, 0)), some (.inr (g1, 0)), some (.inl v2), none, none] [] M Q :=
  jreg [(2, [4])] 5 (by decide) ckX8_bringEnds h
set_option maxRecDepth 100000 in
theorem fX8_bringEnds_2 {d : Nat} {g1 : Int} {v2 : Int} {v3 : Int} {M : jM} {Q : Int → jM → Prop} (h :
    ((3 : Int) ≤ v3 →
      ((1 : Int) = 0 ∨ (1 : Int) = 1) ∧ Q 1 M) ∧
    (v3 < (3 : Int) →
      (0 ≤ g1 ∧ g1 < 18) ∧ (0 ≤ (jwr ((jwr (v2 * 3)) + v3)) ∧ (jwr ((jwr (v2 * 3)) + v3)) < jal g1 6) ∧ jCall d 179 [.inr (26, 0), .inl (M g1 6 (jwr ((jwr (v2 * 3)) + v3)))] M (fun r1 M1 =>
        (0 ≤ v3 ∧ v3 < jal 26 9) ∧ ((M g1 6 (jwr ((jwr (v2 * 3)) + v3))) = (-1 : Int) →
          jWP d 178 2 [some (.inr (26, 0)), some (.inr (g1, 0)), some (.inl v2), some (.inl (jwr (v3 + 1))), none] [] (jup M1 26 9 v3 r1) Q) ∧
        (¬ (M g1 6 (jwr ((jwr (v2 * 3)) + v3))) = (-1 : Int) →
          (0 ≤ v3 ∧ v3 < jal 26 9) ∧ (¬ ((jup M1 26 9 v3 r1) 26 9 v3) = (-1 : Int) →
            jWP d 178 2 [some (.inr (26, 0)), some (.inr (g1, 0)), some (.inl v2), some (.inl (jwr (v3 + 1))), none] [] (jup M1 26 9 v3 r1) Q) ∧
          (((jup M1 26 9 v3 r1) 26 9 v3) = (-1 : Int) →
            ((0 : Int) = 0 ∨ (0 : Int) = 1) ∧ Q 0 (jup M1 26 9 v3 r1)))))) :
    jWP d 178 2 [some (.inr (26, 0)), some (.inr (g1, 0)), some (.inl v2), some (.inl v3), none] [] M Q :=
  jreg [(2, [4])] 40 (by decide) ckX8_bringEnds h
set_option maxRecDepth 100000 in
theorem fX8_newEnd_0 {d : Nat} {v1 : Int} {M : jM} {Q : Int → jM → Prop} (h :
    ((6 : Int) ≤ v1 →
      ((jwr (v1 - 10)) < (0 : Int) →
        jWP d 179 51 [some (.inr (26, 0)), none, some (.inl (jwr (v1 - 10))), none] [.inl 0] M Q) ∧
      ((0 : Int) ≤ (jwr (v1 - 10)) →
        ((14 : Int) ≤ (jwr (v1 - 10)) →
          jWP d 179 51 [some (.inr (26, 0)), none, some (.inl (jwr (v1 - 10))), none] [.inl 0] M Q) ∧
        ((jwr (v1 - 10)) < (14 : Int) →
          (0 ≤ (jwr (v1 - 10)) ∧ (jwr (v1 - 10)) < jal 26 7) ∧ ((M 26 7 (jwr (v1 - 10))) = (-1 : Int) →
            jWP d 179 51 [some (.inr (26, 0)), none, some (.inl (jwr (v1 - 10))), none] [.inl 0] M Q) ∧
          (¬ (M 26 7 (jwr (v1 - 10))) = (-1 : Int) →
            jWP d 179 51 [some (.inr (26, 0)), none, some (.inl (jwr (v1 - 10))), none] [.inl 1] M Q)))) ∧
    (v1 < (6 : Int) →
      ((0 : Int) ≤ v1 →
        (0 ≤ v1 ∧ v1 < jal 26 6) ∧ Q (M 26 6 v1) M) ∧
      (v1 < (0 : Int) →
        Q (-1) M))) :
    jWP d 179 0 [some (.inr (26, 0)), some (.inl v1), none, none] [] M Q :=
  jreg [(51, [1, 3])] 39 (by decide) ckX8_newEnd h
set_option maxRecDepth 100000 in
theorem fX8_newEnd_51 {d : Nat} {v2 : Int} {s0 : Int} {M : jM} {Q : Int → jM → Prop} (h :
    (s0 = (0 : Int) →
      Q (-1) M) ∧
    (¬ s0 = (0 : Int) →
      (0 ≤ v2 ∧ v2 < jal 26 7) ∧ Q (jwr (10 + (M 26 7 v2))) M)) :
    jWP d 179 51 [some (.inr (26, 0)), none, some (.inl v2), none] [.inl s0] M Q :=
  jreg [(51, [1, 3])] 15 (by decide) ckX8_newEnd h
set_option maxRecDepth 100000 in
theorem fX8_findOrPut_0 {d : Nat} {v1 : Int} {v2 : Int} {M : jM} {Q : Int → jM → Prop} (h :
    (0 ≤ (0 : Int) ∧ (0 : Int) < jal 26 9) ∧ (0 ≤ (1 : Int) ∧ (1 : Int) < jal 26 9) ∧ (0 ≤ (2 : Int) ∧ (2 : Int) < jal 26 9) ∧ (0 ≤ (14 : Int) ∧ (14 : Int) < 18) ∧ jCall d 144 [.inr (14, 0), .inr (19, 0), .inl v1, .inl (M 26 9 0), .inl (M 26 9 1), .inl (M 26 9 2)] M (fun r1 M1 =>
      (r1 = (-1 : Int) →
        (0 ≤ (0 : Int) ∧ (0 : Int) < jal 26 9) ∧ (0 ≤ (1 : Int) ∧ (1 : Int) < jal 26 9) ∧ (0 ≤ (2 : Int) ∧ (2 : Int) < jal 26 9) ∧ (0 ≤ (14 : Int) ∧ (14 : Int) < 18) ∧ jCall d 145 [.inr (14, 0), .inl v1, .inl (M1 26 9 0), .inl (M1 26 9 1), .inl (M1 26 9 2), .inl v2] M1 (fun r2 M2 =>
          Q r2 M2)) ∧
      (¬ r1 = (-1 : Int) →
        Q r1 M1))) :
    jWP d 180 0 [some (.inr (26, 0)), some (.inl v1), some (.inl v2), none] [] M Q :=
  jreg [] 45 (by decide) ckX8_findOrPut h
