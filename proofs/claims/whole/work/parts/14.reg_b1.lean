set_option maxRecDepth 100000 in
theorem fX5_likeness_0 {d : Nat} {g1 : Int} {g2 : Int} {v3 : Int} {v4 : Int} {M : jM} {Q : Int → jM → Prop} (h :
    jCall d 155 [.inr (22, 0), .inr (g1, 0), .inr (g2, 0), .inl v3, .inl v4, .inl 0] M (fun _ M1 =>
      jCall d 157 [.inr (22, 0), .inl 0, .inl 0] M1 (fun _ M2 =>
        (0 ≤ (0 : Int) ∧ 0 ≤ (0 : Int) ∧ 0 < (6 : Int) ∧ 0 + 6 ≤ jal 22 11 ∧ 0 + 6 ≤ jal 20 6) ∧ jCall d 115 [.inr (20, 0)] (jcp M2 22 11 0 20 6 0 6) (fun r3 M3 =>
          Q (M3 22 0 8) M3)))) :
    jWP d 150 0 [some (.inr (22, 0)), some (.inr (g1, 0)), some (.inr (g2, 0)), some (.inl v3), some (.inl v4)] [] M Q :=
  jreg [] 28 (by decide) ckX5_likeness h
set_option maxRecDepth 100000 in
theorem fX5_list_0 {d : Nat} {v1 : Int} {M : jM} {Q : Int → jM → Prop} (h :
    ((1 : Int) = 0 ∨ (1 : Int) = 1) ∧ jCall d 156 [.inr (22, 0)] (jup (jup (jup M 22 0 11 1) 22 0 12 0) 22 0 13 v1) (fun _ M1 =>
      jCall d 157 [.inr (22, 0), .inl 0, .inl 0] M1 (fun _ M2 =>
        ((0 : Int) = 0 ∨ (0 : Int) = 1) ∧ Q ((jup M2 22 0 11 0) 22 0 12) (jup M2 22 0 11 0)))) :
    jWP d 151 0 [some (.inr (22, 0)), some (.inl v1)] [] M Q :=
  jreg [] 23 (by decide) ckX5_list h
set_option maxRecDepth 100000 in
theorem fX5_digits_0 {d : Nat}  {M : jM} {Q : Int → jM → Prop} (h :
    jWP d 152 4 [some (.inr (22, 0)), some (.inl 0), some (.inl 0)] [] M Q) :
    jWP d 152 0 [some (.inr (22, 0)), none, none] [] M Q :=
  jreg [(4, [])] 7 (by decide) ckX5_digits h
set_option maxRecDepth 100000 in
theorem fX5_digits_4 {d : Nat} {v1 : Int} {v2 : Int} {M : jM} {Q : Int → jM → Prop} (h :
    (0 ≤ (M 22 0 2) ∧ (M 22 0 2) < 18) ∧ ((M (M 22 0 2) 0 0) ≤ v2 →
      Q v1 M) ∧
    (v2 < (M (M 22 0 2) 0 0) →
      (0 ≤ v2 ∧ v2 < jal 22 11) ∧ (¬ (M 22 11 v2) = (-1 : Int) →
        (0 ≤ v2 ∧ v2 < jal 22 11) ∧ jWP d 152 4 [some (.inr (22, 0)), some (.inl (jwr ((jwr (v1 * 10)) + (M 22 11 v2)))), some (.inl (jwr (v2 + 1)))] [] M Q) ∧
      ((M 22 11 v2) = (-1 : Int) →
        jWP d 152 4 [some (.inr (22, 0)), some (.inl (jwr ((jwr (v1 * 10)) + 9))), some (.inl (jwr (v2 + 1)))] [] M Q))) :
    jWP d 152 4 [some (.inr (22, 0)), some (.inl v1), some (.inl v2)] [] M Q :=
  jreg [(4, [])] 34 (by decide) ckX5_digits h
set_option maxRecDepth 100000 in
theorem fX5_mostAnswering_0 {d : Nat} {g1 : Int} {g2 : Int} {v3 : Int} {M : jM} {Q : Int → jM → Prop} (h :
    jCall d 155 [.inr (22, 0), .inr (g1, 0), .inr (g2, 0), .inl 0, .inl v3, .inl 1] M (fun _ M1 =>
      jCall d 157 [.inr (22, 0), .inl 0, .inl 0] M1 (fun _ M2 =>
        Q (M2 22 0 8) M2))) :
    jWP d 153 0 [some (.inr (22, 0)), some (.inr (g1, 0)), some (.inr (g2, 0)), some (.inl v3)] [] M Q :=
  jreg [] 16 (by decide) ckX5_mostAnswering h
set_option maxRecDepth 100000 in
theorem fX5_isSame_0 {d : Nat} {g1 : Int} {g2 : Int} {M : jM} {Q : Int → jM → Prop} (h :
    jCall d 155 [.inr (22, 0), .inr (g1, 0), .inr (g2, 0), .inl 0, .inl 0, .inl 2] M (fun _ M1 =>
      (0 ≤ g1 ∧ g1 < 18) ∧ (0 ≤ g1 ∧ g1 < 18) ∧ (0 ≤ g1 ∧ g1 < 18) ∧ jCall d 157 [.inr (22, 0), .inl 0, .inl 0] (jup (jup M1 22 0 8 (jwr ((jwr ((M1 g1 0 0) + (M1 g1 0 1))) - 1))) 22 0 9 ((jup M1 22 0 8 (jwr ((jwr ((M1 g1 0 0) + (M1 g1 0 1))) - 1))) g1 0 0)) (fun _ M2 =>
        (¬ (M2 22 0 8) = (jwr ((M1 g1 0 0) + (M1 g1 0 1))) →
          ((0 : Int) = 0 ∨ (0 : Int) = 1) ∧ Q 0 M2) ∧
        ((M2 22 0 8) = (jwr ((M1 g1 0 0) + (M1 g1 0 1))) →
          ((1 : Int) = 0 ∨ (1 : Int) = 1) ∧ Q 1 M2)))) :
    jWP d 154 0 [some (.inr (22, 0)), some (.inr (g1, 0)), some (.inr (g2, 0)), none] [] M Q :=
  jreg [] 37 (by decide) ckX5_isSame h
set_option maxRecDepth 100000 in
theorem fX5_prepare_0 {d : Nat} {g1 : Int} {g2 : Int} {v3 : Int} {v4 : Int} {v5 : Int} {M : jM} {Q : Int → jM → Prop} (h :
    (0 ≤ g1 ∧ g1 < 18) ∧ (0 ≤ g2 ∧ g2 < 18) ∧ jCall d 111 [.inr (20, 0), .inr (g1, 0), .inr (g2, 0), .inl v3, .inl v4, .inl v5] (jup (jup M 22 0 2 g1) 22 0 3 g2) (fun _ M1 =>
      (v5 = (1 : Int) →
        jWP d 155 36 [some (.inr (22, 0)), none, none, none, none, none, none, none] [.inl 0, .inr (22, 0)] M1 Q) ∧
      (¬ v5 = (1 : Int) →
        jWP d 155 36 [some (.inr (22, 0)), none, none, none, none, none, none, none] [.inl 1, .inr (22, 0)] M1 Q))) :
    jWP d 155 0 [some (.inr (22, 0)), some (.inr (g1, 0)), some (.inr (g2, 0)), some (.inl v3), some (.inl v4), some (.inl v5), none, none] [] M Q :=
  jreg [(36, [1, 2, 3, 4, 5, 6, 7]), (98, [1, 2, 3, 4, 5, 7]), (121, [1, 2, 3, 4, 5])] 25 (by decide) ckX5_prepare h
set_option maxRecDepth 100000 in
theorem fX5_prepare_36 {d : Nat} {s0 : Int} {M : jM} {Q : Int → jM → Prop} (h :
    (s0 = 0 ∨ s0 = 1) ∧ (((jup M 22 0 4 s0) 21 0 2) = (0 : Int) →
      (0 ≤ ((jup M 22 0 4 s0) 22 0 2) ∧ ((jup M 22 0 4 s0) 22 0 2) < 18) ∧ (0 ≤ ((jup M 22 0 4 s0) 22 0 3) ∧ ((jup M 22 0 4 s0) 22 0 3) < 18) ∧ jWP d 155 98 [some (.inr (22, 0)), none, none, none, none, none, some (.inl 0), none] [] (jup (jup (jup (jup M 22 0 4 s0) 22 0 7 (if 0 < (jwr (((jup M 22 0 4 s0) ((jup M 22 0 4 s0) 22 0 2) 0 0) - ((jup M 22 0 4 s0) ((jup M 22 0 4 s0) 22 0 3) 0 0))) then (jwr (((jup M 22 0 4 s0) ((jup M 22 0 4 s0) 22 0 2) 0 0) - ((jup M 22 0 4 s0) ((jup M 22 0 4 s0) 22 0 3) 0 0))) else 0)) 22 0 8 (-1)) 22 0 9 (-1)) Q) ∧
    (¬ ((jup M 22 0 4 s0) 21 0 2) = (0 : Int) →
      (0 ≤ ((jup M 22 0 4 s0) 22 0 2) ∧ ((jup M 22 0 4 s0) 22 0 2) < 18) ∧ jWP d 155 98 [some (.inr (22, 0)), none, none, none, none, none, some (.inl 0), none] [] (jup (jup (jup (jup M 22 0 4 s0) 22 0 7 ((jup M 22 0 4 s0) ((jup M 22 0 4 s0) 22 0 2) 0 0)) 22 0 8 (-1)) 22 0 9 (-1)) Q)) :
    jWP d 155 36 [some (.inr (22, 0)), none, none, none, none, none, none, none] [.inl s0, .inr (22, 0)] M Q :=
  jreg [(36, [1, 2, 3, 4, 5, 6, 7]), (98, [1, 2, 3, 4, 5, 7]), (121, [1, 2, 3, 4, 5])] 42 (by decide) ckX5_prepare h
set_option maxRecDepth 100000 in
theorem fX5_prepare_98 {d : Nat} {v6 : Int} {M : jM} {Q : Int → jM → Prop} (h :
    (0 ≤ (M 22 0 2) ∧ (M 22 0 2) < 18) ∧ ((M (M 22 0 2) 0 0) ≤ v6 →
      jCall d 156 [.inr (22, 0)] M (fun _ M1 =>
        Q 0 M1)) ∧
    (v6 < (M (M 22 0 2) 0 0) →
      (0 ≤ v6 ∧ v6 < jal 22 6) ∧ jWP d 155 121 [some (.inr (22, 0)), none, none, none, none, none, some (.inl v6), some (.inl 0)] [] (jup M 22 6 v6 0) Q)) :
    jWP d 155 98 [some (.inr (22, 0)), none, none, none, none, none, some (.inl v6), none] [] M Q :=
  jreg [(36, [1, 2, 3, 4, 5, 6, 7]), (98, [1, 2, 3, 4, 5, 7]), (121, [1, 2, 3, 4, 5])] 18 (by decide) ckX5_prepare h
set_option maxRecDepth 100000 in
theorem fX5_prepare_121 {d : Nat} {v6 : Int} {v7 : Int} {M : jM} {Q : Int → jM → Prop} (h :
    (0 ≤ (M 22 0 3) ∧ (M 22 0 3) < 18) ∧ ((M (M 22 0 3) 0 0) ≤ v7 →
      jWP d 155 98 [some (.inr (22, 0)), none, none, none, none, none, some (.inl (jwr (v6 + 1))), none] [] M Q) ∧
    (v7 < (M (M 22 0 3) 0 0) →
      (0 ≤ v6 ∧ v6 < jal 22 6) ∧ (0 ≤ (M 22 0 2) ∧ (M 22 0 2) < 18) ∧ (0 ≤ v6 ∧ v6 < jal (M 22 0 2) 4) ∧ (0 ≤ (M 22 0 3) ∧ (M 22 0 3) < 18) ∧ (0 ≤ v7 ∧ v7 < jal (M 22 0 3) 4) ∧ (¬ (M (M 22 0 2) 4 v6) = (M (M 22 0 3) 4 v7) →
        (0 ≤ v6 ∧ v6 < jal 22 6) ∧ jWP d 155 121 [some (.inr (22, 0)), none, none, none, none, none, some (.inl v6), some (.inl (jwr (v7 + 1)))] [] (jup M 22 6 v6 (jior (M 22 6 v6) 0)) Q) ∧
      ((M (M 22 0 2) 4 v6) = (M (M 22 0 3) 4 v7) →
        (0 ≤ v6 ∧ v6 < jal 22 6) ∧ jWP d 155 121 [some (.inr (22, 0)), none, none, none, none, none, some (.inl v6), some (.inl (jwr (v7 + 1)))] [] (jup M 22 6 v6 (jior (M 22 6 v6) (jishl 1 v7))) Q))) :
    jWP d 155 121 [some (.inr (22, 0)), none, none, none, none, none, some (.inl v6), some (.inl v7)] [] M Q :=
  jreg [(36, [1, 2, 3, 4, 5, 6, 7]), (98, [1, 2, 3, 4, 5, 7]), (121, [1, 2, 3, 4, 5])] 41 (by decide) ckX5_prepare h
set_option maxRecDepth 100000 in
theorem fX5_open_0 {d : Nat}  {M : jM} {Q : Int → jM → Prop} (h :
    jWP d 156 7 [some (.inr (22, 0)), some (.inl 0)] [] (jup M 22 0 6 0) Q) :
    jWP d 156 0 [some (.inr (22, 0)), none] [] M Q :=
  jreg [(7, [])] 8 (by decide) ckX5_open h
set_option maxRecDepth 100000 in
theorem fX5_open_7 {d : Nat} {v1 : Int} {M : jM} {Q : Int → jM → Prop} (h :
    ((6 : Int) ≤ v1 →
      Q 0 M) ∧
    (v1 < (6 : Int) →
      (0 ≤ v1 ∧ v1 < jal 20 6) ∧ jWP d 156 7 [some (.inr (22, 0)), some (.inl (jwr (v1 + 1)))] [] (jup M 20 6 v1 (-2)) Q)) :
    jWP d 156 7 [some (.inr (22, 0)), some (.inl v1)] [] M Q :=
  jreg [(7, [])] 14 (by decide) ckX5_open h
set_option maxRecDepth 100000 in
theorem fX5_place_0 {d : Nat} {v1 : Int} {v2 : Int} {M : jM} {Q : Int → jM → Prop} (h :
    (0 ≤ (M 22 0 2) ∧ (M 22 0 2) < 18) ∧ ((M (M 22 0 2) 0 0) ≤ v1 →
      jCall d 160 [.inr (22, 0)] M (fun _ M1 =>
        Q 0 M1)) ∧
    (v1 < (M (M 22 0 2) 0 0) →
      (v1 < (6 : Int) →
        jWP d 157 24 [some (.inr (22, 0)), some (.inl v1), some (.inl v2), some (.inl 0)] [] M Q) ∧
      ((6 : Int) ≤ v1 →
        jCall d 160 [.inr (22, 0)] M (fun _ M2 =>
          Q 0 M2)))) :
    jWP d 157 0 [some (.inr (22, 0)), some (.inl v1), some (.inl v2), none] [] M Q :=
  jreg [(24, []), (83, [])] 19 (by decide) ckX5_place h
set_option maxRecDepth 100000 in
theorem fX5_place_24 {d : Nat} {v1 : Int} {v2 : Int} {v3 : Int} {M : jM} {Q : Int → jM → Prop} (h :
    (0 ≤ (M 22 0 3) ∧ (M 22 0 3) < 18) ∧ ((M (M 22 0 3) 0 0) ≤ v3 →
      (0 ≤ v1 ∧ v1 < jal 20 6) ∧ (((jup M 20 6 v1 (-1)) 22 0 7) ≤ v2 →
        (0 ≤ v1 ∧ v1 < jal 20 6) ∧ Q 0 (jup (jup M 20 6 v1 (-1)) 20 6 v1 (-2))) ∧
      (v2 < ((jup M 20 6 v1 (-1)) 22 0 7) →
        jCall d 158 [.inr (22, 0), .inl (jwr (v1 + 1))] (jup M 20 6 v1 (-1)) (fun r1 M1 =>
          (r1 = (0 : Int) →
            (0 ≤ v1 ∧ v1 < jal 20 6) ∧ Q 0 (jup M1 20 6 v1 (-2))) ∧
          (¬ r1 = (0 : Int) →
            jCall d 157 [.inr (22, 0), .inl (jwr (v1 + 1)), .inl (jwr (v2 + 1))] M1 (fun _ M2 =>
              (0 ≤ v1 ∧ v1 < jal 20 6) ∧ Q 0 (jup M2 20 6 v1 (-2))))))) ∧
    (v3 < (M (M 22 0 3) 0 0) →
      (¬ (jiand (jishr (M 22 0 6) v3) 1) = (0 : Int) →
        jWP d 157 24 [some (.inr (22, 0)), some (.inl v1), some (.inl v2), some (.inl (jwr (v3 + 1)))] [] M Q) ∧
      ((jiand (jishr (M 22 0 6) v3) 1) = (0 : Int) →
        (0 ≤ v1 ∧ v1 < jal 20 6) ∧ jCall d 158 [.inr (22, 0), .inl (jwr (v1 + 1))] (jup (jup M 20 6 v1 v3) 22 0 6 (jior ((jup M 20 6 v1 v3) 22 0 6) (jishl 1 v3))) (fun r3 M3 =>
          (r3 = (0 : Int) →
            jWP d 157 83 [some (.inr (22, 0)), some (.inl v1), some (.inl v2), some (.inl v3)] [] M3 Q) ∧
          (¬ r3 = (0 : Int) →
            jCall d 157 [.inr (22, 0), .inl (jwr (v1 + 1)), .inl v2] M3 (fun _ M4 =>
              jWP d 157 83 [some (.inr (22, 0)), some (.inl v1), some (.inl v2), some (.inl v3)] [] M4 Q)))))) :
    jWP d 157 24 [some (.inr (22, 0)), some (.inl v1), some (.inl v2), some (.inl v3)] [] M Q :=
  jreg [(24, []), (83, [])] 85 (by decide) ckX5_place h
set_option maxRecDepth 100000 in
theorem fX5_place_83 {d : Nat} {v1 : Int} {v2 : Int} {v3 : Int} {M : jM} {Q : Int → jM → Prop} (h :
    jWP d 157 24 [some (.inr (22, 0)), some (.inl v1), some (.inl v2), some (.inl (jwr (v3 + 1)))] [] (jup M 22 0 6 (jiand (M 22 0 6) (jixor (jishl 1 v3) (-1)))) Q) :
    jWP d 157 83 [some (.inr (22, 0)), some (.inl v1), some (.inl v2), some (.inl v3)] [] M Q :=
  jreg [(24, []), (83, [])] 15 (by decide) ckX5_place h
set_option maxRecDepth 100000 in
theorem fX5_isHopeful_0 {d : Nat} {v1 : Int} {M : jM} {Q : Int → jM → Prop} (h :
    jCall d 181 [.inl (M 22 0 6)] M (fun r1 M1 =>
      (0 ≤ (M1 22 0 2) ∧ (M1 22 0 2) < 18) ∧ (0 ≤ (M1 22 0 3) ∧ (M1 22 0 3) < 18) ∧ jCall d 116 [.inr (20, 0), .inl (M1 22 0 6)] M1 (fun r2 M2 =>
        jCall d 159 [.inr (22, 0), .inl v1] M2 (fun r3 M3 =>
          ((M3 22 0 11) = (0 : Int) →
            ((M3 22 0 8) < (jwr (r2 + r3)) →
              ((1 : Int) = 0 ∨ (1 : Int) = 1) ∧ Q 1 M3) ∧
            ((jwr (r2 + r3)) ≤ (M3 22 0 8) →
              (¬ (jwr (r2 + r3)) = (M3 22 0 8) →
                ((0 : Int) = 0 ∨ (0 : Int) = 1) ∧ Q 0 M3) ∧
              ((jwr (r2 + r3)) = (M3 22 0 8) →
                ((jwr (r1 + (if (jwr ((M1 (M1 22 0 3) 0 0) - r1)) < (jwr ((M1 (M1 22 0 2) 0 0) - v1)) then (jwr ((M1 (M1 22 0 3) 0 0) - r1)) else (jwr ((M1 (M1 22 0 2) 0 0) - v1))))) ≤ (M3 22 0 9) →
                  ((0 : Int) = 0 ∨ (0 : Int) = 1) ∧ Q 0 M3) ∧
                ((M3 22 0 9) < (jwr (r1 + (if (jwr ((M1 (M1 22 0 3) 0 0) - r1)) < (jwr ((M1 (M1 22 0 2) 0 0) - v1)) then (jwr ((M1 (M1 22 0 3) 0 0) - r1)) else (jwr ((M1 (M1 22 0 2) 0 0) - v1))))) →
                  ((1 : Int) = 0 ∨ (1 : Int) = 1) ∧ Q 1 M3)))) ∧
          (¬ (M3 22 0 11) = (0 : Int) →
            ((M3 22 0 13) = (-1 : Int) →
              jWP d 158 76 [some (.inr (22, 0)), none, some (.inl (jwr (r1 + (if (jwr ((M1 (M1 22 0 3) 0 0) - r1)) < (jwr ((M1 (M1 22 0 2) 0 0) - v1)) then (jwr ((M1 (M1 22 0 3) 0 0) - r1)) else (jwr ((M1 (M1 22 0 2) 0 0) - v1)))))), some (.inl (jwr (r2 + r3)))] [] M3 Q) ∧
            (¬ (M3 22 0 13) = (-1 : Int) →
              ((M3 22 0 13) < (M3 22 0 12) →
                ((0 : Int) = 0 ∨ (0 : Int) = 1) ∧ Q 0 M3) ∧
              ((M3 22 0 12) ≤ (M3 22 0 13) →
                jWP d 158 76 [some (.inr (22, 0)), none, some (.inl (jwr (r1 + (if (jwr ((M1 (M1 22 0 3) 0 0) - r1)) < (jwr ((M1 (M1 22 0 2) 0 0) - v1)) then (jwr ((M1 (M1 22 0 3) 0 0) - r1)) else (jwr ((M1 (M1 22 0 2) 0 0) - v1)))))), some (.inl (jwr (r2 + r3)))] [] M3 Q))))))) :
    jWP d 158 0 [some (.inr (22, 0)), some (.inl v1), none, none] [] M Q :=
  jreg [(76, [1])] 68 (by decide) ckX5_isHopeful h
set_option maxRecDepth 100000 in
theorem fX5_isHopeful_76 {d : Nat} {v2 : Int} {v3 : Int} {M : jM} {Q : Int → jM → Prop} (h :
    (v3 < (M 22 0 8) →
      ((0 : Int) = 0 ∨ (0 : Int) = 1) ∧ Q 0 M) ∧
    ((M 22 0 8) ≤ v3 →
      (v2 < (M 22 0 9) →
        ((0 : Int) = 0 ∨ (0 : Int) = 1) ∧ Q 0 M) ∧
      ((M 22 0 9) ≤ v2 →
        ((1 : Int) = 0 ∨ (1 : Int) = 1) ∧ Q 1 M))) :
    jWP d 158 76 [some (.inr (22, 0)), none, some (.inl v2), some (.inl v3)] [] M Q :=
  jreg [(76, [1])] 17 (by decide) ckX5_isHopeful h
set_option maxRecDepth 100000 in
theorem fX5_sortHope_0 {d : Nat} {v1 : Int} {M : jM} {Q : Int → jM → Prop} (h :
    (¬ (M 22 0 4) = (0 : Int) →
      jWP d 159 21 [some (.inr (22, 0)), some (.inl v1), some (.inl 0), some (.inl (jixor (M 22 0 6) (-1))), some (.inl 0), none] [] M Q) ∧
    ((M 22 0 4) = (0 : Int) →
      Q 0 M)) :
    jWP d 159 0 [some (.inr (22, 0)), some (.inl v1), none, none, none, none] [] M Q :=
  jreg [(21, [5]), (98, [2])] 17 (by decide) ckX5_sortHope h
set_option maxRecDepth 100000 in
theorem fX5_sortHope_21 {d : Nat} {v1 : Int} {v2 : Int} {v3 : Int} {v4 : Int} {M : jM} {Q : Int → jM → Prop} (h :
    (0 ≤ (M 22 0 2) ∧ (M 22 0 2) < 18) ∧ ((M (M 22 0 2) 0 0) ≤ v4 →
      Q v2 M) ∧
    (v4 < (M (M 22 0 2) 0 0) →
      (v1 ≤ v4 →
        (0 ≤ v4 ∧ v4 < jal 22 6) ∧ ((jiand (M 22 6 v4) v3) = (0 : Int) →
          jWP d 159 98 [some (.inr (22, 0)), some (.inl v1), none, some (.inl v3), some (.inl v4), some (.inl (jiand (M 22 6 v4) v3))] [.inl 0, .inl v2] M Q) ∧
        (¬ (jiand (M 22 6 v4) v3) = (0 : Int) →
          jWP d 159 98 [some (.inr (22, 0)), some (.inl v1), none, some (.inl v3), some (.inl v4), some (.inl (jiand (M 22 6 v4) v3))] [.inl 1, .inl v2] M Q)) ∧
      (v4 < v1 →
        (0 ≤ v4 ∧ v4 < jal 20 6) ∧ ((M 20 6 v4) < (0 : Int) →
          jWP d 159 21 [some (.inr (22, 0)), some (.inl v1), some (.inl (jwr (v2 + 0))), some (.inl v3), some (.inl (jwr (v4 + 1))), none] [] M Q) ∧
        ((0 : Int) ≤ (M 20 6 v4) →
          (0 ≤ v4 ∧ v4 < jal 22 6) ∧ (0 ≤ v4 ∧ v4 < jal 20 6) ∧ jWP d 159 21 [some (.inr (22, 0)), some (.inl v1), some (.inl (jwr (v2 + (jiand (jishr (M 22 6 v4) (M 20 6 v4)) 1)))), some (.inl v3), some (.inl (jwr (v4 + 1))), none] [] M Q)))) :
    jWP d 159 21 [some (.inr (22, 0)), some (.inl v1), some (.inl v2), some (.inl v3), some (.inl v4), none] [] M Q :=
  jreg [(21, [5]), (98, [2])] 58 (by decide) ckX5_sortHope h
set_option maxRecDepth 100000 in
theorem fX5_sortHope_98 {d : Nat} {v1 : Int} {v3 : Int} {v4 : Int} {v5 : Int} {s0 : Int} {s1 : Int} {M : jM} {Q : Int → jM → Prop} (h :
    jWP d 159 21 [some (.inr (22, 0)), some (.inl v1), some (.inl (jwr (s1 + s0))), some (.inl (jiand v3 (jixor (jiand v5 (jwr (-v5))) (-1)))), some (.inl (jwr (v4 + 1))), none] [] M Q) :
    jWP d 159 98 [some (.inr (22, 0)), some (.inl v1), none, some (.inl v3), some (.inl v4), some (.inl v5)] [.inl s0, .inl s1] M Q :=
  jreg [(21, [5]), (98, [2])] 16 (by decide) ckX5_sortHope h
set_option maxRecDepth 100000 in
theorem fX5_arrive_0 {d : Nat}  {M : jM} {Q : Int → jM → Prop} (h :
    jCall d 115 [.inr (20, 0)] M (fun r1 M1 =>
      (0 ≤ (M1 22 0 2) ∧ (M1 22 0 2) < 18) ∧ jCall d 159 [.inr (22, 0), .inl (M1 (M1 22 0 2) 0 0)] M1 (fun r2 M2 =>
        jCall d 181 [.inl (M2 22 0 6)] M2 (fun r3 M3 =>
          ((M3 22 0 11) = (0 : Int) →
            ((M3 22 0 8) < (jwr (r1 + r2)) →
              jCall d 161 [.inr (22, 0)] (jup (jup M3 22 0 8 (jwr (r1 + r2))) 22 0 9 r3) (fun _ M4 =>
                Q 0 M4)) ∧
            ((jwr (r1 + r2)) ≤ (M3 22 0 8) →
              (¬ (jwr (r1 + r2)) = (M3 22 0 8) →
                Q 0 M3) ∧
              ((jwr (r1 + r2)) = (M3 22 0 8) →
                (r3 ≤ (M3 22 0 9) →
                  Q 0 M3) ∧
                ((M3 22 0 9) < r3 →
                  jCall d 161 [.inr (22, 0)] (jup (jup M3 22 0 8 (jwr (r1 + r2))) 22 0 9 r3) (fun _ M5 =>
                    Q 0 M5))))) ∧
          (¬ (M3 22 0 11) = (0 : Int) →
            (¬ (jwr (r1 + r2)) = (M3 22 0 8) →
              Q 0 M3) ∧
            ((jwr (r1 + r2)) = (M3 22 0 8) →
              (¬ r3 = (M3 22 0 9) →
                Q 0 M3) ∧
              (r3 = (M3 22 0 9) →
                ((M3 22 0 13) = (-1 : Int) →
                  jCall d 161 [.inr (22, 0)] (jup M3 22 0 12 (jwr ((M3 22 0 12) + 1))) (fun _ M6 =>
                    Q 0 M6)) ∧
                (¬ (M3 22 0 13) = (-1 : Int) →
                  ((M3 22 0 13) < (M3 22 0 12) →
                    Q 0 M3) ∧
                  ((M3 22 0 12) ≤ (M3 22 0 13) →
                    jCall d 161 [.inr (22, 0)] (jup M3 22 0 12 (jwr ((M3 22 0 12) + 1))) (fun _ M7 =>
                      Q 0 M7)))))))))) :
    jWP d 160 0 [some (.inr (22, 0)), none, none] [] M Q :=
  jreg [] 91 (by decide) ckX5_arrive h
set_option maxRecDepth 100000 in
theorem fX5_keepPartners_0 {d : Nat}  {M : jM} {Q : Int → jM → Prop} (h :
    (0 ≤ (0 : Int) ∧ 0 ≤ (0 : Int) ∧ 0 < (6 : Int) ∧ 0 + 6 ≤ jal 20 6 ∧ 0 + 6 ≤ jal 22 11) ∧ Q 0 (jcp M 20 6 0 22 11 0 6)) :
    jWP d 161 0 [some (.inr (22, 0))] [] M Q :=
  jreg [] 11 (by decide) ckX5_keepPartners h
set_option maxRecDepth 100000 in
theorem fX6_likest_0 {d : Nat} {v1 : Int} {v2 : Int} {M : jM} {Q : Int → jM → Prop} (h :
    jWP d 162 2 [some (.inr (27, 0)), some (.inl v1), some (.inl v2), some (.inl 0), none, none, none] [] M Q) :
    jWP d 162 0 [some (.inr (27, 0)), some (.inl v1), some (.inl v2), none, none, none, none] [] M Q :=
  jreg [(2, [4, 5, 6]), (30, [4, 5, 6]), (83, [5, 6]), (139, [6])] 5 (by decide) ckX6_likest h
set_option maxRecDepth 100000 in
theorem fX6_likest_2 {d : Nat} {v1 : Int} {v2 : Int} {v3 : Int} {M : jM} {Q : Int → jM → Prop} (h :
    ((12 : Int) ≤ v3 →
      jWP d 162 83 [some (.inr (27, 0)), some (.inl v1), some (.inl v2), some (.inl (-1)), some (.inl 0), none, none] [] (jup (jup M 27 0 3 0) 27 0 4 (-1)) Q) ∧
    (v3 < (12 : Int) →
      (v3 = v1 →
        jWP d 162 30 [some (.inr (27, 0)), some (.inl v1), some (.inl v2), some (.inl v3), none, none, none] [.inl 0] M Q) ∧
      (¬ v3 = v1 →
        (0 ≤ v3 ∧ v3 < 12) ∧ (0 ≤ v3 ∧ v3 < 18) ∧ ((M v3 0 1) ≤ (0 : Int) →
          jWP d 162 30 [some (.inr (27, 0)), some (.inl v1), some (.inl v2), some (.inl v3), none, none, none] [.inl 0] M Q) ∧
        ((0 : Int) < (M v3 0 1) →
          jWP d 162 30 [some (.inr (27, 0)), some (.inl v1), some (.inl v2), some (.inl v3), none, none, none] [.inl 1] M Q)))) :
    jWP d 162 2 [some (.inr (27, 0)), some (.inl v1), some (.inl v2), some (.inl v3), none, none, none] [] M Q :=
  jreg [(2, [4, 5, 6]), (30, [4, 5, 6]), (83, [5, 6]), (139, [6])] 32 (by decide) ckX6_likest h
set_option maxRecDepth 100000 in
theorem fX6_likest_30 {d : Nat} {v1 : Int} {v2 : Int} {v3 : Int} {s0 : Int} {M : jM} {Q : Int → jM → Prop} (h :
    (s0 = (0 : Int) →
      (0 ≤ v3 ∧ v3 < jal 27 3) ∧ jWP d 162 2 [some (.inr (27, 0)), some (.inl v1), some (.inl v2), some (.inl (jwr (v3 + 1))), none, none, none] [] (jup M 27 3 v3 (-1)) Q) ∧
    (¬ s0 = (0 : Int) →
      (0 ≤ v1 ∧ v1 < 12) ∧ (0 ≤ v3 ∧ v3 < 12) ∧ jCall d 164 [.inr (v1, 0), .inr (v3, 0)] M (fun r1 M1 =>
        (0 ≤ v3 ∧ v3 < jal 27 3) ∧ jWP d 162 2 [some (.inr (27, 0)), some (.inl v1), some (.inl v2), some (.inl (jwr (v3 + 1))), none, none, none] [] (jup M1 27 3 v3 r1) Q))) :
    jWP d 162 30 [some (.inr (27, 0)), some (.inl v1), some (.inl v2), some (.inl v3), none, none, none] [.inl s0] M Q :=
  jreg [(2, [4, 5, 6]), (30, [4, 5, 6]), (83, [5, 6]), (139, [6])] 27 (by decide) ckX6_likest h
set_option maxRecDepth 100000 in
theorem fX6_likest_83 {d : Nat} {v1 : Int} {v2 : Int} {v3 : Int} {v4 : Int} {M : jM} {Q : Int → jM → Prop} (h :
    ((12 : Int) ≤ v4 →
      Q v3 M) ∧
    (v4 < (12 : Int) →
      jCall d 163 [.inr (27, 0)] M (fun r1 M1 =>
        (r1 = (-1 : Int) →
          Q v3 M1) ∧
        (¬ r1 = (-1 : Int) →
          (0 ≤ r1 ∧ r1 < jal 27 3) ∧ ((M1 27 3 r1) < (M1 27 0 4) →
            Q v3 M1) ∧
          ((M1 27 0 4) ≤ (M1 27 3 r1) →
            (0 ≤ r1 ∧ r1 < jal 27 3) ∧ (¬ (M1 27 3 r1) = (M1 27 0 4) →
              jWP d 162 139 [some (.inr (27, 0)), some (.inl v1), some (.inl v2), some (.inl v3), some (.inl v4), some (.inl r1), none] [] M1 Q) ∧
            ((M1 27 3 r1) = (M1 27 0 4) →
              (r1 ≤ v3 →
                jWP d 162 139 [some (.inr (27, 0)), some (.inl v1), some (.inl v2), some (.inl v3), some (.inl v4), some (.inl r1), none] [] M1 Q) ∧
              (v3 < r1 →
                Q v3 M1))))))) :
    jWP d 162 83 [some (.inr (27, 0)), some (.inl v1), some (.inl v2), some (.inl v3), some (.inl v4), none, none] [] M Q :=
  jreg [(2, [4, 5, 6]), (30, [4, 5, 6]), (83, [5, 6]), (139, [6])] 39 (by decide) ckX6_likest h
set_option maxRecDepth 100000 in
theorem fX6_likest_139 {d : Nat} {v1 : Int} {v2 : Int} {v3 : Int} {v4 : Int} {v5 : Int} {M : jM} {Q : Int → jM → Prop} (h :
    (0 ≤ v5 ∧ v5 < jal 27 3) ∧ (0 ≤ v1 ∧ v1 < 12) ∧ (0 ≤ v5 ∧ v5 < 12) ∧ jCall d 150 [.inr (22, 0), .inr (v1, 0), .inr (v5, 0), .inl 0, .inl v2] (jup (jup M 27 3 v5 (-1)) 27 0 3 (jwr (((jup M 27 3 v5 (-1)) 27 0 3) + 1))) (fun r1 M1 =>
      ((M1 27 0 4) < r1 →
        jWP d 162 83 [some (.inr (27, 0)), some (.inl v1), some (.inl v2), some (.inl v5), some (.inl (jwr (v4 + 1))), none, none] [] (jup M1 27 0 4 r1) Q) ∧
      (r1 ≤ (M1 27 0 4) →
        (¬ r1 = (M1 27 0 4) →
          jWP d 162 83 [some (.inr (27, 0)), some (.inl v1), some (.inl v2), some (.inl v3), some (.inl (jwr (v4 + 1))), none, none] [] M1 Q) ∧
        (r1 = (M1 27 0 4) →
          (v3 ≤ v5 →
            jWP d 162 83 [some (.inr (27, 0)), some (.inl v1), some (.inl v2), some (.inl v3), some (.inl (jwr (v4 + 1))), none, none] [] M1 Q) ∧
          (v5 < v3 →
            jWP d 162 83 [some (.inr (27, 0)), some (.inl v1), some (.inl v2), some (.inl v5), some (.inl (jwr (v4 + 1))), none, none] [] (jup M1 27 0 4 r1) Q))))) :
    jWP d 162 139 [some (.inr (27, 0)), some (.inl v1), some (.inl v2), some (.inl v3), some (.inl v4), some (.inl v5), none] [] M Q :=
  jreg [(2, [4, 5, 6]), (30, [4, 5, 6]), (83, [5, 6]), (139, [6])] 60 (by decide) ckX6_likest h
set_option maxRecDepth 100000 in
theorem fX6_greatestBound_0 {d : Nat}  {M : jM} {Q : Int → jM → Prop} (h :
    jWP d 163 4 [some (.inr (27, 0)), some (.inl (-1)), some (.inl 0)] [] M Q) :
    jWP d 163 0 [some (.inr (27, 0)), none, none] [] M Q :=
  jreg [(4, [])] 7 (by decide) ckX6_greatestBound h
set_option maxRecDepth 100000 in
theorem fX6_greatestBound_4 {d : Nat} {v1 : Int} {v2 : Int} {M : jM} {Q : Int → jM → Prop} (h :
    ((12 : Int) ≤ v2 →
      Q v1 M) ∧
    (v2 < (12 : Int) →
      (0 ≤ v2 ∧ v2 < jal 27 3) ∧ ((M 27 3 v2) = (-1 : Int) →
        jWP d 163 4 [some (.inr (27, 0)), some (.inl v1), some (.inl (jwr (v2 + 1)))] [] M Q) ∧
      (¬ (M 27 3 v2) = (-1 : Int) →
        (v1 = (-1 : Int) →
          jWP d 163 4 [some (.inr (27, 0)), some (.inl v2), some (.inl (jwr (v2 + 1)))] [] M Q) ∧
        (¬ v1 = (-1 : Int) →
          (0 ≤ v2 ∧ v2 < jal 27 3) ∧ (0 ≤ v1 ∧ v1 < jal 27 3) ∧ ((M 27 3 v2) ≤ (M 27 3 v1) →
            jWP d 163 4 [some (.inr (27, 0)), some (.inl v1), some (.inl (jwr (v2 + 1)))] [] M Q) ∧
          ((M 27 3 v1) < (M 27 3 v2) →
            jWP d 163 4 [some (.inr (27, 0)), some (.inl v2), some (.inl (jwr (v2 + 1)))] [] M Q))))) :
    jWP d 163 4 [some (.inr (27, 0)), some (.inl v1), some (.inl v2)] [] M Q :=
  jreg [(4, [])] 41 (by decide) ckX6_greatestBound h
set_option maxRecDepth 100000 in
theorem fX6_boundOf_0 {d : Nat} {g0 : Int} {g1 : Int} {M : jM} {Q : Int → jM → Prop} (h :
    jWP d 164 4 [some (.inr (g0, 0)), some (.inr (g1, 0)), some (.inl 0), some (.inl 0), none, none] [] M Q) :
    jWP d 164 0 [some (.inr (g0, 0)), some (.inr (g1, 0)), none, none, none, none] [] M Q :=
  jreg [(4, [4, 5]), (16, []), (96, [4, 5])] 7 (by decide) ckX6_boundOf h
set_option maxRecDepth 100000 in
theorem fX6_boundOf_4 {d : Nat} {g0 : Int} {g1 : Int} {v2 : Int} {v3 : Int} {M : jM} {Q : Int → jM → Prop} (h :
    ((16 : Int) ≤ v3 →
      jWP d 164 96 [some (.inr (g0, 0)), some (.inr (g1, 0)), some (.inl v2), some (.inl 0), none, none] [] M Q) ∧
    (v3 < (16 : Int) →
      jWP d 164 16 [some (.inr (g0, 0)), some (.inr (g1, 0)), some (.inl v2), some (.inl v3), some (.inl 0), some (.inl 0)] [] M Q)) :
    jWP d 164 4 [some (.inr (g0, 0)), some (.inr (g1, 0)), some (.inl v2), some (.inl v3), none, none] [] M Q :=
  jreg [(4, [4, 5]), (16, []), (96, [4, 5])] 13 (by decide) ckX6_boundOf h
set_option maxRecDepth 100000 in
theorem fX6_boundOf_16 {d : Nat} {g0 : Int} {g1 : Int} {v2 : Int} {v3 : Int} {v4 : Int} {v5 : Int} {M : jM} {Q : Int → jM → Prop} (h :
    (0 ≤ g0 ∧ g0 < 18) ∧ ((M g0 0 1) ≤ v5 →
      (v4 ≤ (0 : Int) →
        jWP d 164 4 [some (.inr (g0, 0)), some (.inr (g1, 0)), some (.inl v2), some (.inl (jwr (v3 + 1))), none, none] [] M Q) ∧
      ((0 : Int) < v4 →
        (0 ≤ g0 ∧ g0 < 18) ∧ jCall d 148 [.inr (g0, 0), .inl v3] M (fun r1 M1 =>
          (0 ≤ g1 ∧ g1 < 18) ∧ jCall d 148 [.inr (g1, 0), .inl v3] M1 (fun r2 M2 =>
            jWP d 164 4 [some (.inr (g0, 0)), some (.inr (g1, 0)), some (.inl (jwr (v2 + (jwr ((jwr ((if r2 < r1 then r2 else r1) * 6)) * v4))))), some (.inl (jwr (v3 + 1))), none, none] [] M2 Q)))) ∧
    (v5 < (M g0 0 1) →
      (0 ≤ g0 ∧ g0 < 18) ∧ (0 ≤ v5 ∧ v5 < jal g0 5) ∧ (¬ (M g0 5 v5) = v3 →
        jWP d 164 16 [some (.inr (g0, 0)), some (.inr (g1, 0)), some (.inl v2), some (.inl v3), some (.inl v4), some (.inl (jwr (v5 + 1)))] [] M Q) ∧
      ((M g0 5 v5) = v3 →
        (0 ≤ g0 ∧ g0 < 18) ∧ (0 ≤ v5 ∧ v5 < jal g0 8) ∧ jWP d 164 16 [some (.inr (g0, 0)), some (.inr (g1, 0)), some (.inl v2), some (.inl v3), some (.inl (if v4 < (M g0 8 v5) then (M g0 8 v5) else v4)), some (.inl (jwr (v5 + 1)))] [] M Q))) :
    jWP d 164 16 [some (.inr (g0, 0)), some (.inr (g1, 0)), some (.inl v2), some (.inl v3), some (.inl v4), some (.inl v5)] [] M Q :=
  jreg [(4, [4, 5]), (16, []), (96, [4, 5])] 50 (by decide) ckX6_boundOf h
set_option maxRecDepth 100000 in
theorem fX6_boundOf_96 {d : Nat} {g0 : Int} {g1 : Int} {v2 : Int} {v3 : Int} {M : jM} {Q : Int → jM → Prop} (h :
    ((10 : Int) ≤ v3 →
      Q v2 M) ∧
    (v3 < (10 : Int) →
      jCall d 165 [.inr (g0, 0), .inl v3] M (fun r1 M1 =>
        jCall d 165 [.inr (g1, 0), .inl v3] M1 (fun r2 M2 =>
          jWP d 164 96 [some (.inr (g0, 0)), some (.inr (g1, 0)), some (.inl (jwr (v2 + (if r2 < r1 then r2 else r1)))), some (.inl (jwr (v3 + 1))), none, none] [] M2 Q)))) :
    jWP d 164 96 [some (.inr (g0, 0)), some (.inr (g1, 0)), some (.inl v2), some (.inl v3), none, none] [] M Q :=
  jreg [(4, [4, 5]), (16, []), (96, [4, 5])] 20 (by decide) ckX6_boundOf h
set_option maxRecDepth 100000 in
theorem fX6_countOfSort_0 {d : Nat} {g0 : Int} {v1 : Int} {M : jM} {Q : Int → jM → Prop} (h :
    jWP d 165 4 [some (.inr (g0, 0)), some (.inl v1), some (.inl 0), some (.inl 0)] [] M Q) :
    jWP d 165 0 [some (.inr (g0, 0)), some (.inl v1), none, none] [] M Q :=
  jreg [(4, [])] 7 (by decide) ckX6_countOfSort h
set_option maxRecDepth 100000 in
theorem fX6_countOfSort_4 {d : Nat} {g0 : Int} {v1 : Int} {v2 : Int} {v3 : Int} {M : jM} {Q : Int → jM → Prop} (h :
    (0 ≤ g0 ∧ g0 < 18) ∧ ((M g0 0 0) ≤ v3 →
      Q v2 M) ∧
    (v3 < (M g0 0 0) →
      (0 ≤ g0 ∧ g0 < 18) ∧ (0 ≤ v3 ∧ v3 < jal g0 4) ∧ (¬ (M g0 4 v3) = v1 →
        jWP d 165 4 [some (.inr (g0, 0)), some (.inl v1), some (.inl (jwr (v2 + 0))), some (.inl (jwr (v3 + 1)))] [] M Q) ∧
      ((M g0 4 v3) = v1 →
        jWP d 165 4 [some (.inr (g0, 0)), some (.inl v1), some (.inl (jwr (v2 + 1))), some (.inl (jwr (v3 + 1)))] [] M Q))) :
    jWP d 165 4 [some (.inr (g0, 0)), some (.inl v1), some (.inl v2), some (.inl v3)] [] M Q :=
  jreg [(4, [])] 28 (by decide) ckX6_countOfSort h
set_option maxRecDepth 100000 in
theorem fX7_take_0 {d : Nat} {g1 : Int} {g2 : Int} {v3 : Int} {M : jM} {Q : Int → jM → Prop} (h :
    (0 ≤ g1 ∧ g1 < 18) ∧ (0 ≤ g2 ∧ g2 < 18) ∧ (v3 = (0 : Int) →
      ((0 : Int) = 0 ∨ (0 : Int) = 1) ∧ jWP d 166 53 [some (.inr (21, 0)), none, none, none, some (.inl 0), none] [] (jup (jup (jup (jup M 21 0 0 g1) 21 0 1 g2) 21 0 2 0) 21 0 5 0) Q) ∧
    (¬ v3 = (0 : Int) →
      (0 ≤ ((jup (jup M 21 0 0 g1) 21 0 1 g2) 21 0 0) ∧ ((jup (jup M 21 0 0 g1) 21 0 1 g2) 21 0 0) < 18) ∧ jCall d 149 [.inr (((jup (jup M 21 0 0 g1) 21 0 1 g2) 21 0 0), 0)] (jup (jup M 21 0 0 g1) 21 0 1 g2) (fun r1 M1 =>
        (r1 ≤ (1 : Int) →
          ((0 : Int) = 0 ∨ (0 : Int) = 1) ∧ jWP d 166 53 [some (.inr (21, 0)), none, none, none, some (.inl 0), none] [] (jup (jup M1 21 0 2 0) 21 0 5 0) Q) ∧
        ((1 : Int) < r1 →
          (0 ≤ (M1 21 0 1) ∧ (M1 21 0 1) < 18) ∧ jCall d 149 [.inr ((M1 21 0 1), 0)] M1 (fun r2 M2 =>
            (r2 ≤ (1 : Int) →
              ((0 : Int) = 0 ∨ (0 : Int) = 1) ∧ jWP d 166 53 [some (.inr (21, 0)), none, none, none, some (.inl 0), none] [] (jup (jup M2 21 0 2 0) 21 0 5 0) Q) ∧
            ((1 : Int) < r2 →
              ((1 : Int) = 0 ∨ (1 : Int) = 1) ∧ jWP d 166 53 [some (.inr (21, 0)), none, none, none, some (.inl 0), none] [] (jup (jup M2 21 0 2 1) 21 0 5 0) Q)))))) :
    jWP d 166 0 [some (.inr (21, 0)), some (.inr (g1, 0)), some (.inr (g2, 0)), some (.inl v3), none, none] [] M Q :=
  jreg [(53, [1, 2, 3, 5]), (82, [1, 2, 3])] 54 (by decide) ckX7_take h
set_option maxRecDepth 100000 in
theorem fX7_take_53 {d : Nat} {v4 : Int} {M : jM} {Q : Int → jM → Prop} (h :
    ((10 : Int) ≤ v4 →
      Q 0 M) ∧
    (v4 < (10 : Int) →
      (0 ≤ v4 ∧ v4 < jal 21 5) ∧ (0 ≤ v4 ∧ v4 < jal 21 4) ∧ jWP d 166 82 [some (.inr (21, 0)), none, none, none, some (.inl v4), some (.inl 0)] [] (jup (jup M 21 5 v4 (M 21 0 5)) 21 4 v4 0) Q)) :
    jWP d 166 53 [some (.inr (21, 0)), none, none, none, some (.inl v4), none] [] M Q :=
  jreg [(53, [1, 2, 3, 5]), (82, [1, 2, 3])] 20 (by decide) ckX7_take h
set_option maxRecDepth 100000 in
theorem fX7_take_82 {d : Nat} {v4 : Int} {v5 : Int} {M : jM} {Q : Int → jM → Prop} (h :
    (0 ≤ (M 21 0 1) ∧ (M 21 0 1) < 18) ∧ ((M (M 21 0 1) 0 1) ≤ v5 →
      (0 ≤ v4 ∧ v4 < jal 21 4) ∧ jWP d 166 53 [some (.inr (21, 0)), none, none, none, some (.inl (jwr (v4 + 1))), none] [] (jup M 21 0 5 (jior (M 21 0 5) (M 21 4 v4))) Q) ∧
    (v5 < (M (M 21 0 1) 0 1) →
      (0 ≤ v4 ∧ v4 < jal 21 4) ∧ (0 ≤ (M 21 0 1) ∧ (M 21 0 1) < 18) ∧ (0 ≤ v5 ∧ v5 < jal (M 21 0 1) 7) ∧ (¬ (M (M 21 0 1) 7 v5) = v4 →
        (0 ≤ v4 ∧ v4 < jal 21 4) ∧ jWP d 166 82 [some (.inr (21, 0)), none, none, none, some (.inl v4), some (.inl (jwr (v5 + 1)))] [] (jup M 21 4 v4 (jior (M 21 4 v4) 0)) Q) ∧
      ((M (M 21 0 1) 7 v5) = v4 →
        (0 ≤ v4 ∧ v4 < jal 21 4) ∧ jWP d 166 82 [some (.inr (21, 0)), none, none, none, some (.inl v4), some (.inl (jwr (v5 + 1)))] [] (jup M 21 4 v4 (jior (M 21 4 v4) (jishl 1 v5))) Q))) :
    jWP d 166 82 [some (.inr (21, 0)), none, none, none, some (.inl v4), some (.inl v5)] [] M Q :=
  jreg [(53, [1, 2, 3, 5]), (82, [1, 2, 3])] 46 (by decide) ckX7_take h
set_option maxRecDepth 100000 in
theorem fX7_inStep_0 {d : Nat} {v1 : Int} {v2 : Int} {M : jM} {Q : Int → jM → Prop} (h :
    jWP d 167 6 [some (.inr (21, 0)), some (.inl v1), none, some (.inr (20, 7)), some (.inl v2), some (.inl 0)] [] M Q) :
    jWP d 167 0 [some (.inr (21, 0)), some (.inl v1), some (.inl v2), some (.inr (20, 7)), none, none] [] M Q :=
  jreg [(6, [2])] 7 (by decide) ckX7_inStep h
set_option maxRecDepth 100000 in
theorem fX7_inStep_6 {d : Nat} {v1 : Int} {v4 : Int} {v5 : Int} {M : jM} {Q : Int → jM → Prop} (h :
    (v1 ≤ v5 →
      Q v4 M) ∧
    (v5 < v1 →
      0 < jal 20 7 ∧ ((jal 20 7) ≤ v5 →
        Q v4 M) ∧
      (v5 < (jal 20 7) →
        (v4 = (0 : Int) →
          Q v4 M) ∧
        (¬ v4 = (0 : Int) →
          (0 ≤ v5 ∧ v5 < jal 20 7) ∧ ((M 20 7 v5) = (-1 : Int) →
            jWP d 167 6 [some (.inr (21, 0)), some (.inl v1), none, some (.inr (20, 7)), some (.inl v4), some (.inl (jwr (v5 + 1)))] [] M Q) ∧
          (¬ (M 20 7 v5) = (-1 : Int) →
            (0 ≤ v5 ∧ v5 < jal 20 7) ∧ jCall d 168 [.inr (21, 0), .inl v1, .inl v5, .inl (M 20 7 v5)] M (fun r1 M1 =>
              jWP d 167 6 [some (.inr (21, 0)), some (.inl v1), none, some (.inr (20, 7)), some (.inl (jiand v4 (jixor r1 (-1)))), some (.inl (jwr (v5 + 1)))] [] M1 Q)))))) :
    jWP d 167 6 [some (.inr (21, 0)), some (.inl v1), none, some (.inr (20, 7)), some (.inl v4), some (.inl v5)] [] M Q :=
  jreg [(6, [2])] 40 (by decide) ckX7_inStep h
set_option maxRecDepth 100000 in
theorem fX7_outOfStep_0 {d : Nat} {v1 : Int} {v2 : Int} {v3 : Int} {M : jM} {Q : Int → jM → Prop} (h :
    (0 ≤ (M 21 0 0) ∧ (M 21 0 0) < 18) ∧ (0 ≤ v1 ∧ v1 < jal (M 21 0 0) 7) ∧ (0 ≤ (M 21 0 0) ∧ (M 21 0 0) < 18) ∧ (0 ≤ v2 ∧ v2 < jal (M 21 0 0) 7) ∧ (0 ≤ (M 21 0 1) ∧ (M 21 0 1) < 18) ∧ (0 ≤ v3 ∧ v3 < jal (M 21 0 1) 7) ∧ ((M (M 21 0 0) 7 v1) = (-1 : Int) →
      Q 0 M) ∧
    (¬ (M (M 21 0 0) 7 v1) = (-1 : Int) →
      ((M (M 21 0 0) 7 v2) = (-1 : Int) →
        Q 0 M) ∧
      (¬ (M (M 21 0 0) 7 v2) = (-1 : Int) →
        (¬ (M (M 21 0 1) 7 v3) = (-1 : Int) →
          (¬ (M (M 21 0 0) 7 v1) = (M (M 21 0 0) 7 v2) →
            ((M (M 21 0 0) 7 v1) ≤ (M (M 21 0 0) 7 v2) →
              jWP d 168 87 [some (.inr (21, 0)), none, none, none, none, none, some (.inl (M (M 21 0 1) 7 v3)), none] [.inl 0] M Q) ∧
            ((M (M 21 0 0) 7 v2) < (M (M 21 0 0) 7 v1) →
              jWP d 168 87 [some (.inr (21, 0)), none, none, none, none, none, some (.inl (M (M 21 0 1) 7 v3)), none] [.inl 1] M Q)) ∧
          ((M (M 21 0 0) 7 v1) = (M (M 21 0 0) 7 v2) →
            (0 ≤ (M (M 21 0 1) 7 v3) ∧ (M (M 21 0 1) 7 v3) < jal 21 4) ∧ Q (jiand (M 21 0 5) (jixor (M 21 4 (M (M 21 0 1) 7 v3)) (-1))) M)) ∧
        ((M (M 21 0 1) 7 v3) = (-1 : Int) →
          Q 0 M)))) :
    jWP d 168 0 [some (.inr (21, 0)), some (.inl v1), some (.inl v2), some (.inl v3), none, none, none, none] [] M Q :=
  jreg [(87, [1, 2, 3, 4, 5, 7])] 56 (by decide) ckX7_outOfStep h
set_option maxRecDepth 100000 in
theorem fX7_outOfStep_87 {d : Nat} {v6 : Int} {s0 : Int} {M : jM} {Q : Int → jM → Prop} (h :
    (s0 = (0 : Int) →
      (0 ≤ v6 ∧ v6 < jal 21 5) ∧ Q (jiand (M 21 0 5) (jixor (M 21 5 v6) (-1))) M) ∧
    (¬ s0 = (0 : Int) →
      (0 ≤ v6 ∧ v6 < jal 21 5) ∧ (0 ≤ v6 ∧ v6 < jal 21 4) ∧ Q (jior (M 21 5 v6) (M 21 4 v6)) M)) :
    jWP d 168 87 [some (.inr (21, 0)), none, none, none, none, none, some (.inl v6), none] [.inl s0] M Q :=
  jreg [(87, [1, 2, 3, 4, 5, 7])] 26 (by decide) ckX7_outOfStep h
set_option maxRecDepth 100000 in
theorem fX7_isOrdered_0 {d : Nat} {v1 : Int} {v2 : Int} {M : jM} {Q : Int → jM → Prop} (h :
    (0 ≤ (M 21 0 0) ∧ (M 21 0 0) < 18) ∧ (0 ≤ v1 ∧ v1 < jal (M 21 0 0) 7) ∧ ((M (M 21 0 0) 7 v1) = (-1 : Int) →
      ((0 : Int) = 0 ∨ (0 : Int) = 1) ∧ Q 0 M) ∧
    (¬ (M (M 21 0 0) 7 v1) = (-1 : Int) →
      (¬ (jiand v2 (jixor (M 21 0 5) (-1))) = (0 : Int) →
        ((0 : Int) = 0 ∨ (0 : Int) = 1) ∧ Q 0 M) ∧
      ((jiand v2 (jixor (M 21 0 5) (-1))) = (0 : Int) →
        ((1 : Int) = 0 ∨ (1 : Int) = 1) ∧ Q 1 M))) :
    jWP d 169 0 [some (.inr (21, 0)), some (.inl v1), some (.inl v2)] [] M Q :=
  jreg [] 23 (by decide) ckX7_isOrdered h
set_option maxRecDepth 100000 in
theorem fX7_add_0 {d : Nat} {v1 : Int} {v2 : Int} {v3 : Int} {M : jM} {Q : Int → jM → Prop} (h :
    (0 ≤ (M 21 0 0) ∧ (M 21 0 0) < 18) ∧ (0 ≤ v1 ∧ v1 < jal (M 21 0 0) 7) ∧ ((M (M 21 0 0) 7 v1) = (-1 : Int) →
      Q 0 M) ∧
    (¬ (M (M 21 0 0) 7 v1) = (-1 : Int) →
      (0 ≤ (jwr ((jwr ((M (M 21 0 0) 7 v1) * 10)) + v2)) ∧ (jwr ((jwr ((M (M 21 0 0) 7 v1) * 10)) + v2)) < jal 21 7) ∧ (0 ≤ (jwr ((jwr ((M (M 21 0 0) 7 v1) * 10)) + v2)) ∧ (jwr ((jwr ((M (M 21 0 0) 7 v1) * 10)) + v2)) < jal 21 7) ∧ Q 0 (jup M 21 7 (jwr ((jwr ((M (M 21 0 0) 7 v1) * 10)) + v2)) (jwr ((M 21 7 (jwr ((jwr ((M (M 21 0 0) 7 v1) * 10)) + v2))) + v3))))) :
    jWP d 170 0 [some (.inr (21, 0)), some (.inl v1), some (.inl v2), some (.inl v3), none] [] M Q :=
  jreg [] 25 (by decide) ckX7_add h
set_option maxRecDepth 100000 in
theorem fX7_heaviestOrder_0 {d : Nat}  {M : jM} {Q : Int → jM → Prop} (h :
    jWP d 171 2 [some (.inr (21, 0)), some (.inl 0), none, none] [] M Q) :
    jWP d 171 0 [some (.inr (21, 0)), none, none, none] [] M Q :=
  jreg [(2, [2, 3]), (23, [2, 3]), (32, [3]), (52, [3]), (101, [3])] 5 (by decide) ckX7_heaviestOrder h
set_option maxRecDepth 100000 in
theorem fX7_heaviestOrder_2 {d : Nat} {v1 : Int} {M : jM} {Q : Int → jM → Prop} (h :
    ((10 : Int) ≤ v1 →
      jWP d 171 23 [some (.inr (21, 0)), some (.inl 0), none, none] [] M Q) ∧
    (v1 < (10 : Int) →
      (0 ≤ v1 ∧ v1 < jal 21 8) ∧ jWP d 171 2 [some (.inr (21, 0)), some (.inl (jwr (v1 + 1))), none, none] [] (jup M 21 8 v1 0) Q)) :
    jWP d 171 2 [some (.inr (21, 0)), some (.inl v1), none, none] [] M Q :=
  jreg [(2, [2, 3]), (23, [2, 3]), (32, [3]), (52, [3]), (101, [3])] 16 (by decide) ckX7_heaviestOrder h
set_option maxRecDepth 100000 in
theorem fX7_heaviestOrder_23 {d : Nat} {v1 : Int} {M : jM} {Q : Int → jM → Prop} (h :
    ((10 : Int) ≤ v1 →
      (0 ≤ (9 : Int) ∧ (9 : Int) < jal 21 8) ∧ Q (M 21 8 9) M) ∧
    (v1 < (10 : Int) →
      jWP d 171 32 [some (.inr (21, 0)), some (.inl v1), some (.inl 9), none] [] M Q)) :
    jWP d 171 23 [some (.inr (21, 0)), some (.inl v1), none, none] [] M Q :=
  jreg [(2, [2, 3]), (23, [2, 3]), (32, [3]), (52, [3]), (101, [3])] 13 (by decide) ckX7_heaviestOrder h
set_option maxRecDepth 100000 in
theorem fX7_heaviestOrder_32 {d : Nat} {v1 : Int} {v2 : Int} {M : jM} {Q : Int → jM → Prop} (h :
    (v2 < (0 : Int) →
      jWP d 171 101 [some (.inr (21, 0)), some (.inl v1), some (.inl 1), none] [] M Q) ∧
    ((0 : Int) ≤ v2 →
      (v2 ≤ (0 : Int) →
        jWP d 171 52 [some (.inr (21, 0)), some (.inl v1), some (.inl v2), none] [.inl 0] M Q) ∧
      ((0 : Int) < v2 →
        (0 ≤ (jwr (v2 - 1)) ∧ (jwr (v2 - 1)) < jal 21 8) ∧ jWP d 171 52 [some (.inr (21, 0)), some (.inl v1), some (.inl v2), none] [.inl (M 21 8 (jwr (v2 - 1)))] M Q))) :
    jWP d 171 32 [some (.inr (21, 0)), some (.inl v1), some (.inl v2), none] [] M Q :=
  jreg [(2, [2, 3]), (23, [2, 3]), (32, [3]), (52, [3]), (101, [3])] 19 (by decide) ckX7_heaviestOrder h
set_option maxRecDepth 100000 in
theorem fX7_heaviestOrder_52 {d : Nat} {v1 : Int} {v2 : Int} {s0 : Int} {M : jM} {Q : Int → jM → Prop} (h :
    (0 ≤ v2 ∧ v2 < jal 21 8) ∧ (0 ≤ (jwr ((jwr (v1 * 10)) + v2)) ∧ (jwr ((jwr (v1 * 10)) + v2)) < jal 21 7) ∧ (0 ≤ v2 ∧ v2 < jal 21 8) ∧ (0 ≤ (jwr ((jwr (v1 * 10)) + v2)) ∧ (jwr ((jwr (v1 * 10)) + v2)) < jal 21 7) ∧ jWP d 171 32 [some (.inr (21, 0)), some (.inl v1), some (.inl (jwr (v2 + (-1)))), none] [] (jup (jup M 21 8 v2 (if (M 21 8 v2) < (jwr (s0 + (M 21 7 (jwr ((jwr (v1 * 10)) + v2))))) then (jwr (s0 + (M 21 7 (jwr ((jwr (v1 * 10)) + v2))))) else (M 21 8 v2))) 21 7 (jwr ((jwr (v1 * 10)) + v2)) 0) Q) :
    jWP d 171 52 [some (.inr (21, 0)), some (.inl v1), some (.inl v2), none] [.inl s0] M Q :=
  jreg [(2, [2, 3]), (23, [2, 3]), (32, [3]), (52, [3]), (101, [3])] 34 (by decide) ckX7_heaviestOrder h
set_option maxRecDepth 100000 in
theorem fX7_heaviestOrder_101 {d : Nat} {v1 : Int} {v2 : Int} {M : jM} {Q : Int → jM → Prop} (h :
    ((10 : Int) ≤ v2 →
      jWP d 171 23 [some (.inr (21, 0)), some (.inl (jwr (v1 + 1))), none, none] [] M Q) ∧
    (v2 < (10 : Int) →
      (0 ≤ v2 ∧ v2 < jal 21 8) ∧ (0 ≤ (jwr (v2 - 1)) ∧ (jwr (v2 - 1)) < jal 21 8) ∧ (0 ≤ v2 ∧ v2 < jal 21 8) ∧ jWP d 171 101 [some (.inr (21, 0)), some (.inl v1), some (.inl (jwr (v2 + 1))), none] [] (jup M 21 8 v2 (if (M 21 8 v2) < (M 21 8 (jwr (v2 - 1))) then (M 21 8 (jwr (v2 - 1))) else (M 21 8 v2))) Q)) :
    jWP d 171 101 [some (.inr (21, 0)), some (.inl v1), some (.inl v2), none] [] M Q :=
  jreg [(2, [2, 3]), (23, [2, 3]), (32, [3]), (52, [3]), (101, [3])] 26 (by decide) ckX7_heaviestOrder h
set_option maxRecDepth 100000 in
theorem fX8_weaveCommon_0 {d : Nat} {g1 : Int} {g2 : Int} {M : jM} {Q : Int → jM → Prop} (h :
    jCall d 177 [.inr (26, 0)] M (fun _ M1 =>
      (0 ≤ (14 : Int) ∧ (14 : Int) < 18) ∧ jCall d 140 [.inr (14, 0), .inl 0] M1 (fun _ M2 =>
        jWP d 172 14 [some (.inr (26, 0)), some (.inr (g1, 0)), some (.inr (g2, 0)), some (.inl 0), none, none] [] M2 Q))) :
    jWP d 172 0 [some (.inr (26, 0)), some (.inr (g1, 0)), some (.inr (g2, 0)), none, none, none] [] M Q :=
  jreg [(14, [4, 5]), (91, [4, 5]), (113, [4, 5])] 11 (by decide) ckX8_weaveCommon h
set_option maxRecDepth 100000 in
theorem fX8_weaveCommon_14 {d : Nat} {g1 : Int} {g2 : Int} {v3 : Int} {M : jM} {Q : Int → jM → Prop} (h :
    (0 ≤ g1 ∧ g1 < 18) ∧ ((M g1 0 0) ≤ v3 →
      jWP d 172 113 [some (.inr (26, 0)), some (.inr (g1, 0)), some (.inr (g2, 0)), some (.inl 0), none, none] [] M Q) ∧
    (v3 < (M g1 0 0) →
      (0 ≤ v3 ∧ v3 < jal 20 6) ∧ ((M 20 6 v3) < (0 : Int) →
        jWP d 172 14 [some (.inr (26, 0)), some (.inr (g1, 0)), some (.inr (g2, 0)), some (.inl (jwr (v3 + 1))), none, none] [] M Q) ∧
      ((0 : Int) ≤ (M 20 6 v3) →
        (0 ≤ (14 : Int) ∧ (14 : Int) < 18) ∧ (0 ≤ v3 ∧ v3 < jal 26 6) ∧ (0 ≤ (14 : Int) ∧ (14 : Int) < 18) ∧ (0 ≤ (14 : Int) ∧ (14 : Int) < 18) ∧ (0 ≤ g1 ∧ g1 < 18) ∧ (0 ≤ v3 ∧ v3 < jal g1 4) ∧ (0 ≤ g2 ∧ g2 < 18) ∧ (0 ≤ (M 20 6 v3) ∧ (M 20 6 v3) < jal g2 4) ∧ (¬ ((jup M 26 6 v3 (M 14 0 0)) g1 4 v3) = ((jup M 26 6 v3 (M 14 0 0)) g2 4 (M 20 6 v3)) →
          jWP d 172 91 [some (.inr (26, 0)), some (.inr (g1, 0)), some (.inr (g2, 0)), some (.inl v3), none, none] [.inl 0, .inl ((jup M 26 6 v3 (M 14 0 0)) 14 0 0), .inr (14, 4)] (jup M 26 6 v3 (M 14 0 0)) Q) ∧
        (((jup M 26 6 v3 (M 14 0 0)) g1 4 v3) = ((jup M 26 6 v3 (M 14 0 0)) g2 4 (M 20 6 v3)) →
          (0 ≤ g1 ∧ g1 < 18) ∧ (0 ≤ v3 ∧ v3 < jal g1 4) ∧ jWP d 172 91 [some (.inr (26, 0)), some (.inr (g1, 0)), some (.inr (g2, 0)), some (.inl v3), none, none] [.inl ((jup M 26 6 v3 (M 14 0 0)) g1 4 v3), .inl ((jup M 26 6 v3 (M 14 0 0)) 14 0 0), .inr (14, 4)] (jup M 26 6 v3 (M 14 0 0)) Q)))) :
    jWP d 172 14 [some (.inr (26, 0)), some (.inr (g1, 0)), some (.inr (g2, 0)), some (.inl v3), none, none] [] M Q :=
  jreg [(14, [4, 5]), (91, [4, 5]), (113, [4, 5])] 50 (by decide) ckX8_weaveCommon h
set_option maxRecDepth 100000 in
theorem fX8_weaveCommon_91 {d : Nat} {g1 : Int} {g2 : Int} {v3 : Int} {s0 : Int} {s1 : Int} {M : jM} {Q : Int → jM → Prop} (h :
    (0 ≤ s1 ∧ s1 < jal 14 4) ∧ (0 ≤ (14 : Int) ∧ (14 : Int) < 18) ∧ (0 ≤ (14 : Int) ∧ (14 : Int) < 18) ∧ jWP d 172 14 [some (.inr (26, 0)), some (.inr (g1, 0)), some (.inr (g2, 0)), some (.inl (jwr (v3 + 1))), none, none] [] (jup (jup M 14 4 s1 s0) 14 0 0 (jwr (((jup M 14 4 s1 s0) 14 0 0) + 1))) Q) :
    jWP d 172 91 [some (.inr (26, 0)), some (.inr (g1, 0)), some (.inr (g2, 0)), some (.inl v3), none, none] [.inl s0, .inl s1, .inr (14, 4)] M Q :=
  jreg [(14, [4, 5]), (91, [4, 5]), (113, [4, 5])] 13 (by decide) ckX8_weaveCommon h
set_option maxRecDepth 100000 in
theorem fX8_weaveCommon_113 {d : Nat} {g1 : Int} {g2 : Int} {v3 : Int} {M : jM} {Q : Int → jM → Prop} (h :
    (0 ≤ g1 ∧ g1 < 18) ∧ ((M g1 0 1) ≤ v3 →
      Q 0 M) ∧
    (v3 < (M g1 0 1) →
      (0 ≤ v3 ∧ v3 < jal 20 7) ∧ ((M 20 7 v3) < (0 : Int) →
        jWP d 172 113 [some (.inr (26, 0)), some (.inr (g1, 0)), some (.inr (g2, 0)), some (.inl (jwr (v3 + 1))), none, none] [] M Q) ∧
      ((0 : Int) ≤ (M 20 7 v3) →
        jCall d 178 [.inr (26, 0), .inr (g1, 0), .inl v3] M (fun r1 M1 =>
          (r1 = (0 : Int) →
            jWP d 172 113 [some (.inr (26, 0)), some (.inr (g1, 0)), some (.inr (g2, 0)), some (.inl (jwr (v3 + 1))), none, none] [] M1 Q) ∧
          (¬ r1 = (0 : Int) →
            (0 ≤ g1 ∧ g1 < 18) ∧ (0 ≤ v3 ∧ v3 < jal g1 5) ∧ (0 ≤ g2 ∧ g2 < 18) ∧ (0 ≤ (M 20 7 v3) ∧ (M 20 7 v3) < jal g2 5) ∧ jCall d 139 [.inr (19, 0), .inl (M1 g1 5 v3), .inl (M1 g2 5 (M 20 7 v3))] M1 (fun r2 M2 =>
              (0 ≤ g1 ∧ g1 < 18) ∧ (0 ≤ v3 ∧ v3 < jal g1 5) ∧ jCall d 138 [.inr (19, 0), .inl (M2 g1 5 v3), .inl (if r2 < 0 then 0 else r2)] M2 (fun r3 M3 =>
                jCall d 180 [.inr (26, 0), .inl r3, .inl (-1)] M3 (fun r4 M4 =>
                  (0 ≤ v3 ∧ v3 < jal 26 7) ∧ jWP d 172 113 [some (.inr (26, 0)), some (.inr (g1, 0)), some (.inr (g2, 0)), some (.inl (jwr (v3 + 1))), none, none] [] (jup M4 26 7 v3 r4) Q)))))))) :
    jWP d 172 113 [some (.inr (26, 0)), some (.inr (g1, 0)), some (.inr (g2, 0)), some (.inl v3), none, none] [] M Q :=
  jreg [(14, [4, 5]), (91, [4, 5]), (113, [4, 5])] 58 (by decide) ckX8_weaveCommon h
set_option maxRecDepth 100000 in
theorem fX8_noteFirst_0 {d : Nat} {g1 : Int} {M : jM} {Q : Int → jM → Prop} (h :
    jWP d 173 2 [some (.inr (26, 0)), some (.inr (g1, 0)), some (.inl 0)] [] M Q) :
    jWP d 173 0 [some (.inr (26, 0)), some (.inr (g1, 0)), none] [] M Q :=
  jreg [(2, []), (33, [])] 5 (by decide) ckX8_noteFirst h
set_option maxRecDepth 100000 in
theorem fX8_noteFirst_2 {d : Nat} {g1 : Int} {v2 : Int} {M : jM} {Q : Int → jM → Prop} (h :
    (0 ≤ g1 ∧ g1 < 18) ∧ ((M g1 0 0) ≤ v2 →
      jWP d 173 33 [some (.inr (26, 0)), some (.inr (g1, 0)), some (.inl 0)] [] M Q) ∧
    (v2 < (M g1 0 0) →
      (0 ≤ v2 ∧ v2 < jal 20 6) ∧ (0 ≤ v2 ∧ v2 < jal 26 4) ∧ jWP d 173 2 [some (.inr (26, 0)), some (.inr (g1, 0)), some (.inl (jwr (v2 + 1)))] [] (jup M 26 4 v2 (M 20 6 v2)) Q)) :
    jWP d 173 2 [some (.inr (26, 0)), some (.inr (g1, 0)), some (.inl v2)] [] M Q :=
  jreg [(2, []), (33, [])] 21 (by decide) ckX8_noteFirst h
set_option maxRecDepth 100000 in
theorem fX8_noteFirst_33 {d : Nat} {g1 : Int} {v2 : Int} {M : jM} {Q : Int → jM → Prop} (h :
    (0 ≤ g1 ∧ g1 < 18) ∧ ((M g1 0 1) ≤ v2 →
      Q 0 M) ∧
    (v2 < (M g1 0 1) →
      (0 ≤ v2 ∧ v2 < jal 20 7) ∧ (0 ≤ v2 ∧ v2 < jal 26 5) ∧ jWP d 173 33 [some (.inr (26, 0)), some (.inr (g1, 0)), some (.inl (jwr (v2 + 1)))] [] (jup M 26 5 v2 (M 20 7 v2)) Q)) :
    jWP d 173 33 [some (.inr (26, 0)), some (.inr (g1, 0)), some (.inl v2)] [] M Q :=
  jreg [(2, []), (33, [])] 19 (by decide) ckX8_noteFirst h
