set_option maxRecDepth 100000 in
theorem fX9_kind_0 {d : Nat} {v1 : Int} {v2 : Int} {v3 : Int} {M : jM} {Q : Int → jM → Prop} (h :
    jCall d 29 [.inl v1] M (fun r1 M1 =>
      (¬ r1 = (0 : Int) →
        (v2 < (1 : Int) →
          Q (-2) M1) ∧
        ((1 : Int) ≤ v2 →
          (v2 ≤ (3 : Int) →
            jCall d 36 [.inr (18, 0), .inl v1] M1 (fun r2 M2 =>
              (¬ r2 = (0 : Int) →
                Q (-3) M2) ∧
              (r2 = (0 : Int) →
                jCall d 134 [.inr (19, 0), .inl v1] M2 (fun r3 M3 =>
                  (r3 = (0 : Int) →
                    (0 ≤ v1 ∧ v1 < jal 19 1) ∧ (0 ≤ v1 ∧ v1 < jal 19 1) ∧ (v3 = (0 : Int) →
                      (0 ≤ v1 ∧ v1 < jbl 19 2) ∧ ((0 : Int) = 0 ∨ (0 : Int) = 1) ∧ Q (M3 19 1 v1) (jup (jup M3 19 1 v1 v2) 19 2 v1 0)) ∧
                    (¬ v3 = (0 : Int) →
                      (¬ v2 = (2 : Int) →
                        (0 ≤ v1 ∧ v1 < jbl 19 2) ∧ ((0 : Int) = 0 ∨ (0 : Int) = 1) ∧ Q (M3 19 1 v1) (jup (jup M3 19 1 v1 v2) 19 2 v1 0)) ∧
                      (v2 = (2 : Int) →
                        (0 ≤ v1 ∧ v1 < jbl 19 2) ∧ ((1 : Int) = 0 ∨ (1 : Int) = 1) ∧ Q (M3 19 1 v1) (jup (jup M3 19 1 v1 v2) 19 2 v1 1)))) ∧
                  (¬ r3 = (0 : Int) →
                    Q (-3) M3))))) ∧
          ((3 : Int) < v2 →
            Q (-2) M1))) ∧
      (r1 = (0 : Int) →
        Q (-1) M1))) :
    jWP d 0 0 [some (.inr (18, 0)), some (.inl v1), some (.inl v2), some (.inl v3), none] [] M Q :=
  jreg [] 64 (by decide) ckX9_kind h
set_option maxRecDepth 100000 in
theorem fX9_wider_0 {d : Nat} {v1 : Int} {v2 : Int} {M : jM} {Q : Int → jM → Prop} (h :
    jCall d 29 [.inl v1] M (fun r1 M1 =>
      (r1 = (0 : Int) →
        Q (-1) M1) ∧
      (¬ r1 = (0 : Int) →
        (v2 = (-1 : Int) →
          jWP d 1 21 [some (.inr (18, 0)), some (.inl v1), some (.inl v2), none] [] M1 Q) ∧
        (¬ v2 = (-1 : Int) →
          jCall d 29 [.inl v2] M1 (fun r2 M2 =>
            (¬ r2 = (0 : Int) →
              jWP d 1 21 [some (.inr (18, 0)), some (.inl v1), some (.inl v2), none] [] M2 Q) ∧
            (r2 = (0 : Int) →
              Q (-1) M2)))))) :
    jWP d 1 0 [some (.inr (18, 0)), some (.inl v1), some (.inl v2), none] [] M Q :=
  jreg [(21, [3]), (52, [3])] 17 (by decide) ckX9_wider h
set_option maxRecDepth 100000 in
theorem fX9_wider_21 {d : Nat} {v1 : Int} {v2 : Int} {M : jM} {Q : Int → jM → Prop} (h :
    jCall d 36 [.inr (18, 0), .inl v1] M (fun r1 M1 =>
      (r1 = (0 : Int) →
        (v2 = (-1 : Int) →
          jWP d 1 52 [some (.inr (18, 0)), some (.inl v1), some (.inl v2), none] [] M1 Q) ∧
        (¬ v2 = (-1 : Int) →
          jCall d 135 [.inr (19, 0), .inl v2, .inl v1] M1 (fun r2 M2 =>
            (¬ r2 = (0 : Int) →
              jWP d 1 52 [some (.inr (18, 0)), some (.inl v1), some (.inl v2), none] [] M2 Q) ∧
            (r2 = (0 : Int) →
              Q (-5) M2)))) ∧
      (¬ r1 = (0 : Int) →
        Q (-3) M1))) :
    jWP d 1 21 [some (.inr (18, 0)), some (.inl v1), some (.inl v2), none] [] M Q :=
  jreg [(21, [3]), (52, [3])] 21 (by decide) ckX9_wider h
set_option maxRecDepth 100000 in
theorem fX9_wider_52 {d : Nat} {v1 : Int} {v2 : Int} {M : jM} {Q : Int → jM → Prop} (h :
    (0 ≤ v1 ∧ v1 < jal 19 3) ∧ (0 ≤ v1 ∧ v1 < jal 19 3) ∧ jCall d 33 [.inl (M 19 3 v1)] (jup M 19 3 v1 v2) (fun r1 M1 =>
      Q r1 M1)) :
    jWP d 1 52 [some (.inr (18, 0)), some (.inl v1), some (.inl v2), none] [] M Q :=
  jreg [(21, [3]), (52, [3])] 17 (by decide) ckX9_wider h
set_option maxRecDepth 100000 in
theorem fX9_opposite_0 {d : Nat} {v1 : Int} {v2 : Int} {M : jM} {Q : Int → jM → Prop} (h :
    jCall d 29 [.inl v1] M (fun r1 M1 =>
      (r1 = (0 : Int) →
        Q (-1) M1) ∧
      (¬ r1 = (0 : Int) →
        jCall d 29 [.inl v2] M1 (fun r2 M2 =>
          (¬ r2 = (0 : Int) →
            (0 ≤ v1 ∧ v1 < jal 19 1) ∧ (0 ≤ v2 ∧ v2 < jal 19 1) ∧ ((M2 19 1 v1) = (M2 19 1 v2) →
              jCall d 136 [.inr (19, 0), .inl v1, .inl v2] M2 (fun _ M3 =>
                Q 1 M3)) ∧
            (¬ (M2 19 1 v1) = (M2 19 1 v2) →
              Q (-5) M2)) ∧
          (r2 = (0 : Int) →
            Q (-1) M2))))) :
    jWP d 2 0 [some (.inr (18, 0)), some (.inl v1), some (.inl v2)] [] M Q :=
  jreg [] 32 (by decide) ckX9_opposite h
set_option maxRecDepth 100000 in
theorem fX9_ofKind_0 {d : Nat} {v1 : Int} {v2 : Int} {M : jM} {Q : Int → jM → Prop} (h :
    jCall d 29 [.inl v1] M (fun r1 M1 =>
      (¬ r1 = (0 : Int) →
        ((v2 < 0 ∨ 4 < v2) →
          Q (-2) M1) ∧
        (v2 = 0 →
          (0 ≤ v1 ∧ v1 < jal 19 1) ∧ Q (M1 19 1 v1) M1) ∧
        (v2 = (0 + 1) →
          (0 ≤ v1 ∧ v1 < jbl 19 2) ∧ ((M1 19 2 v1) = (0 : Int) →
            Q 0 M1) ∧
          (¬ (M1 19 2 v1) = (0 : Int) →
            Q 1 M1)) ∧
        (v2 = ((0 + 1) + 1) →
          (0 ≤ v1 ∧ v1 < jal 19 3) ∧ jCall d 33 [.inl (M1 19 3 v1)] M1 (fun r2 M2 =>
            Q r2 M2)) ∧
        (v2 = (((0 + 1) + 1) + 1) →
          (0 ≤ v1 ∧ v1 < jal 19 4) ∧ jCall d 33 [.inl (M1 19 4 v1)] M1 (fun r3 M3 =>
            Q r3 M3)) ∧
        (v2 = ((((0 + 1) + 1) + 1) + 1) →
          jCall d 35 [.inr (18, 0), .inl v1] M1 (fun r4 M4 =>
            Q r4 M4)) ∧ True) ∧
      (r1 = (0 : Int) →
        Q (-1) M1))) :
    jWP d 3 0 [some (.inr (18, 0)), some (.inl v1), some (.inl v2)] [] M Q :=
  jreg [] 46 (by decide) ckX9_ofKind h
set_option maxRecDepth 100000 in
theorem fX9_alike_0 {d : Nat} {v1 : Int} {v2 : Int} {M : jM} {Q : Int → jM → Prop} (h :
    jCall d 29 [.inl v1] M (fun r1 M1 =>
      (r1 = (0 : Int) →
        Q (-1) M1) ∧
      (¬ r1 = (0 : Int) →
        jCall d 29 [.inl v2] M1 (fun r2 M2 =>
          (¬ r2 = (0 : Int) →
            jCall d 139 [.inr (19, 0), .inl v1, .inl v2] M2 (fun r3 M3 =>
              jCall d 33 [.inl r3] M3 (fun r4 M4 =>
                Q r4 M4))) ∧
          (r2 = (0 : Int) →
            Q (-1) M2))))) :
    jWP d 4 0 [some (.inr (18, 0)), some (.inl v1), some (.inl v2)] [] M Q :=
  jreg [] 19 (by decide) ckX9_alike h
set_option maxRecDepth 100000 in
theorem fX9_timed_0 {d : Nat} {v1 : Int} {M : jM} {Q : Int → jM → Prop} (h :
    (v1 = (0 : Int) →
      ((M 18 0 8) = (0 : Int) →
        jWP d 5 24 [some (.inr (18, 0)), some (.inl v1), none] [.inl 0] M Q) ∧
      (¬ (M 18 0 8) = (0 : Int) →
        jWP d 5 24 [some (.inr (18, 0)), some (.inl v1), none] [.inl 1] M Q)) ∧
    (¬ v1 = (0 : Int) →
      (v1 = (1 : Int) →
        ((M 18 0 8) = (0 : Int) →
          jWP d 5 24 [some (.inr (18, 0)), some (.inl v1), none] [.inl 0] M Q) ∧
        (¬ (M 18 0 8) = (0 : Int) →
          jWP d 5 24 [some (.inr (18, 0)), some (.inl v1), none] [.inl 1] M Q)) ∧
      (¬ v1 = (1 : Int) →
        Q (-2) M))) :
    jWP d 5 0 [some (.inr (18, 0)), some (.inl v1), none] [] M Q :=
  jreg [(24, [2])] 25 (by decide) ckX9_timed h
set_option maxRecDepth 100000 in
theorem fX9_timed_24 {d : Nat} {v1 : Int} {s0 : Int} {M : jM} {Q : Int → jM → Prop} (h :
    (¬ v1 = (1 : Int) →
      ((0 : Int) = 0 ∨ (0 : Int) = 1) ∧ Q s0 (jup M 18 0 8 0)) ∧
    (v1 = (1 : Int) →
      ((1 : Int) = 0 ∨ (1 : Int) = 1) ∧ Q s0 (jup M 18 0 8 1))) :
    jWP d 5 24 [some (.inr (18, 0)), some (.inl v1), none] [.inl s0] M Q :=
  jreg [(24, [2])] 16 (by decide) ckX9_timed h
set_option maxRecDepth 100000 in
theorem fX9_tale_0 {d : Nat} {v1 : Int} {v2 : Int} {M : jM} {Q : Int → jM → Prop} (h :
    jCall d 30 [.inl v1] M (fun r1 M1 =>
      (¬ r1 = (0 : Int) →
        (v2 < (0 : Int) →
          Q (-2) M1) ∧
        ((0 : Int) ≤ v2 →
          (v2 ≤ (6 : Int) →
            (0 ≤ v1 ∧ v1 < 12) ∧ (0 ≤ v1 ∧ v1 < 18) ∧ jCall d 140 [.inr (v1, 0), .inl v2] M1 (fun _ M2 =>
              Q 1 M2)) ∧
          ((6 : Int) < v2 →
            Q (-2) M1))) ∧
      (r1 = (0 : Int) →
        Q (-1) M1))) :
    jWP d 6 0 [some (.inr (18, 0)), some (.inl v1), some (.inl v2)] [] M Q :=
  jreg [] 24 (by decide) ckX9_tale h
set_option maxRecDepth 100000 in
theorem fX9_sort_0 {d : Nat} {v1 : Int} {v2 : Int} {v3 : Int} {M : jM} {Q : Int → jM → Prop} (h :
    jCall d 30 [.inl v1] M (fun r1 M1 =>
      (r1 = (0 : Int) →
        Q (-1) M1) ∧
      (¬ r1 = (0 : Int) →
        (v2 < (0 : Int) →
          Q (-1) M1) ∧
        ((0 : Int) ≤ v2 →
          (0 ≤ v1 ∧ v1 < 12) ∧ (0 ≤ v1 ∧ v1 < 18) ∧ (v2 < (M1 v1 0 0) →
            jCall d 32 [.inl v3] M1 (fun r2 M2 =>
              (¬ r2 = (0 : Int) →
                (0 ≤ v1 ∧ v1 < 12) ∧ (0 ≤ v1 ∧ v1 < 18) ∧ (0 ≤ v2 ∧ v2 < jal v1 4) ∧ (0 ≤ v1 ∧ v1 < 12) ∧ (0 ≤ v1 ∧ v1 < 18) ∧ (0 ≤ v2 ∧ v2 < jal v1 4) ∧ Q (M2 v1 4 v2) (jup M2 v1 4 v2 v3)) ∧
              (r2 = (0 : Int) →
                Q (-2) M2))) ∧
          ((M1 v1 0 0) ≤ v2 →
            Q (-1) M1))))) :
    jWP d 7 0 [some (.inr (18, 0)), some (.inl v1), some (.inl v2), some (.inl v3), none] [] M Q :=
  jreg [] 43 (by decide) ckX9_sort h
set_option maxRecDepth 100000 in
theorem fX9_label_0 {d : Nat} {v1 : Int} {v2 : Int} {M : jM} {Q : Int → jM → Prop} (h :
    jCall d 30 [.inl v1] M (fun r1 M1 =>
      (¬ r1 = (0 : Int) →
        jCall d 32 [.inl v2] M1 (fun r2 M2 =>
          (¬ r2 = (0 : Int) →
            (0 ≤ v1 ∧ v1 < 12) ∧ (0 ≤ v1 ∧ v1 < 18) ∧ (0 ≤ v1 ∧ v1 < 12) ∧ (0 ≤ v1 ∧ v1 < 18) ∧ Q (M2 v1 0 2) (jup M2 v1 0 2 v2)) ∧
          (r2 = (0 : Int) →
            Q (-2) M2))) ∧
      (r1 = (0 : Int) →
        Q (-1) M1))) :
    jWP d 8 0 [some (.inr (18, 0)), some (.inl v1), some (.inl v2), none] [] M Q :=
  jreg [] 26 (by decide) ckX9_label h
set_option maxRecDepth 100000 in
theorem fX9_tie_0 {d : Nat} {v1 : Int} {v2 : Int} {v3 : Int} {v4 : Int} {v5 : Int} {v6 : Int} {M : jM} {Q : Int → jM → Prop} (h :
    jCall d 30 [.inl v1] M (fun r1 M1 =>
      (r1 = (0 : Int) →
        Q (-1) M1) ∧
      (¬ r1 = (0 : Int) →
        jCall d 29 [.inl v2] M1 (fun r2 M2 =>
          (¬ r2 = (0 : Int) →
            (0 ≤ v1 ∧ v1 < 12) ∧ (v6 = (-1 : Int) →
              jWP d 9 43 [some (.inr (18, 0)), none, some (.inl v2), some (.inl v3), some (.inl v4), some (.inl v5), some (.inl v6), some (.inr (v1, 0)), none] [.inl 1] M2 Q) ∧
            (¬ v6 = (-1 : Int) →
              jCall d 32 [.inl v6] M2 (fun r3 M3 =>
                (r3 = (0 : Int) →
                  jWP d 9 43 [some (.inr (18, 0)), none, some (.inl v2), some (.inl v3), some (.inl v4), some (.inl v5), some (.inl v6), some (.inr (v1, 0)), none] [.inl 0] M3 Q) ∧
                (¬ r3 = (0 : Int) →
                  jWP d 9 43 [some (.inr (18, 0)), none, some (.inl v2), some (.inl v3), some (.inl v4), some (.inl v5), some (.inl v6), some (.inr (v1, 0)), none] [.inl 1] M3 Q)))) ∧
          (r2 = (0 : Int) →
            Q (-1) M2))))) :
    jWP d 9 0 [some (.inr (18, 0)), some (.inl v1), some (.inl v2), some (.inl v3), some (.inl v4), some (.inl v5), some (.inl v6), none, none] [] M Q :=
  jreg [(43, [1, 8])] 31 (by decide) ckX9_tie h
set_option maxRecDepth 100000 in
theorem fX9_tie_43 {d : Nat} {v2 : Int} {v3 : Int} {v4 : Int} {v5 : Int} {v6 : Int} {g7 : Int} {s0 : Int} {M : jM} {Q : Int → jM → Prop} (h :
    (s0 = (0 : Int) →
      Q (-2) M) ∧
    (¬ s0 = (0 : Int) →
      (0 ≤ v2 ∧ v2 < jal 19 1) ∧ (0 ≤ g7 ∧ g7 < 18) ∧ jCall d 142 [.inr (g7, 0), .inl (M 19 1 v2), .inl v3, .inl v4, .inl v5] M (fun r1 M1 =>
        (¬ r1 = (0 : Int) →
          (0 ≤ g7 ∧ g7 < 18) ∧ ((M1 g7 0 1) < (14 : Int) →
            (0 ≤ g7 ∧ g7 < 18) ∧ jCall d 144 [.inr (g7, 0), .inr (19, 0), .inl v2, .inl v3, .inl v4, .inl v5] M1 (fun r2 M2 =>
              (r2 = (-1 : Int) →
                (0 ≤ g7 ∧ g7 < 18) ∧ jCall d 145 [.inr (g7, 0), .inl v2, .inl v3, .inl v4, .inl v5, .inl v6] M2 (fun r3 M3 =>
                  Q r3 M3)) ∧
              (¬ r2 = (-1 : Int) →
                Q (-5) M2))) ∧
          ((14 : Int) ≤ (M1 g7 0 1) →
            Q (-4) M1)) ∧
        (r1 = (0 : Int) →
          Q (-2) M1)))) :
    jWP d 9 43 [some (.inr (18, 0)), none, some (.inl v2), some (.inl v3), some (.inl v4), some (.inl v5), some (.inl v6), some (.inr (g7, 0)), none] [.inl s0] M Q :=
  jreg [(43, [1, 8])] 46 (by decide) ckX9_tie h
set_option maxRecDepth 100000 in
theorem fX9_ofTie_0 {d : Nat} {v1 : Int} {v2 : Int} {v3 : Int} {M : jM} {Q : Int → jM → Prop} (h :
    jCall d 30 [.inl v1] M (fun r1 M1 =>
      (r1 = (0 : Int) →
        Q (-1) M1) ∧
      (¬ r1 = (0 : Int) →
        (v2 < (0 : Int) →
          Q (-1) M1) ∧
        ((0 : Int) ≤ v2 →
          (0 ≤ v1 ∧ v1 < 12) ∧ (0 ≤ v1 ∧ v1 < 18) ∧ (v2 < (M1 v1 0 1) →
            (0 ≤ v1 ∧ v1 < 12) ∧ ((v3 < 0 ∨ 5 < v3) →
              Q (-2) M1) ∧
            (v3 = 0 →
              (0 ≤ v1 ∧ v1 < 18) ∧ (0 ≤ v2 ∧ v2 < jal v1 5) ∧ Q (M1 v1 5 v2) M1) ∧
            (v3 = (0 + 1) →
              jWP d 10 80 [none, none, some (.inl v2), some (.inl v3), some (.inr (v1, 0))] [] M1 Q) ∧
            (v3 = ((0 + 1) + 1) →
              jWP d 10 80 [none, none, some (.inl v2), some (.inl v3), some (.inr (v1, 0))] [] M1 Q) ∧
            (v3 = (((0 + 1) + 1) + 1) →
              jWP d 10 80 [none, none, some (.inl v2), some (.inl v3), some (.inr (v1, 0))] [] M1 Q) ∧
            (v3 = ((((0 + 1) + 1) + 1) + 1) →
              (0 ≤ v1 ∧ v1 < 18) ∧ (0 ≤ v2 ∧ v2 < jal v1 7) ∧ Q (M1 v1 7 v2) M1) ∧
            (v3 = (((((0 + 1) + 1) + 1) + 1) + 1) →
              (0 ≤ v1 ∧ v1 < 18) ∧ (0 ≤ v2 ∧ v2 < jal v1 8) ∧ Q (M1 v1 8 v2) M1) ∧ True) ∧
          ((M1 v1 0 1) ≤ v2 →
            Q (-1) M1))))) :
    jWP d 10 0 [some (.inr (18, 0)), some (.inl v1), some (.inl v2), some (.inl v3), none] [] M Q :=
  jreg [(80, [0, 1])] 47 (by decide) ckX9_ofTie h
set_option maxRecDepth 100000 in
theorem fX9_ofTie_80 {d : Nat} {v2 : Int} {v3 : Int} {g4 : Int} {M : jM} {Q : Int → jM → Prop} (h :
    (0 ≤ g4 ∧ g4 < 18) ∧ (0 ≤ (jwr ((jwr ((jwr (v2 * 3)) + v3)) - 1)) ∧ (jwr ((jwr ((jwr (v2 * 3)) + v3)) - 1)) < jal g4 6) ∧ jCall d 33 [.inl (M g4 6 (jwr ((jwr ((jwr (v2 * 3)) + v3)) - 1)))] M (fun r1 M1 =>
      Q r1 M1)) :
    jWP d 10 80 [none, none, some (.inl v2), some (.inl v3), some (.inr (g4, 0))] [] M Q :=
  jreg [(80, [0, 1])] 14 (by decide) ckX9_ofTie h
set_option maxRecDepth 100000 in
theorem fX9_ofTale_0 {d : Nat} {v1 : Int} {v2 : Int} {M : jM} {Q : Int → jM → Prop} (h :
    jCall d 30 [.inl v1] M (fun r1 M1 =>
      (¬ r1 = (0 : Int) →
        (0 ≤ v1 ∧ v1 < 12) ∧ (v2 < (10 : Int) →
          jWP d 11 53 [none, none, some (.inl v2), some (.inr (v1, 0))] [] M1 Q) ∧
        ((10 : Int) ≤ v2 →
          ((16 : Int) ≤ v2 →
            jWP d 11 53 [none, none, some (.inl v2), some (.inr (v1, 0))] [] M1 Q) ∧
          (v2 < (16 : Int) →
            (0 ≤ v1 ∧ v1 < 18) ∧ ((M1 v1 0 0) ≤ (jwr (v2 - 10)) →
              Q (-1) M1) ∧
            ((jwr (v2 - 10)) < (M1 v1 0 0) →
              (0 ≤ v1 ∧ v1 < 18) ∧ (0 ≤ (jwr (v2 - 10)) ∧ (jwr (v2 - 10)) < jal v1 4) ∧ Q (M1 v1 4 (jwr (v2 - 10))) M1)))) ∧
      (r1 = (0 : Int) →
        Q (-1) M1))) :
    jWP d 11 0 [some (.inr (18, 0)), some (.inl v1), some (.inl v2), none] [] M Q :=
  jreg [(53, [0, 1])] 36 (by decide) ckX9_ofTale h
set_option maxRecDepth 100000 in
theorem fX9_ofTale_53 {d : Nat} {v2 : Int} {g3 : Int} {M : jM} {Q : Int → jM → Prop} (h :
    ((v2 < 0 ∨ 3 < v2) →
      Q (-2) M) ∧
    (v2 = 0 →
      (0 ≤ g3 ∧ g3 < 18) ∧ Q (M g3 0 0) M) ∧
    (v2 = (0 + 1) →
      (0 ≤ g3 ∧ g3 < 18) ∧ Q (M g3 0 1) M) ∧
    (v2 = ((0 + 1) + 1) →
      (0 ≤ g3 ∧ g3 < 18) ∧ Q (M g3 0 2) M) ∧
    (v2 = (((0 + 1) + 1) + 1) →
      (0 ≤ g3 ∧ g3 < 18) ∧ jCall d 147 [.inr (g3, 0)] M (fun r1 M1 =>
        Q r1 M1)) ∧ True) :
    jWP d 11 53 [none, none, some (.inl v2), some (.inr (g3, 0))] [] M Q :=
  jreg [(53, [0, 1])] 18 (by decide) ckX9_ofTale h
set_option maxRecDepth 100000 in
theorem fX9_copy_0 {d : Nat} {v1 : Int} {v2 : Int} {M : jM} {Q : Int → jM → Prop} (h :
    jCall d 30 [.inl v1] M (fun r1 M1 =>
      (r1 = (0 : Int) →
        Q (-1) M1) ∧
      (¬ r1 = (0 : Int) →
        jCall d 30 [.inl v2] M1 (fun r2 M2 =>
          (¬ r2 = (0 : Int) →
            (0 ≤ v2 ∧ v2 < 12) ∧ (0 ≤ v1 ∧ v1 < 12) ∧ (0 ≤ v2 ∧ v2 < 18) ∧ jCall d 141 [.inr (v2, 0), .inr (v1, 0)] M2 (fun _ M3 =>
              (0 ≤ v2 ∧ v2 < 12) ∧ (0 ≤ v2 ∧ v2 < 18) ∧ Q (M3 v2 0 1) M3)) ∧
          (r2 = (0 : Int) →
            Q (-1) M2))))) :
    jWP d 12 0 [some (.inr (18, 0)), some (.inl v1), some (.inl v2)] [] M Q :=
  jreg [] 27 (by decide) ckX9_copy h
set_option maxRecDepth 100000 in
theorem fX9_like_0 {d : Nat} {v1 : Int} {v2 : Int} {v3 : Int} {M : jM} {Q : Int → jM → Prop} (h :
    jCall d 34 [.inl v1, .inl v2, .inl v3] M (fun r1 M1 =>
      (r1 = (0 : Int) →
        (0 ≤ v1 ∧ v1 < 12) ∧ (0 ≤ v2 ∧ v2 < 12) ∧ jCall d 131 [.inr (23, 0), .inr (v1, 0), .inr (v2, 0), .inl v3, .inl (M1 18 0 8)] M1 (fun _ M2 =>
          jCall d 150 [.inr (22, 0), .inr (12, 0), .inr (13, 0), .inl v3, .inl (M2 18 0 8)] M2 (fun r3 M3 =>
            jCall d 132 [.inr (23, 0), .inr (20, 6), .inr (20, 7)] M3 (fun _ M4 =>
              Q r3 M4)))) ∧
      (¬ r1 = (0 : Int) →
        Q r1 M1))) :
    jWP d 13 0 [some (.inr (18, 0)), some (.inl v1), some (.inl v2), some (.inl v3), none, none] [] M Q :=
  jreg [] 49 (by decide) ckX9_like h
set_option maxRecDepth 100000 in
theorem fX9_partner_0 {d : Nat} {v1 : Int} {M : jM} {Q : Int → jM → Prop} (h :
    (¬ (M 23 0 0) = (0 : Int) →
      (v1 < (0 : Int) →
        Q (-1) M) ∧
      ((0 : Int) ≤ v1 →
        (0 ≤ (12 : Int) ∧ (12 : Int) < 18) ∧ (v1 < (M 12 0 0) →
          (0 ≤ v1 ∧ v1 < jal 23 6) ∧ jCall d 33 [.inl (M 23 6 v1)] M (fun r1 M1 =>
            Q r1 M1)) ∧
        ((M 12 0 0) ≤ v1 →
          Q (-1) M))) ∧
    ((M 23 0 0) = (0 : Int) →
      Q (-3) M)) :
    jWP d 14 0 [some (.inr (18, 0)), some (.inl v1)] [] M Q :=
  jreg [] 27 (by decide) ckX9_partner h
set_option maxRecDepth 100000 in
theorem fX9_answer_0 {d : Nat} {v1 : Int} {M : jM} {Q : Int → jM → Prop} (h :
    (¬ (M 23 0 0) = (0 : Int) →
      (v1 < (0 : Int) →
        Q (-1) M) ∧
      ((0 : Int) ≤ v1 →
        (0 ≤ (12 : Int) ∧ (12 : Int) < 18) ∧ (v1 < (M 12 0 1) →
          (0 ≤ v1 ∧ v1 < jal 23 7) ∧ jCall d 33 [.inl (M 23 7 v1)] M (fun r1 M1 =>
            Q r1 M1)) ∧
        ((M 12 0 1) ≤ v1 →
          Q (-1) M))) ∧
    ((M 23 0 0) = (0 : Int) →
      Q (-3) M)) :
    jWP d 15 0 [some (.inr (18, 0)), some (.inl v1)] [] M Q :=
  jreg [] 27 (by decide) ckX9_answer h
set_option maxRecDepth 100000 in
theorem fX9_likes_0 {d : Nat} {v1 : Int} {v2 : Int} {v3 : Int} {v4 : Int} {M : jM} {Q : Int → jM → Prop} (h :
    jCall d 34 [.inl v1, .inl v2, .inl v3] M (fun r1 M1 =>
      (r1 = (0 : Int) →
        ((-1 : Int) ≤ v4 →
          (0 ≤ v1 ∧ v1 < 12) ∧ (0 ≤ v2 ∧ v2 < 12) ∧ jCall d 150 [.inr (22, 0), .inr (v1, 0), .inr (v2, 0), .inl v3, .inl (M1 18 0 8)] M1 (fun r2 M2 =>
            jCall d 151 [.inr (22, 0), .inl v4] M2 (fun r3 M3 =>
              (¬ v4 = (-1 : Int) →
                (r3 ≤ v4 →
                  Q (-6) M3) ∧
                (v4 < r3 →
                  jCall d 152 [.inr (22, 0)] M3 (fun r4 M4 =>
                    Q r4 M4))) ∧
              (v4 = (-1 : Int) →
                Q r3 M3)))) ∧
        (v4 < (-1 : Int) →
          Q (-6) M1)) ∧
      (¬ r1 = (0 : Int) →
        Q r1 M1))) :
    jWP d 16 0 [some (.inr (18, 0)), some (.inl v1), some (.inl v2), some (.inl v3), some (.inl v4), none, none] [] M Q :=
  jreg [] 51 (by decide) ckX9_likes h
set_option maxRecDepth 100000 in
theorem fX9_worth_0 {d : Nat} {v1 : Int} {v2 : Int} {v3 : Int} {v4 : Int} {M : jM} {Q : Int → jM → Prop} (h :
    jCall d 34 [.inl v1, .inl v2, .inl v3] M (fun r1 M1 =>
      (r1 = (0 : Int) →
        (0 ≤ v1 ∧ v1 < 12) ∧ (0 ≤ v2 ∧ v2 < 12) ∧ jCall d 111 [.inr (20, 0), .inr (v1, 0), .inr (v2, 0), .inl v3, .inl (M1 18 0 8), .inl 0] M1 (fun _ M2 =>
          jCall d 114 [.inr (20, 0), .inl v4] M2 (fun r3 M3 =>
            (¬ r3 = (0 : Int) →
              jCall d 115 [.inr (20, 0)] M3 (fun r4 M4 =>
                jCall d 123 [.inr (20, 0)] M4 (fun r5 M5 =>
                  Q (jwr (r4 + r5)) M5))) ∧
            (r3 = (0 : Int) →
              Q (-2) M3)))) ∧
      (¬ r1 = (0 : Int) →
        Q r1 M1))) :
    jWP d 17 0 [some (.inr (18, 0)), some (.inl v1), some (.inl v2), some (.inl v3), some (.inl v4), none] [] M Q :=
  jreg [] 41 (by decide) ckX9_worth h
set_option maxRecDepth 100000 in
theorem fX9_same_0 {d : Nat} {v1 : Int} {v2 : Int} {M : jM} {Q : Int → jM → Prop} (h :
    jCall d 30 [.inl v1] M (fun r1 M1 =>
      (r1 = (0 : Int) →
        Q (-1) M1) ∧
      (¬ r1 = (0 : Int) →
        jCall d 30 [.inl v2] M1 (fun r2 M2 =>
          (¬ r2 = (0 : Int) →
            (0 ≤ v1 ∧ v1 < 12) ∧ (0 ≤ v2 ∧ v2 < 12) ∧ (0 ≤ v1 ∧ v1 < 18) ∧ (0 ≤ v2 ∧ v2 < 18) ∧ (¬ (M2 v1 0 0) = (M2 v2 0 0) →
              jWP d 18 60 [some (.inr (18, 0)), none, none, some (.inr (v1, 0)), some (.inr (v2, 0)), none] [.inl 0] M2 Q) ∧
            ((M2 v1 0 0) = (M2 v2 0 0) →
              (0 ≤ v1 ∧ v1 < 18) ∧ (0 ≤ v2 ∧ v2 < 18) ∧ (¬ (M2 v1 0 1) = (M2 v2 0 1) →
                jWP d 18 60 [some (.inr (18, 0)), none, none, some (.inr (v1, 0)), some (.inr (v2, 0)), none] [.inl 0] M2 Q) ∧
              ((M2 v1 0 1) = (M2 v2 0 1) →
                jWP d 18 60 [some (.inr (18, 0)), none, none, some (.inr (v1, 0)), some (.inr (v2, 0)), none] [.inl 1] M2 Q))) ∧
          (r2 = (0 : Int) →
            Q (-1) M2))))) :
    jWP d 18 0 [some (.inr (18, 0)), some (.inl v1), some (.inl v2), none, none, none] [] M Q :=
  jreg [(60, [1, 2, 5])] 39 (by decide) ckX9_same h
set_option maxRecDepth 100000 in
theorem fX9_same_60 {d : Nat} {g3 : Int} {g4 : Int} {s0 : Int} {M : jM} {Q : Int → jM → Prop} (h :
    (s0 = (0 : Int) →
      Q 0 M) ∧
    (¬ s0 = (0 : Int) →
      jCall d 154 [.inr (22, 0), .inr (g3, 0), .inr (g4, 0)] M (fun r1 M1 =>
        (r1 = (0 : Int) →
          Q 0 M1) ∧
        (¬ r1 = (0 : Int) →
          Q 1 M1)))) :
    jWP d 18 60 [some (.inr (18, 0)), none, none, some (.inr (g3, 0)), some (.inr (g4, 0)), none] [.inl s0] M Q :=
  jreg [(60, [1, 2, 5])] 18 (by decide) ckX9_same h
set_option maxRecDepth 100000 in
theorem fX9_guess_0 {d : Nat} {v1 : Int} {M : jM} {Q : Int → jM → Prop} (h :
    (¬ (M 23 0 0) = (0 : Int) →
      (¬ v1 = (-1 : Int) →
        (v1 < (0 : Int) →
          Q (-6) M) ∧
        ((0 : Int) ≤ v1 →
          (v1 < (M 24 0 3) →
            (0 ≤ v1 ∧ v1 < jal 24 5) ∧ Q (M 24 5 v1) M) ∧
          ((M 24 0 3) ≤ v1 →
            Q (-6) M))) ∧
      (v1 = (-1 : Int) →
        Q (M 24 0 3) M)) ∧
    ((M 23 0 0) = (0 : Int) →
      Q (-3) M)) :
    jWP d 19 0 [some (.inr (18, 0)), some (.inl v1), none] [] M Q :=
  jreg [] 35 (by decide) ckX9_guess h
set_option maxRecDepth 100000 in
theorem fX9_ofGuess_0 {d : Nat} {v1 : Int} {v2 : Int} {M : jM} {Q : Int → jM → Prop} (h :
    (¬ (M 23 0 0) = (0 : Int) →
      (v2 < (0 : Int) →
        Q (-2) M) ∧
      ((0 : Int) ≤ v2 →
        (v2 ≤ (4 : Int) →
          (v1 < (0 : Int) →
            Q (-6) M) ∧
          ((0 : Int) ≤ v1 →
            (v1 < (M 24 0 3) →
              ((3 : Int) ≤ v2 →
                (¬ v2 = (3 : Int) →
                  jCall d 129 [.inr (24, 0), .inl v1, .inr (13, 0), .inr (19, 0)] M (fun r1 M1 =>
                    (r1 = (0 : Int) →
                      Q 0 M1) ∧
                    (¬ r1 = (0 : Int) →
                      Q 1 M1))) ∧
                (v2 = (3 : Int) →
                  jCall d 128 [.inr (24, 0), .inl v1, .inr (13, 0), .inr (19, 0)] M (fun r2 M2 =>
                    (r2 = (0 : Int) →
                      Q 0 M2) ∧
                    (¬ r2 = (0 : Int) →
                      Q 1 M2)))) ∧
              (v2 < (3 : Int) →
                jCall d 127 [.inr (24, 0), .inl v1, .inl v2] M (fun r3 M3 =>
                  jCall d 33 [.inl r3] M3 (fun r4 M4 =>
                    Q r4 M4)))) ∧
            ((M 24 0 3) ≤ v1 →
              Q (-6) M))) ∧
        ((4 : Int) < v2 →
          Q (-2) M))) ∧
    ((M 23 0 0) = (0 : Int) →
      Q (-3) M)) :
    jWP d 20 0 [some (.inr (18, 0)), some (.inl v1), some (.inl v2), none, none] [] M Q :=
  jreg [] 76 (by decide) ckX9_ofGuess h
set_option maxRecDepth 100000 in
theorem fX9_giveUp_0 {d : Nat}  {M : jM} {Q : Int → jM → Prop} (h :
    (¬ (M 23 0 0) = (0 : Int) →
      jCall d 111 [.inr (20, 0), .inr (12, 0), .inr (13, 0), .inl (M 23 0 1), .inl (M 23 0 2), .inl 0] M (fun _ M1 =>
        jCall d 133 [.inr (23, 0)] M1 (fun r2 M2 =>
          jWP d 21 65 [some (.inr (18, 0)), some (.inl r2), some (.inl 7), some (.inl 0), some (.inl 0), none] [] M2 Q))) ∧
    ((M 23 0 0) = (0 : Int) →
      Q (-3) M)) :
    jWP d 21 0 [some (.inr (18, 0)), none, none, none, none, none] [] M Q :=
  jreg [(65, [5])] 35 (by decide) ckX9_giveUp h
set_option maxRecDepth 100000 in
theorem fX9_giveUp_65 {d : Nat} {v1 : Int} {v2 : Int} {v3 : Int} {v4 : Int} {M : jM} {Q : Int → jM → Prop} (h :
    ((64 : Int) ≤ v4 →
      Q v3 M) ∧
    (v4 < (64 : Int) →
      jCall d 181 [.inl v4] M (fun r1 M1 =>
        (¬ (jiand v4 (jixor v1 (-1))) = (0 : Int) →
          jWP d 21 65 [some (.inr (18, 0)), some (.inl v1), some (.inl v2), some (.inl v3), some (.inl (jwr (v4 + 1))), none] [] M1 Q) ∧
        ((jiand v4 (jixor v1 (-1))) = (0 : Int) →
          (v2 ≤ r1 →
            jWP d 21 65 [some (.inr (18, 0)), some (.inl v1), some (.inl v2), some (.inl v3), some (.inl (jwr (v4 + 1))), none] [] M1 Q) ∧
          (r1 < v2 →
            jCall d 38 [.inr (18, 0), .inl v4] M1 (fun r2 M2 =>
              (r2 = (0 : Int) →
                jWP d 21 65 [some (.inr (18, 0)), some (.inl v1), some (.inl v2), some (.inl v3), some (.inl (jwr (v4 + 1))), none] [] M2 Q) ∧
              (¬ r2 = (0 : Int) →
                jWP d 21 65 [some (.inr (18, 0)), some (.inl v1), some (.inl r1), some (.inl v4), some (.inl (jwr (v4 + 1))), none] [] M2 Q))))))) :
    jWP d 21 65 [some (.inr (18, 0)), some (.inl v1), some (.inl v2), some (.inl v3), some (.inl v4), none] [] M Q :=
  jreg [(65, [5])] 39 (by decide) ckX9_giveUp h
set_option maxRecDepth 100000 in
theorem fX9_bound_0 {d : Nat} {v1 : Int} {v2 : Int} {M : jM} {Q : Int → jM → Prop} (h :
    jCall d 30 [.inl v1] M (fun r1 M1 =>
      (r1 = (0 : Int) →
        Q (-1) M1) ∧
      (¬ r1 = (0 : Int) →
        jCall d 30 [.inl v2] M1 (fun r2 M2 =>
          (¬ r2 = (0 : Int) →
            (0 ≤ v1 ∧ v1 < 12) ∧ (0 ≤ v2 ∧ v2 < 12) ∧ jCall d 164 [.inr (v1, 0), .inr (v2, 0)] M2 (fun r3 M3 =>
              Q r3 M3)) ∧
          (r2 = (0 : Int) →
            Q (-1) M2))))) :
    jWP d 22 0 [some (.inr (18, 0)), some (.inl v1), some (.inl v2)] [] M Q :=
  jreg [] 22 (by decide) ckX9_bound h
set_option maxRecDepth 100000 in
theorem fX9_seek_0 {d : Nat} {v1 : Int} {M : jM} {Q : Int → jM → Prop} (h :
    jCall d 30 [.inl v1] M (fun r1 M1 =>
      (¬ r1 = (0 : Int) →
        jCall d 162 [.inr (27, 0), .inl v1, .inl (M1 18 0 8)] M1 (fun r2 M2 =>
          ((1 : Int) = 0 ∨ (1 : Int) = 1) ∧ jCall d 33 [.inl ((jup (jup M2 18 0 9 1) 18 0 10 ((jup M2 18 0 9 1) 27 0 3)) 27 0 4)] (jup (jup M2 18 0 9 1) 18 0 10 ((jup M2 18 0 9 1) 27 0 3)) (fun r3 M3 =>
            jCall d 33 [.inl r2] (jup M3 18 0 11 r3) (fun r4 M4 =>
              Q r4 M4)))) ∧
      (r1 = (0 : Int) →
        Q (-1) M1))) :
    jWP d 23 0 [some (.inr (18, 0)), some (.inl v1), none] [] M Q :=
  jreg [] 31 (by decide) ckX9_seek h
set_option maxRecDepth 100000 in
theorem fX9_sought_0 {d : Nat} {v1 : Int} {M : jM} {Q : Int → jM → Prop} (h :
    (v1 = (0 : Int) →
      jWP d 24 12 [some (.inr (18, 0)), some (.inl v1)] [] M Q) ∧
    (¬ v1 = (0 : Int) →
      (v1 = (1 : Int) →
        jWP d 24 12 [some (.inr (18, 0)), some (.inl v1)] [] M Q) ∧
      (¬ v1 = (1 : Int) →
        Q (-2) M))) :
    jWP d 24 0 [some (.inr (18, 0)), some (.inl v1)] [] M Q :=
  jreg [(12, [])] 11 (by decide) ckX9_sought h
set_option maxRecDepth 100000 in
theorem fX9_sought_12 {d : Nat} {v1 : Int} {M : jM} {Q : Int → jM → Prop} (h :
    (¬ (M 18 0 9) = (0 : Int) →
      (¬ v1 = (0 : Int) →
        Q (M 18 0 11) M) ∧
      (v1 = (0 : Int) →
        Q (M 18 0 10) M)) ∧
    ((M 18 0 9) = (0 : Int) →
      Q (-3) M)) :
    jWP d 24 12 [some (.inr (18, 0)), some (.inl v1)] [] M Q :=
  jreg [(12, [])] 16 (by decide) ckX9_sought h
set_option maxRecDepth 100000 in
theorem fX9_common_0 {d : Nat} {v1 : Int} {v2 : Int} {v3 : Int} {v4 : Int} {M : jM} {Q : Int → jM → Prop} (h :
    jCall d 30 [.inl v1] M (fun r1 M1 =>
      (r1 = (0 : Int) →
        Q (-1) M1) ∧
      (¬ r1 = (0 : Int) →
        jCall d 30 [.inl v2] M1 (fun r2 M2 =>
          (r2 = (0 : Int) →
            Q (-1) M2) ∧
          (¬ r2 = (0 : Int) →
            jCall d 30 [.inl v3] M2 (fun r3 M3 =>
              (¬ r3 = (0 : Int) →
                jCall d 31 [.inl v4] M3 (fun r4 M4 =>
                  (¬ r4 = (0 : Int) →
                    (v3 = v1 →
                      Q (-5) M4) ∧
                    (¬ v3 = v1 →
                      (¬ v3 = v2 →
                        (0 ≤ v1 ∧ v1 < 12) ∧ (0 ≤ v2 ∧ v2 < 12) ∧ jCall d 150 [.inr (22, 0), .inr (v1, 0), .inr (v2, 0), .inl v4, .inl (M4 18 0 8)] M4 (fun r5 M5 =>
                          (0 ≤ v1 ∧ v1 < 12) ∧ (0 ≤ v2 ∧ v2 < 12) ∧ jCall d 172 [.inr (26, 0), .inr (v1, 0), .inr (v2, 0)] M5 (fun _ M6 =>
                            (0 ≤ v3 ∧ v3 < 12) ∧ (0 ≤ v3 ∧ v3 < 18) ∧ jCall d 141 [.inr (v3, 0), .inr (14, 0)] M6 (fun _ M7 =>
                              (0 ≤ v3 ∧ v3 < 12) ∧ (0 ≤ v3 ∧ v3 < 18) ∧ Q (M7 v3 0 1) M7)))) ∧
                      (v3 = v2 →
                        Q (-5) M4))) ∧
                  (r4 = (0 : Int) →
                    Q (-2) M4))) ∧
              (r3 = (0 : Int) →
                Q (-1) M3))))))) :
    jWP d 25 0 [some (.inr (18, 0)), some (.inl v1), some (.inl v2), some (.inl v3), some (.inl v4)] [] M Q :=
  jreg [] 72 (by decide) ckX9_common h
set_option maxRecDepth 100000 in
theorem fX9_series_0 {d : Nat} {v1 : Int} {v2 : Int} {v3 : Int} {v4 : Int} {M : jM} {Q : Int → jM → Prop} (h :
    jCall d 30 [.inl v1] M (fun r1 M1 =>
      (r1 = (0 : Int) →
        Q (-1) M1) ∧
      (¬ r1 = (0 : Int) →
        jCall d 30 [.inl v2] M1 (fun r2 M2 =>
          (r2 = (0 : Int) →
            Q (-1) M2) ∧
          (¬ r2 = (0 : Int) →
            jCall d 30 [.inl v3] M2 (fun r3 M3 =>
              (r3 = (0 : Int) →
                Q (-1) M3) ∧
              (¬ r3 = (0 : Int) →
                jCall d 30 [.inl v4] M3 (fun r4 M4 =>
                  (¬ r4 = (0 : Int) →
                    (0 ≤ v1 ∧ v1 < 12) ∧ (0 ≤ v2 ∧ v2 < 12) ∧ jCall d 150 [.inr (22, 0), .inr (v1, 0), .inr (v2, 0), .inl 0, .inl (M4 18 0 8)] M4 (fun r5 M5 =>
                      (0 ≤ v1 ∧ v1 < 12) ∧ jCall d 173 [.inr (26, 0), .inr (v1, 0)] M5 (fun _ M6 =>
                        (0 ≤ v1 ∧ v1 < 12) ∧ (0 ≤ v3 ∧ v3 < 12) ∧ jCall d 150 [.inr (22, 0), .inr (v1, 0), .inr (v3, 0), .inl 0, .inl (M6 18 0 8)] M6 (fun r7 M7 =>
                          (0 ≤ v1 ∧ v1 < 12) ∧ (0 ≤ v3 ∧ v3 < 12) ∧ jCall d 174 [.inr (26, 0), .inr (v1, 0), .inr (v3, 0)] M7 (fun _ M8 =>
                            (0 ≤ v1 ∧ v1 < 12) ∧ jCall d 175 [.inr (26, 0), .inr (v1, 0)] M8 (fun _ M9 =>
                              (0 ≤ v1 ∧ v1 < 12) ∧ (0 ≤ v2 ∧ v2 < 12) ∧ jCall d 176 [.inr (26, 0), .inr (v1, 0), .inr (v2, 0)] M9 (fun r10 M10 =>
                                (¬ r10 = (0 : Int) →
                                  (0 ≤ v4 ∧ v4 < 12) ∧ (0 ≤ v4 ∧ v4 < 18) ∧ jCall d 141 [.inr (v4, 0), .inr (14, 0)] M10 (fun _ M11 =>
                                    (0 ≤ v4 ∧ v4 < 12) ∧ (0 ≤ v4 ∧ v4 < 18) ∧ Q (M11 v4 0 1) M11)) ∧
                                (r10 = (0 : Int) →
                                  Q (-4) M10)))))))) ∧
                  (r4 = (0 : Int) →
                    Q (-1) M4))))))))) :
    jWP d 26 0 [some (.inr (18, 0)), some (.inl v1), some (.inl v2), some (.inl v3), some (.inl v4)] [] M Q :=
  jreg [] 105 (by decide) ckX9_series h
set_option maxRecDepth 100000 in
theorem fX9_leftOut_0 {d : Nat} {v1 : Int} {v2 : Int} {M : jM} {Q : Int → jM → Prop} (h :
    jCall d 30 [.inl v1] M (fun r1 M1 =>
      (r1 = (0 : Int) →
        Q (-1) M1) ∧
      (¬ r1 = (0 : Int) →
        jCall d 30 [.inl v2] M1 (fun r2 M2 =>
          (¬ r2 = (0 : Int) →
            (0 ≤ v1 ∧ v1 < 12) ∧ (0 ≤ v1 ∧ v1 < 18) ∧ (0 ≤ v1 ∧ v1 < 12) ∧ (0 ≤ v2 ∧ v2 < 12) ∧ jCall d 153 [.inr (22, 0), .inr (v1, 0), .inr (v2, 0), .inl (M2 18 0 8)] M2 (fun r3 M3 =>
              Q (jwr ((M2 v1 0 1) - r3)) M3)) ∧
          (r2 = (0 : Int) →
            Q (-1) M2))))) :
    jWP d 27 0 [some (.inr (18, 0)), some (.inl v1), some (.inl v2)] [] M Q :=
  jreg [] 32 (by decide) ckX9_leftOut h
set_option maxRecDepth 100000 in
theorem fX9_trial_0 {d : Nat} {v1 : Int} {M : jM} {Q : Int → jM → Prop} (h :
    (v1 < (10 : Int) →
      jWP d 28 17 [some (.inr (18, 0)), some (.inl v1), none, none, none, none] [.inl 0] M Q) ∧
    ((10 : Int) ≤ v1 →
      ((20 : Int) ≤ v1 →
        jWP d 28 17 [some (.inr (18, 0)), some (.inl v1), none, none, none, none] [.inl 0] M Q) ∧
      (v1 < (20 : Int) →
        jWP d 28 17 [some (.inr (18, 0)), some (.inl v1), none, none, none, none] [.inl 1] M Q))) :
    jWP d 28 0 [some (.inr (18, 0)), some (.inl v1), none, none, none, none] [] M Q :=
  jreg [(17, [2, 3, 4, 5]), (39, [5]), (85, [5])] 15 (by decide) ckX9_trial h
set_option maxRecDepth 100000 in
theorem fX9_trial_17 {d : Nat} {v1 : Int} {s0 : Int} {M : jM} {Q : Int → jM → Prop} (h :
    (v1 = (0 : Int) →
      jWP d 28 39 [some (.inr (18, 0)), some (.inl v1), some (.inl s0), some (.inl 0), some (.inl 0), none] [] M Q) ∧
    (¬ v1 = (0 : Int) →
      (v1 = (1 : Int) →
        jWP d 28 39 [some (.inr (18, 0)), some (.inl v1), some (.inl s0), some (.inl 0), some (.inl 0), none] [] M Q) ∧
      (¬ v1 = (1 : Int) →
        (¬ s0 = (0 : Int) →
          jWP d 28 39 [some (.inr (18, 0)), some (.inl v1), some (.inl s0), some (.inl 0), some (.inl 0), none] [] M Q) ∧
        (s0 = (0 : Int) →
          Q (-2) M)))) :
    jWP d 28 17 [some (.inr (18, 0)), some (.inl v1), none, none, none, none] [.inl s0] M Q :=
  jreg [(17, [2, 3, 4, 5]), (39, [5]), (85, [5])] 27 (by decide) ckX9_trial h
set_option maxRecDepth 100000 in
theorem fX9_trial_39 {d : Nat} {v1 : Int} {v2 : Int} {v3 : Int} {v4 : Int} {M : jM} {Q : Int → jM → Prop} (h :
    ((12 : Int) ≤ v4 →
      Q v3 M) ∧
    (v4 < (12 : Int) →
      (0 ≤ v4 ∧ v4 < 12) ∧ (0 ≤ v4 ∧ v4 < 18) ∧ ((M v4 0 1) ≤ (0 : Int) →
        jWP d 28 85 [some (.inr (18, 0)), some (.inl v1), some (.inl v2), some (.inl v3), some (.inl v4), none] [.inl 0] M Q) ∧
      ((0 : Int) < (M v4 0 1) →
        (v2 = (0 : Int) →
          jWP d 28 85 [some (.inr (18, 0)), some (.inl v1), some (.inl v2), some (.inl v3), some (.inl v4), none] [.inl 1] M Q) ∧
        (¬ v2 = (0 : Int) →
          (0 ≤ v4 ∧ v4 < 12) ∧ (0 ≤ v4 ∧ v4 < 18) ∧ (¬ (M v4 0 2) = (jwr (v1 - 10)) →
            jWP d 28 85 [some (.inr (18, 0)), some (.inl v1), some (.inl v2), some (.inl v3), some (.inl v4), none] [.inl 0] M Q) ∧
          ((M v4 0 2) = (jwr (v1 - 10)) →
            jWP d 28 85 [some (.inr (18, 0)), some (.inl v1), some (.inl v2), some (.inl v3), some (.inl v4), none] [.inl 1] M Q))))) :
    jWP d 28 39 [some (.inr (18, 0)), some (.inl v1), some (.inl v2), some (.inl v3), some (.inl v4), none] [] M Q :=
  jreg [(17, [2, 3, 4, 5]), (39, [5]), (85, [5])] 34 (by decide) ckX9_trial h
set_option maxRecDepth 100000 in
theorem fX9_trial_85 {d : Nat} {v1 : Int} {v2 : Int} {v3 : Int} {v4 : Int} {s0 : Int} {M : jM} {Q : Int → jM → Prop} (h :
    (s0 = (0 : Int) →
      jWP d 28 39 [some (.inr (18, 0)), some (.inl v1), some (.inl v2), some (.inl v3), some (.inl (jwr (v4 + 1))), none] [] M Q) ∧
    (¬ s0 = (0 : Int) →
      (v1 = (1 : Int) →
        jWP d 28 39 [some (.inr (18, 0)), some (.inl v1), some (.inl v2), some (.inl (jwr (v3 + 1))), some (.inl (jwr (v4 + 1))), none] [] M Q) ∧
      (¬ v1 = (1 : Int) →
        jCall d 162 [.inr (27, 0), .inl v4, .inl (M 18 0 8)] M (fun r1 M1 =>
          jCall d 37 [.inr (18, 0), .inl v4, .inl r1] M1 (fun r2 M2 =>
            (r2 = (0 : Int) →
              jWP d 28 39 [some (.inr (18, 0)), some (.inl v1), some (.inl v2), some (.inl v3), some (.inl (jwr (v4 + 1))), none] [] M2 Q) ∧
            (¬ r2 = (0 : Int) →
              jWP d 28 39 [some (.inr (18, 0)), some (.inl v1), some (.inl v2), some (.inl (jwr (v3 + 1))), some (.inl (jwr (v4 + 1))), none] [] M2 Q)))))) :
    jWP d 28 85 [some (.inr (18, 0)), some (.inl v1), some (.inl v2), some (.inl v3), some (.inl v4), none] [.inl s0] M Q :=
  jreg [(17, [2, 3, 4, 5]), (39, [5]), (85, [5])] 32 (by decide) ckX9_trial h
set_option maxRecDepth 100000 in
theorem fX9_isKind_0 {d : Nat} {v0 : Int} {M : jM} {Q : Int → jM → Prop} (h :
    (v0 < (0 : Int) →
      ((0 : Int) = 0 ∨ (0 : Int) = 1) ∧ Q 0 M) ∧
    ((0 : Int) ≤ v0 →
      ((16 : Int) ≤ v0 →
        ((0 : Int) = 0 ∨ (0 : Int) = 1) ∧ Q 0 M) ∧
      (v0 < (16 : Int) →
        ((1 : Int) = 0 ∨ (1 : Int) = 1) ∧ Q 1 M))) :
    jWP d 29 0 [some (.inl v0)] [] M Q :=
  jreg [] 14 (by decide) ckX9_isKind h
set_option maxRecDepth 100000 in
theorem fX9_isTale_0 {d : Nat} {v0 : Int} {M : jM} {Q : Int → jM → Prop} (h :
    (v0 < (0 : Int) →
      ((0 : Int) = 0 ∨ (0 : Int) = 1) ∧ Q 0 M) ∧
    ((0 : Int) ≤ v0 →
      ((12 : Int) ≤ v0 →
        ((0 : Int) = 0 ∨ (0 : Int) = 1) ∧ Q 0 M) ∧
      (v0 < (12 : Int) →
        ((1 : Int) = 0 ∨ (1 : Int) = 1) ∧ Q 1 M))) :
    jWP d 30 0 [some (.inl v0)] [] M Q :=
  jreg [] 14 (by decide) ckX9_isTale h
set_option maxRecDepth 100000 in
theorem fX9_isLevel_0 {d : Nat} {v0 : Int} {M : jM} {Q : Int → jM → Prop} (h :
    (v0 < (0 : Int) →
      ((0 : Int) = 0 ∨ (0 : Int) = 1) ∧ Q 0 M) ∧
    ((0 : Int) ≤ v0 →
      ((2 : Int) < v0 →
        ((0 : Int) = 0 ∨ (0 : Int) = 1) ∧ Q 0 M) ∧
      (v0 ≤ (2 : Int) →
        ((1 : Int) = 0 ∨ (1 : Int) = 1) ∧ Q 1 M))) :
    jWP d 31 0 [some (.inl v0)] [] M Q :=
  jreg [] 14 (by decide) ckX9_isLevel h
set_option maxRecDepth 100000 in
theorem fX9_isDigit_0 {d : Nat} {v0 : Int} {M : jM} {Q : Int → jM → Prop} (h :
    (v0 < (0 : Int) →
      ((0 : Int) = 0 ∨ (0 : Int) = 1) ∧ Q 0 M) ∧
    ((0 : Int) ≤ v0 →
      ((10 : Int) ≤ v0 →
        ((0 : Int) = 0 ∨ (0 : Int) = 1) ∧ Q 0 M) ∧
      (v0 < (10 : Int) →
        ((1 : Int) = 0 ∨ (1 : Int) = 1) ∧ Q 1 M))) :
    jWP d 32 0 [some (.inl v0)] [] M Q :=
  jreg [] 14 (by decide) ckX9_isDigit h
set_option maxRecDepth 100000 in
theorem fX9_orNone_0 {d : Nat} {v0 : Int} {M : jM} {Q : Int → jM → Prop} (h :
    ((0 : Int) ≤ v0 →
      Q v0 M) ∧
    (v0 < (0 : Int) →
      Q (-6) M)) :
    jWP d 33 0 [some (.inl v0)] [] M Q :=
  jreg [] 9 (by decide) ckX9_orNone h
set_option maxRecDepth 100000 in
theorem fX9_refusedLikeness_0 {d : Nat} {v0 : Int} {v1 : Int} {v2 : Int} {M : jM} {Q : Int → jM → Prop} (h :
    jCall d 30 [.inl v0] M (fun r1 M1 =>
      (r1 = (0 : Int) →
        Q (-1) M1) ∧
      (¬ r1 = (0 : Int) →
        jCall d 30 [.inl v1] M1 (fun r2 M2 =>
          (¬ r2 = (0 : Int) →
            jCall d 31 [.inl v2] M2 (fun r3 M3 =>
              (r3 = (0 : Int) →
                Q (-2) M3) ∧
              (¬ r3 = (0 : Int) →
                Q 0 M3))) ∧
          (r2 = (0 : Int) →
            Q (-1) M2))))) :
    jWP d 34 0 [some (.inl v0), some (.inl v1), some (.inl v2)] [] M Q :=
  jreg [] 20 (by decide) ckX9_refusedLikeness h
set_option maxRecDepth 100000 in
theorem fX9_tiesToldOf_0 {d : Nat} {v1 : Int} {M : jM} {Q : Int → jM → Prop} (h :
    jWP d 35 4 [some (.inr (18, 0)), some (.inl v1), some (.inl 0), some (.inl 0)] [] M Q) :
    jWP d 35 0 [some (.inr (18, 0)), some (.inl v1), none, none] [] M Q :=
  jreg [(4, [])] 7 (by decide) ckX9_tiesToldOf h
set_option maxRecDepth 100000 in
theorem fX9_tiesToldOf_4 {d : Nat} {v1 : Int} {v2 : Int} {v3 : Int} {M : jM} {Q : Int → jM → Prop} (h :
    ((12 : Int) ≤ v3 →
      Q v2 M) ∧
    (v3 < (12 : Int) →
      (0 ≤ v3 ∧ v3 < 12) ∧ (0 ≤ v3 ∧ v3 < 18) ∧ jCall d 148 [.inr (v3, 0), .inl v1] M (fun r1 M1 =>
        jWP d 35 4 [some (.inr (18, 0)), some (.inl v1), some (.inl (jwr (v2 + r1))), some (.inl (jwr (v3 + 1)))] [] M1 Q))) :
    jWP d 35 4 [some (.inr (18, 0)), some (.inl v1), some (.inl v2), some (.inl v3)] [] M Q :=
  jreg [(4, [])] 19 (by decide) ckX9_tiesToldOf h
set_option maxRecDepth 100000 in
theorem fX9_isInUse_0 {d : Nat} {v1 : Int} {M : jM} {Q : Int → jM → Prop} (h :
    jCall d 35 [.inr (18, 0), .inl v1] M (fun r1 M1 =>
      (0 ≤ (12 : Int) ∧ (12 : Int) < 18) ∧ jCall d 148 [.inr (12, 0), .inl v1] M1 (fun r2 M2 =>
        (0 ≤ (13 : Int) ∧ (13 : Int) < 18) ∧ jCall d 148 [.inr (13, 0), .inl v1] M2 (fun r3 M3 =>
          ((jwr ((jwr (r1 + r2)) + r3)) ≤ (0 : Int) →
            ((0 : Int) = 0 ∨ (0 : Int) = 1) ∧ Q 0 M3) ∧
          ((0 : Int) < (jwr ((jwr (r1 + r2)) + r3)) →
            ((1 : Int) = 0 ∨ (1 : Int) = 1) ∧ Q 1 M3))))) :
    jWP d 36 0 [some (.inr (18, 0)), some (.inl v1)] [] M Q :=
  jreg [] 23 (by decide) ckX9_isInUse h
set_option maxRecDepth 100000 in
theorem fX9_isRight_0 {d : Nat} {v1 : Int} {v2 : Int} {M : jM} {Q : Int → jM → Prop} (h :
    (v2 < (0 : Int) →
      ((0 : Int) = 0 ∨ (0 : Int) = 1) ∧ Q 0 M) ∧
    ((0 : Int) ≤ v2 →
      ((12 : Int) ≤ v2 →
        ((0 : Int) = 0 ∨ (0 : Int) = 1) ∧ Q 0 M) ∧
      (v2 < (12 : Int) →
        (0 ≤ v2 ∧ v2 < 12) ∧ (0 ≤ v2 ∧ v2 < 18) ∧ (0 ≤ v1 ∧ v1 < 12) ∧ (0 ≤ v1 ∧ v1 < 18) ∧ (¬ (M v2 0 2) = (M v1 0 2) →
          ((0 : Int) = 0 ∨ (0 : Int) = 1) ∧ Q 0 M) ∧
        ((M v2 0 2) = (M v1 0 2) →
          ((1 : Int) = 0 ∨ (1 : Int) = 1) ∧ Q 1 M)))) :
    jWP d 37 0 [some (.inr (18, 0)), some (.inl v1), some (.inl v2)] [] M Q :=
  jreg [] 27 (by decide) ckX9_isRight h
