set_option maxRecDepth 100000 in
theorem fX10_in_0 {d : Nat} {v0 : Int} {v1 : Int} {v2 : Int} {M : jM} {Q : Int → jM → Prop} (h :
    (v0 < v1 →
      ((0 : Int) = 0 ∨ (0 : Int) = 1) ∧ Q 0 M) ∧
    (v1 ≤ v0 →
      (v2 < v0 →
        ((0 : Int) = 0 ∨ (0 : Int) = 1) ∧ Q 0 M) ∧
      (v0 ≤ v2 →
        ((1 : Int) = 0 ∨ (1 : Int) = 1) ∧ Q 1 M))) :
    jWP d 39 0 [some (.inl v0), some (.inl v1), some (.inl v2)] [] M Q :=
  jreg [] 15 (by decide) ckX10_in h
set_option maxRecDepth 100000 in
theorem fX10_isKind_0 {d : Nat} {v0 : Int} {M : jM} {Q : Int → jM → Prop} (h :
    jCall d 39 [.inl v0, .inl 0, .inl 15] M (fun r1 M1 =>
      (r1 = 0 ∨ r1 = 1) ∧ Q r1 M1)) :
    jWP d 40 0 [some (.inl v0)] [] M Q :=
  jreg [] 7 (by decide) ckX10_isKind h
set_option maxRecDepth 100000 in
theorem fX10_isTale_0 {d : Nat} {v0 : Int} {M : jM} {Q : Int → jM → Prop} (h :
    jCall d 39 [.inl v0, .inl 0, .inl 11] M (fun r1 M1 =>
      (r1 = 0 ∨ r1 = 1) ∧ Q r1 M1)) :
    jWP d 41 0 [some (.inl v0)] [] M Q :=
  jreg [] 7 (by decide) ckX10_isTale h
set_option maxRecDepth 100000 in
theorem fX10_at_0 {d : Nat} {v0 : Int} {v1 : Int} {M : jM} {Q : Int → jM → Prop} (h :
    Q (jwr ((jwr (84 * v0)) + (jwr (6 * v1)))) M) :
    jWP d 42 0 [some (.inl v0), some (.inl v1)] [] M Q :=
  jreg [] 10 (by decide) ckX10_at h
set_option maxRecDepth 100000 in
theorem fX10_tiesOf_0 {d : Nat} {v1 : Int} {M : jM} {Q : Int → jM → Prop} (h :
    jWP d 43 4 [some (.inr (28, 0)), some (.inl v1), some (.inl 0), some (.inl 0), none] [] M Q) :
    jWP d 43 0 [some (.inr (28, 0)), some (.inl v1), none, none, none] [] M Q :=
  jreg [(4, [4]), (13, [])] 7 (by decide) ckX10_tiesOf h
set_option maxRecDepth 100000 in
theorem fX10_tiesOf_4 {d : Nat} {v1 : Int} {v2 : Int} {v3 : Int} {M : jM} {Q : Int → jM → Prop} (h :
    ((12 : Int) ≤ v3 →
      Q v2 M) ∧
    (v3 < (12 : Int) →
      jWP d 43 13 [some (.inr (28, 0)), some (.inl v1), some (.inl v2), some (.inl v3), some (.inl 0)] [] M Q)) :
    jWP d 43 4 [some (.inr (28, 0)), some (.inl v1), some (.inl v2), some (.inl v3), none] [] M Q :=
  jreg [(4, [4]), (13, [])] 10 (by decide) ckX10_tiesOf h
set_option maxRecDepth 100000 in
theorem fX10_tiesOf_13 {d : Nat} {v1 : Int} {v2 : Int} {v3 : Int} {v4 : Int} {M : jM} {Q : Int → jM → Prop} (h :
    (0 ≤ v3 ∧ v3 < jal 28 9) ∧ ((M 28 9 v3) ≤ v4 →
      jWP d 43 4 [some (.inr (28, 0)), some (.inl v1), some (.inl v2), some (.inl (jwr (v3 + 1))), none] [] M Q) ∧
    (v4 < (M 28 9 v3) →
      jCall d 42 [.inl v3, .inl v4] M (fun r1 M1 =>
        (0 ≤ r1 ∧ r1 < jal 28 10) ∧ (¬ (M1 28 10 r1) = v1 →
          jWP d 43 13 [some (.inr (28, 0)), some (.inl v1), some (.inl (jwr (v2 + 0))), some (.inl v3), some (.inl (jwr (v4 + 1)))] [] M1 Q) ∧
        ((M1 28 10 r1) = v1 →
          jWP d 43 13 [some (.inr (28, 0)), some (.inl v1), some (.inl (jwr (v2 + 1))), some (.inl v3), some (.inl (jwr (v4 + 1)))] [] M1 Q)))) :
    jWP d 43 13 [some (.inr (28, 0)), some (.inl v1), some (.inl v2), some (.inl v3), some (.inl v4)] [] M Q :=
  jreg [(4, [4]), (13, [])] 33 (by decide) ckX10_tiesOf h
set_option maxRecDepth 100000 in
theorem fX10_isUsed_0 {d : Nat} {v1 : Int} {M : jM} {Q : Int → jM → Prop} (h :
    jCall d 43 [.inr (28, 0), .inl v1] M (fun r1 M1 =>
      (r1 ≤ (0 : Int) →
        jWP d 44 17 [some (.inr (28, 0)), some (.inl v1), some (.inl 0), some (.inl 12), none] [] M1 Q) ∧
      ((0 : Int) < r1 →
        jWP d 44 17 [some (.inr (28, 0)), some (.inl v1), some (.inl 1), some (.inl 12), none] [] M1 Q))) :
    jWP d 44 0 [some (.inr (28, 0)), some (.inl v1), none, none, none] [] M Q :=
  jreg [(17, [4]), (33, [])] 17 (by decide) ckX10_isUsed h
set_option maxRecDepth 100000 in
theorem fX10_isUsed_17 {d : Nat} {v1 : Int} {v2 : Int} {v3 : Int} {M : jM} {Q : Int → jM → Prop} (h :
    ((14 : Int) ≤ v3 →
      (v2 = 0 ∨ v2 = 1) ∧ Q v2 M) ∧
    (v3 < (14 : Int) →
      ((M 28 0 17) = (0 : Int) →
        (v2 = 0 ∨ v2 = 1) ∧ Q v2 M) ∧
      (¬ (M 28 0 17) = (0 : Int) →
        jWP d 44 33 [some (.inr (28, 0)), some (.inl v1), some (.inl v2), some (.inl v3), some (.inl 0)] [] M Q))) :
    jWP d 44 17 [some (.inr (28, 0)), some (.inl v1), some (.inl v2), some (.inl v3), none] [] M Q :=
  jreg [(17, [4]), (33, [])] 15 (by decide) ckX10_isUsed h
set_option maxRecDepth 100000 in
theorem fX10_isUsed_33 {d : Nat} {v1 : Int} {v2 : Int} {v3 : Int} {v4 : Int} {M : jM} {Q : Int → jM → Prop} (h :
    (0 ≤ v3 ∧ v3 < jal 28 9) ∧ ((M 28 9 v3) ≤ v4 →
      jWP d 44 17 [some (.inr (28, 0)), some (.inl v1), some (.inl v2), some (.inl (jwr (v3 + 1))), none] [] M Q) ∧
    (v4 < (M 28 9 v3) →
      (¬ v2 = (0 : Int) →
        jWP d 44 33 [some (.inr (28, 0)), some (.inl v1), some (.inl 1), some (.inl v3), some (.inl (jwr (v4 + 1)))] [] M Q) ∧
      (v2 = (0 : Int) →
        jCall d 42 [.inl v3, .inl v4] M (fun r1 M1 =>
          (0 ≤ r1 ∧ r1 < jal 28 10) ∧ (¬ (M1 28 10 r1) = v1 →
            jWP d 44 33 [some (.inr (28, 0)), some (.inl v1), some (.inl 0), some (.inl v3), some (.inl (jwr (v4 + 1)))] [] M1 Q) ∧
          ((M1 28 10 r1) = v1 →
            jWP d 44 33 [some (.inr (28, 0)), some (.inl v1), some (.inl 1), some (.inl v3), some (.inl (jwr (v4 + 1)))] [] M1 Q))))) :
    jWP d 44 33 [some (.inr (28, 0)), some (.inl v1), some (.inl v2), some (.inl v3), some (.inl v4)] [] M Q :=
  jreg [(17, [4]), (33, [])] 38 (by decide) ckX10_isUsed h
set_option maxRecDepth 100000 in
theorem fX10_isWide_0 {d : Nat} {v1 : Int} {M : jM} {Q : Int → jM → Prop} (h :
    jWP d 45 4 [some (.inr (28, 0)), some (.inl v1), some (.inl 0), some (.inl 0)] [] M Q) :
    jWP d 45 0 [some (.inr (28, 0)), some (.inl v1), none, none] [] M Q :=
  jreg [(4, [])] 7 (by decide) ckX10_isWide h
set_option maxRecDepth 100000 in
theorem fX10_isWide_4 {d : Nat} {v1 : Int} {v2 : Int} {v3 : Int} {M : jM} {Q : Int → jM → Prop} (h :
    ((16 : Int) ≤ v3 →
      (v2 = 0 ∨ v2 = 1) ∧ Q v2 M) ∧
    (v3 < (16 : Int) →
      (¬ v2 = (0 : Int) →
        jWP d 45 4 [some (.inr (28, 0)), some (.inl v1), some (.inl 1), some (.inl (jwr (v3 + 1)))] [] M Q) ∧
      (v2 = (0 : Int) →
        (0 ≤ v3 ∧ v3 < jal 28 3) ∧ (¬ (M 28 3 v3) = v1 →
          jWP d 45 4 [some (.inr (28, 0)), some (.inl v1), some (.inl 0), some (.inl (jwr (v3 + 1)))] [] M Q) ∧
        ((M 28 3 v3) = v1 →
          jWP d 45 4 [some (.inr (28, 0)), some (.inl v1), some (.inl 1), some (.inl (jwr (v3 + 1)))] [] M Q)))) :
    jWP d 45 4 [some (.inr (28, 0)), some (.inl v1), some (.inl v2), some (.inl v3)] [] M Q :=
  jreg [(4, [])] 32 (by decide) ckX10_isWide h
set_option maxRecDepth 100000 in
theorem fX10_kind_0 {d : Nat} {v1 : Int} {v2 : Int} {v3 : Int} {M : jM} {Q : Int → jM → Prop} (h :
    jCall d 40 [.inl v1] M (fun r1 M1 =>
      (¬ r1 = (0 : Int) →
        jCall d 39 [.inl v2, .inl 1, .inl 3] M1 (fun r2 M2 =>
          (¬ r2 = (0 : Int) →
            jCall d 44 [.inr (28, 0), .inl v1] M2 (fun r3 M3 =>
              (¬ r3 = (0 : Int) →
                Q (-3) M3) ∧
              (r3 = (0 : Int) →
                (0 ≤ v1 ∧ v1 < jal 28 3) ∧ ((0 : Int) ≤ (M3 28 3 v1) →
                  Q (-3) M3) ∧
                ((M3 28 3 v1) < (0 : Int) →
                  jCall d 45 [.inr (28, 0), .inl v1] M3 (fun r4 M4 =>
                    (¬ r4 = (0 : Int) →
                      Q (-3) M4) ∧
                    (r4 = (0 : Int) →
                      (0 ≤ v1 ∧ v1 < jal 28 4) ∧ ((M4 28 4 v1) < (0 : Int) →
                        (0 ≤ v1 ∧ v1 < jal 28 1) ∧ (0 ≤ v1 ∧ v1 < jal 28 1) ∧ (v3 = (0 : Int) →
                          (0 ≤ v1 ∧ v1 < jbl 28 2) ∧ ((0 : Int) = 0 ∨ (0 : Int) = 1) ∧ Q (M4 28 1 v1) (jup (jup M4 28 1 v1 v2) 28 2 v1 0)) ∧
                        (¬ v3 = (0 : Int) →
                          (¬ v2 = (2 : Int) →
                            (0 ≤ v1 ∧ v1 < jbl 28 2) ∧ ((0 : Int) = 0 ∨ (0 : Int) = 1) ∧ Q (M4 28 1 v1) (jup (jup M4 28 1 v1 v2) 28 2 v1 0)) ∧
                          (v2 = (2 : Int) →
                            (0 ≤ v1 ∧ v1 < jbl 28 2) ∧ ((1 : Int) = 0 ∨ (1 : Int) = 1) ∧ Q (M4 28 1 v1) (jup (jup M4 28 1 v1 v2) 28 2 v1 1)))) ∧
                      ((0 : Int) ≤ (M4 28 4 v1) →
                        Q (-3) M4))))))) ∧
          (r2 = (0 : Int) →
            Q (-2) M2))) ∧
      (r1 = (0 : Int) →
        Q (-1) M1))) :
    jWP d 46 0 [some (.inr (28, 0)), some (.inl v1), some (.inl v2), some (.inl v3), none] [] M Q :=
  jreg [] 71 (by decide) ckX10_kind h
set_option maxRecDepth 100000 in
theorem fX10_above_0 {d : Nat} {v1 : Int} {v2 : Int} {M : jM} {Q : Int → jM → Prop} (h :
    jWP d 47 5 [some (.inr (28, 0)), none, some (.inl v2), some (.inl v1), some (.inl 0)] [] M Q) :
    jWP d 47 0 [some (.inr (28, 0)), some (.inl v1), some (.inl v2), none, none] [] M Q :=
  jreg [(5, [1])] 7 (by decide) ckX10_above h
set_option maxRecDepth 100000 in
theorem fX10_above_5 {d : Nat} {v2 : Int} {v3 : Int} {v4 : Int} {M : jM} {Q : Int → jM → Prop} (h :
    (v2 ≤ v4 →
      Q v3 M) ∧
    (v4 < v2 →
      (0 ≤ v3 ∧ v3 < jal 28 3) ∧ ((M 28 3 v3) < (0 : Int) →
        jWP d 47 5 [some (.inr (28, 0)), none, some (.inl v2), some (.inl v3), some (.inl (jwr (v4 + 1)))] [] M Q) ∧
      ((0 : Int) ≤ (M 28 3 v3) →
        (0 ≤ v3 ∧ v3 < jal 28 3) ∧ jWP d 47 5 [some (.inr (28, 0)), none, some (.inl v2), some (.inl (M 28 3 v3)), some (.inl (jwr (v4 + 1)))] [] M Q))) :
    jWP d 47 5 [some (.inr (28, 0)), none, some (.inl v2), some (.inl v3), some (.inl v4)] [] M Q :=
  jreg [(5, [1])] 26 (by decide) ckX10_above h
set_option maxRecDepth 100000 in
theorem fX10_wider_0 {d : Nat} {v1 : Int} {v2 : Int} {M : jM} {Q : Int → jM → Prop} (h :
    jCall d 40 [.inl v1] M (fun r1 M1 =>
      (r1 = (0 : Int) →
        Q (-1) M1) ∧
      (¬ r1 = (0 : Int) →
        (v2 = (-1 : Int) →
          jWP d 48 21 [some (.inr (28, 0)), some (.inl v1), some (.inl v2), none, none] [] M1 Q) ∧
        (¬ v2 = (-1 : Int) →
          jCall d 40 [.inl v2] M1 (fun r2 M2 =>
            (¬ r2 = (0 : Int) →
              jWP d 48 21 [some (.inr (28, 0)), some (.inl v1), some (.inl v2), none, none] [] M2 Q) ∧
            (r2 = (0 : Int) →
              Q (-1) M2)))))) :
    jWP d 48 0 [some (.inr (28, 0)), some (.inl v1), some (.inl v2), none, none] [] M Q :=
  jreg [(21, [3, 4]), (37, []), (70, [4]), (89, [4])] 17 (by decide) ckX10_wider h
set_option maxRecDepth 100000 in
theorem fX10_wider_21 {d : Nat} {v1 : Int} {v2 : Int} {M : jM} {Q : Int → jM → Prop} (h :
    jCall d 44 [.inr (28, 0), .inl v1] M (fun r1 M1 =>
      (r1 = (0 : Int) →
        jWP d 48 37 [some (.inr (28, 0)), some (.inl v1), some (.inl v2), some (.inl 0), some (.inl v2)] [] M1 Q) ∧
      (¬ r1 = (0 : Int) →
        Q (-3) M1))) :
    jWP d 48 21 [some (.inr (28, 0)), some (.inl v1), some (.inl v2), none, none] [] M Q :=
  jreg [(21, [3, 4]), (37, []), (70, [4]), (89, [4])] 13 (by decide) ckX10_wider h
set_option maxRecDepth 100000 in
theorem fX10_wider_37 {d : Nat} {v1 : Int} {v2 : Int} {v3 : Int} {v4 : Int} {M : jM} {Q : Int → jM → Prop} (h :
    (v4 < (0 : Int) →
      jWP d 48 70 [some (.inr (28, 0)), some (.inl v1), some (.inl v2), some (.inl v3), none] [] M Q) ∧
    ((0 : Int) ≤ v4 →
      (¬ v3 = (0 : Int) →
        jWP d 48 70 [some (.inr (28, 0)), some (.inl v1), some (.inl v2), some (.inl v3), none] [] M Q) ∧
      (v3 = (0 : Int) →
        (¬ v4 = v1 →
          (0 ≤ v4 ∧ v4 < jal 28 3) ∧ jWP d 48 37 [some (.inr (28, 0)), some (.inl v1), some (.inl v2), some (.inl 0), some (.inl (M 28 3 v4))] [] M Q) ∧
        (v4 = v1 →
          (0 ≤ v4 ∧ v4 < jal 28 3) ∧ jWP d 48 37 [some (.inr (28, 0)), some (.inl v1), some (.inl v2), some (.inl 1), some (.inl (M 28 3 v4))] [] M Q)))) :
    jWP d 48 37 [some (.inr (28, 0)), some (.inl v1), some (.inl v2), some (.inl v3), some (.inl v4)] [] M Q :=
  jreg [(21, [3, 4]), (37, []), (70, [4]), (89, [4])] 30 (by decide) ckX10_wider h
set_option maxRecDepth 100000 in
theorem fX10_wider_70 {d : Nat} {v1 : Int} {v2 : Int} {v3 : Int} {M : jM} {Q : Int → jM → Prop} (h :
    (v2 < (0 : Int) →
      jWP d 48 89 [some (.inr (28, 0)), some (.inl v1), some (.inl v2), some (.inl v3), none] [] M Q) ∧
    ((0 : Int) ≤ v2 →
      (0 ≤ v2 ∧ v2 < jal 28 1) ∧ (0 ≤ v1 ∧ v1 < jal 28 1) ∧ (¬ (M 28 1 v2) = (M 28 1 v1) →
        Q (-5) M) ∧
      ((M 28 1 v2) = (M 28 1 v1) →
        jWP d 48 89 [some (.inr (28, 0)), some (.inl v1), some (.inl v2), some (.inl v3), none] [] M Q))) :
    jWP d 48 70 [some (.inr (28, 0)), some (.inl v1), some (.inl v2), some (.inl v3), none] [] M Q :=
  jreg [(21, [3, 4]), (37, []), (70, [4]), (89, [4])] 17 (by decide) ckX10_wider h
set_option maxRecDepth 100000 in
theorem fX10_wider_89 {d : Nat} {v1 : Int} {v2 : Int} {v3 : Int} {M : jM} {Q : Int → jM → Prop} (h :
    (v3 = (0 : Int) →
      (0 ≤ v1 ∧ v1 < jal 28 3) ∧ ((0 : Int) ≤ v2 →
        (0 ≤ v1 ∧ v1 < jal 28 3) ∧ Q (M 28 3 v1) (jup M 28 3 v1 v2)) ∧
      (v2 < (0 : Int) →
        (0 ≤ v1 ∧ v1 < jal 28 3) ∧ Q (M 28 3 v1) (jup M 28 3 v1 (-6)))) ∧
    (¬ v3 = (0 : Int) →
      Q (-5) M)) :
    jWP d 48 89 [some (.inr (28, 0)), some (.inl v1), some (.inl v2), some (.inl v3), none] [] M Q :=
  jreg [(21, [3, 4]), (37, []), (70, [4]), (89, [4])] 25 (by decide) ckX10_wider h
set_option maxRecDepth 100000 in
theorem fX10_free_0 {d : Nat} {v1 : Int} {M : jM} {Q : Int → jM → Prop} (h :
    (0 ≤ v1 ∧ v1 < jal 28 4) ∧ ((M 28 4 v1) < (0 : Int) →
      Q 0 M) ∧
    ((0 : Int) ≤ (M 28 4 v1) →
      (0 ≤ v1 ∧ v1 < jal 28 4) ∧ (0 ≤ (M 28 4 v1) ∧ (M 28 4 v1) < jal 28 4) ∧ (0 ≤ v1 ∧ v1 < jal 28 4) ∧ Q 0 (jup (jup M 28 4 (M 28 4 v1) (-6)) 28 4 v1 (-6)))) :
    jWP d 49 0 [some (.inr (28, 0)), some (.inl v1)] [] M Q :=
  jreg [] 22 (by decide) ckX10_free h
set_option maxRecDepth 100000 in
theorem fX10_opposite_0 {d : Nat} {v1 : Int} {v2 : Int} {M : jM} {Q : Int → jM → Prop} (h :
    jCall d 40 [.inl v1] M (fun r1 M1 =>
      (r1 = (0 : Int) →
        Q (-1) M1) ∧
      (¬ r1 = (0 : Int) →
        jCall d 40 [.inl v2] M1 (fun r2 M2 =>
          (¬ r2 = (0 : Int) →
            (0 ≤ v1 ∧ v1 < jal 28 1) ∧ (0 ≤ v2 ∧ v2 < jal 28 1) ∧ ((M2 28 1 v1) = (M2 28 1 v2) →
              jCall d 49 [.inr (28, 0), .inl v1] M2 (fun _ M3 =>
                jCall d 49 [.inr (28, 0), .inl v2] M3 (fun _ M4 =>
                  (v1 = v2 →
                    Q 1 M4) ∧
                  (¬ v1 = v2 →
                    (0 ≤ v1 ∧ v1 < jal 28 4) ∧ (0 ≤ v2 ∧ v2 < jal 28 4) ∧ Q 1 (jup (jup M4 28 4 v1 v2) 28 4 v2 v1))))) ∧
            (¬ (M2 28 1 v1) = (M2 28 1 v2) →
              Q (-5) M2)) ∧
          (r2 = (0 : Int) →
            Q (-1) M2))))) :
    jWP d 50 0 [some (.inr (28, 0)), some (.inl v1), some (.inl v2)] [] M Q :=
  jreg [] 46 (by decide) ckX10_opposite h
set_option maxRecDepth 100000 in
theorem fX10_ofKind_0 {d : Nat} {v1 : Int} {v2 : Int} {M : jM} {Q : Int → jM → Prop} (h :
    jCall d 40 [.inl v1] M (fun r1 M1 =>
      (¬ r1 = (0 : Int) →
        ((v2 < 0 ∨ 4 < v2) →
          Q (-2) M1) ∧
        (v2 = 0 →
          (0 ≤ v1 ∧ v1 < jal 28 1) ∧ Q (M1 28 1 v1) M1) ∧
        (v2 = (0 + 1) →
          (0 ≤ v1 ∧ v1 < jbl 28 2) ∧ ((M1 28 2 v1) = (0 : Int) →
            Q 0 M1) ∧
          (¬ (M1 28 2 v1) = (0 : Int) →
            Q 1 M1)) ∧
        (v2 = ((0 + 1) + 1) →
          (0 ≤ v1 ∧ v1 < jal 28 3) ∧ Q (M1 28 3 v1) M1) ∧
        (v2 = (((0 + 1) + 1) + 1) →
          (0 ≤ v1 ∧ v1 < jal 28 4) ∧ Q (M1 28 4 v1) M1) ∧
        (v2 = ((((0 + 1) + 1) + 1) + 1) →
          jCall d 43 [.inr (28, 0), .inl v1] M1 (fun r2 M2 =>
            Q r2 M2)) ∧ True) ∧
      (r1 = (0 : Int) →
        Q (-1) M1))) :
    jWP d 51 0 [some (.inr (28, 0)), some (.inl v1), some (.inl v2)] [] M Q :=
  jreg [] 40 (by decide) ckX10_ofKind h
set_option maxRecDepth 100000 in
theorem fX10_alikeAt_0 {d : Nat} {v1 : Int} {v2 : Int} {v3 : Int} {M : jM} {Q : Int → jM → Prop} (h :
    jWP d 52 3 [some (.inr (28, 0)), some (.inl v1), some (.inl v2), some (.inl v3), some (.inl 0)] [] M Q) :
    jWP d 52 0 [some (.inr (28, 0)), some (.inl v1), some (.inl v2), some (.inl v3), none] [] M Q :=
  jreg [(3, [])] 5 (by decide) ckX10_alikeAt h
set_option maxRecDepth 100000 in
theorem fX10_alikeAt_3 {d : Nat} {v1 : Int} {v2 : Int} {v3 : Int} {v4 : Int} {M : jM} {Q : Int → jM → Prop} (h :
    (v3 < v4 →
      Q (-6) M) ∧
    (v4 ≤ v3 →
      jCall d 47 [.inr (28, 0), .inl v1, .inl v4] M (fun r1 M1 =>
        jCall d 47 [.inr (28, 0), .inl v2, .inl v4] M1 (fun r2 M2 =>
          (¬ r1 = r2 →
            jWP d 52 3 [some (.inr (28, 0)), some (.inl v1), some (.inl v2), some (.inl v3), some (.inl (jwr (v4 + 1)))] [] M2 Q) ∧
          (r1 = r2 →
            Q v4 M2))))) :
    jWP d 52 3 [some (.inr (28, 0)), some (.inl v1), some (.inl v2), some (.inl v3), some (.inl v4)] [] M Q :=
  jreg [(3, [])] 21 (by decide) ckX10_alikeAt h
set_option maxRecDepth 100000 in
theorem fX10_alike_0 {d : Nat} {v1 : Int} {v2 : Int} {M : jM} {Q : Int → jM → Prop} (h :
    jCall d 40 [.inl v1] M (fun r1 M1 =>
      (r1 = (0 : Int) →
        Q (-1) M1) ∧
      (¬ r1 = (0 : Int) →
        jCall d 40 [.inl v2] M1 (fun r2 M2 =>
          (r2 = (0 : Int) →
            Q (-1) M2) ∧
          (¬ r2 = (0 : Int) →
            jCall d 52 [.inr (28, 0), .inl v1, .inl v2, .inl 2] M2 (fun r3 M3 =>
              Q r3 M3)))))) :
    jWP d 53 0 [some (.inr (28, 0)), some (.inl v1), some (.inl v2)] [] M Q :=
  jreg [] 19 (by decide) ckX10_alike h
set_option maxRecDepth 100000 in
theorem fX10_timed_0 {d : Nat} {v1 : Int} {M : jM} {Q : Int → jM → Prop} (h :
    jCall d 39 [.inl v1, .inl 0, .inl 1] M (fun r1 M1 =>
      (¬ r1 = (0 : Int) →
        Q (M1 28 0 4) (jup M1 28 0 4 v1)) ∧
      (r1 = (0 : Int) →
        Q (-2) M1))) :
    jWP d 54 0 [some (.inr (28, 0)), some (.inl v1), none] [] M Q :=
  jreg [] 17 (by decide) ckX10_timed h
set_option maxRecDepth 100000 in
theorem fX10_empty_0 {d : Nat} {v1 : Int} {v2 : Int} {M : jM} {Q : Int → jM → Prop} (h :
    (0 ≤ v1 ∧ v1 < jal 28 6) ∧ (0 ≤ v1 ∧ v1 < jal 28 9) ∧ (0 ≤ v1 ∧ v1 < jal 28 8) ∧ jWP d 55 23 [some (.inr (28, 0)), some (.inl v1), none, some (.inl 0)] [] (jup (jup (jup M 28 6 v1 v2) 28 9 v1 0) 28 8 v1 0) Q) :
    jWP d 55 0 [some (.inr (28, 0)), some (.inl v1), some (.inl v2), none] [] M Q :=
  jreg [(23, [2])] 20 (by decide) ckX10_empty h
set_option maxRecDepth 100000 in
theorem fX10_empty_23 {d : Nat} {v1 : Int} {v3 : Int} {M : jM} {Q : Int → jM → Prop} (h :
    ((6 : Int) ≤ v3 →
      Q 0 M) ∧
    (v3 < (6 : Int) →
      (0 ≤ (jwr ((jwr (6 * v1)) + v3)) ∧ (jwr ((jwr (6 * v1)) + v3)) < jal 28 7) ∧ jWP d 55 23 [some (.inr (28, 0)), some (.inl v1), none, some (.inl (jwr (v3 + 1)))] [] (jup M 28 7 (jwr ((jwr (6 * v1)) + v3)) 0) Q)) :
    jWP d 55 23 [some (.inr (28, 0)), some (.inl v1), none, some (.inl v3)] [] M Q :=
  jreg [(23, [2])] 18 (by decide) ckX10_empty h
set_option maxRecDepth 100000 in
theorem fX10_tale_0 {d : Nat} {v1 : Int} {v2 : Int} {M : jM} {Q : Int → jM → Prop} (h :
    jCall d 41 [.inl v1] M (fun r1 M1 =>
      (¬ r1 = (0 : Int) →
        jCall d 39 [.inl v2, .inl 0, .inl 6] M1 (fun r2 M2 =>
          (¬ r2 = (0 : Int) →
            jCall d 55 [.inr (28, 0), .inl v1, .inl v2] M2 (fun _ M3 =>
              Q 1 M3)) ∧
          (r2 = (0 : Int) →
            Q (-2) M2))) ∧
      (r1 = (0 : Int) →
        Q (-1) M1))) :
    jWP d 56 0 [some (.inr (28, 0)), some (.inl v1), some (.inl v2)] [] M Q :=
  jreg [] 20 (by decide) ckX10_tale h
set_option maxRecDepth 100000 in
theorem fX10_isThing_0 {d : Nat} {v1 : Int} {v2 : Int} {M : jM} {Q : Int → jM → Prop} (h :
    (0 ≤ v1 ∧ v1 < jal 28 6) ∧ jCall d 39 [.inl v2, .inl 0, .inl (jwr ((M 28 6 v1) - 1))] M (fun r1 M1 =>
      (r1 = 0 ∨ r1 = 1) ∧ Q r1 M1)) :
    jWP d 57 0 [some (.inr (28, 0)), some (.inl v1), some (.inl v2)] [] M Q :=
  jreg [] 12 (by decide) ckX10_isThing h
set_option maxRecDepth 100000 in
theorem fX10_sort_0 {d : Nat} {v1 : Int} {v2 : Int} {v3 : Int} {M : jM} {Q : Int → jM → Prop} (h :
    jCall d 41 [.inl v1] M (fun r1 M1 =>
      (r1 = (0 : Int) →
        Q (-1) M1) ∧
      (¬ r1 = (0 : Int) →
        jCall d 57 [.inr (28, 0), .inl v1, .inl v2] M1 (fun r2 M2 =>
          (¬ r2 = (0 : Int) →
            jCall d 39 [.inl v3, .inl 0, .inl 9] M2 (fun r3 M3 =>
              (¬ r3 = (0 : Int) →
                (0 ≤ (jwr ((jwr (6 * v1)) + v2)) ∧ (jwr ((jwr (6 * v1)) + v2)) < jal 28 7) ∧ (0 ≤ (jwr ((jwr (6 * v1)) + v2)) ∧ (jwr ((jwr (6 * v1)) + v2)) < jal 28 7) ∧ Q (M3 28 7 (jwr ((jwr (6 * v1)) + v2))) (jup M3 28 7 (jwr ((jwr (6 * v1)) + v2)) v3)) ∧
              (r3 = (0 : Int) →
                Q (-2) M3))) ∧
          (r2 = (0 : Int) →
            Q (-1) M2))))) :
    jWP d 58 0 [some (.inr (28, 0)), some (.inl v1), some (.inl v2), some (.inl v3), none] [] M Q :=
  jreg [] 41 (by decide) ckX10_sort h
set_option maxRecDepth 100000 in
theorem fX10_label_0 {d : Nat} {v1 : Int} {v2 : Int} {M : jM} {Q : Int → jM → Prop} (h :
    jCall d 41 [.inl v1] M (fun r1 M1 =>
      (¬ r1 = (0 : Int) →
        jCall d 39 [.inl v2, .inl 0, .inl 9] M1 (fun r2 M2 =>
          (¬ r2 = (0 : Int) →
            (0 ≤ v1 ∧ v1 < jal 28 8) ∧ (0 ≤ v1 ∧ v1 < jal 28 8) ∧ Q (M2 28 8 v1) (jup M2 28 8 v1 v2)) ∧
          (r2 = (0 : Int) →
            Q (-2) M2))) ∧
      (r1 = (0 : Int) →
        Q (-1) M1))) :
    jWP d 59 0 [some (.inr (28, 0)), some (.inl v1), some (.inl v2), none] [] M Q :=
  jreg [] 26 (by decide) ckX10_label h
set_option maxRecDepth 100000 in
theorem fX10_isEnd_0 {d : Nat} {v1 : Int} {v2 : Int} {M : jM} {Q : Int → jM → Prop} (h :
    jCall d 57 [.inr (28, 0), .inl v1, .inl v2] M (fun r1 M1 =>
      (¬ r1 = (0 : Int) →
        ((1 : Int) = 0 ∨ (1 : Int) = 1) ∧ Q 1 M1) ∧
      (r1 = (0 : Int) →
        (0 ≤ v1 ∧ v1 < jal 28 9) ∧ jCall d 39 [.inl v2, .inl 10, .inl (jwr (9 + (M1 28 9 v1)))] M1 (fun r2 M2 =>
          (r2 = (0 : Int) →
            ((0 : Int) = 0 ∨ (0 : Int) = 1) ∧ Q 0 M2) ∧
          (¬ r2 = (0 : Int) →
            ((1 : Int) = 0 ∨ (1 : Int) = 1) ∧ Q 1 M2))))) :
    jWP d 60 0 [some (.inr (28, 0)), some (.inl v1), some (.inl v2)] [] M Q :=
  jreg [] 25 (by decide) ckX10_isEnd h
set_option maxRecDepth 100000 in
theorem fX10_tieWith_0 {d : Nat} {v1 : Int} {v2 : Int} {v3 : Int} {v4 : Int} {v5 : Int} {M : jM} {Q : Int → jM → Prop} (h :
    jWP d 61 3 [some (.inr (28, 0)), some (.inl v1), some (.inl v2), some (.inl v3), some (.inl v4), some (.inl v5), some (.inl 0), none, none, none] [] M Q) :
    jWP d 61 0 [some (.inr (28, 0)), some (.inl v1), some (.inl v2), some (.inl v3), some (.inl v4), some (.inl v5), none, none, none, none] [] M Q :=
  jreg [(3, [7, 8, 9]), (59, [8, 9]), (88, [8, 9]), (131, [9])] 5 (by decide) ckX10_tieWith h
set_option maxRecDepth 100000 in
theorem fX10_tieWith_3 {d : Nat} {v1 : Int} {v2 : Int} {v3 : Int} {v4 : Int} {v5 : Int} {v6 : Int} {M : jM} {Q : Int → jM → Prop} (h :
    (0 ≤ v1 ∧ v1 < jal 28 9) ∧ ((M 28 9 v1) ≤ v6 →
      Q (-6) M) ∧
    (v6 < (M 28 9 v1) →
      jCall d 42 [.inl v1, .inl v6] M (fun r1 M1 =>
        (0 ≤ (jwr (r1 + 1)) ∧ (jwr (r1 + 1)) < jal 28 10) ∧ (¬ (M1 28 10 (jwr (r1 + 1))) = v3 →
          jWP d 61 88 [some (.inr (28, 0)), some (.inl v1), some (.inl v2), some (.inl v3), some (.inl v4), some (.inl v5), some (.inl v6), some (.inl r1), none, none] [.inl 0] M1 Q) ∧
        ((M1 28 10 (jwr (r1 + 1))) = v3 →
          (0 ≤ v2 ∧ v2 < jal 28 1) ∧ ((M1 28 1 v2) < (2 : Int) →
            jWP d 61 59 [some (.inr (28, 0)), some (.inl v1), some (.inl v2), some (.inl v3), some (.inl v4), some (.inl v5), some (.inl v6), some (.inl r1), none, none] [] M1 Q) ∧
          ((2 : Int) ≤ (M1 28 1 v2) →
            (0 ≤ (jwr (r1 + 2)) ∧ (jwr (r1 + 2)) < jal 28 10) ∧ (¬ (M1 28 10 (jwr (r1 + 2))) = v4 →
              jWP d 61 88 [some (.inr (28, 0)), some (.inl v1), some (.inl v2), some (.inl v3), some (.inl v4), some (.inl v5), some (.inl v6), some (.inl r1), none, none] [.inl 0] M1 Q) ∧
            ((M1 28 10 (jwr (r1 + 2))) = v4 →
              jWP d 61 59 [some (.inr (28, 0)), some (.inl v1), some (.inl v2), some (.inl v3), some (.inl v4), some (.inl v5), some (.inl v6), some (.inl r1), none, none] [] M1 Q)))))) :
    jWP d 61 3 [some (.inr (28, 0)), some (.inl v1), some (.inl v2), some (.inl v3), some (.inl v4), some (.inl v5), some (.inl v6), none, none, none] [] M Q :=
  jreg [(3, [7, 8, 9]), (59, [8, 9]), (88, [8, 9]), (131, [9])] 42 (by decide) ckX10_tieWith h
set_option maxRecDepth 100000 in
theorem fX10_tieWith_59 {d : Nat} {v1 : Int} {v2 : Int} {v3 : Int} {v4 : Int} {v5 : Int} {v6 : Int} {v7 : Int} {M : jM} {Q : Int → jM → Prop} (h :
    (0 ≤ v2 ∧ v2 < jal 28 1) ∧ ((M 28 1 v2) < (3 : Int) →
      jWP d 61 88 [some (.inr (28, 0)), some (.inl v1), some (.inl v2), some (.inl v3), some (.inl v4), some (.inl v5), some (.inl v6), some (.inl v7), none, none] [.inl 1] M Q) ∧
    ((3 : Int) ≤ (M 28 1 v2) →
      (0 ≤ (jwr (v7 + 3)) ∧ (jwr (v7 + 3)) < jal 28 10) ∧ (¬ (M 28 10 (jwr (v7 + 3))) = v5 →
        jWP d 61 88 [some (.inr (28, 0)), some (.inl v1), some (.inl v2), some (.inl v3), some (.inl v4), some (.inl v5), some (.inl v6), some (.inl v7), none, none] [.inl 0] M Q) ∧
      ((M 28 10 (jwr (v7 + 3))) = v5 →
        jWP d 61 88 [some (.inr (28, 0)), some (.inl v1), some (.inl v2), some (.inl v3), some (.inl v4), some (.inl v5), some (.inl v6), some (.inl v7), none, none] [.inl 1] M Q))) :
    jWP d 61 59 [some (.inr (28, 0)), some (.inl v1), some (.inl v2), some (.inl v3), some (.inl v4), some (.inl v5), some (.inl v6), some (.inl v7), none, none] [] M Q :=
  jreg [(3, [7, 8, 9]), (59, [8, 9]), (88, [8, 9]), (131, [9])] 24 (by decide) ckX10_tieWith h
set_option maxRecDepth 100000 in
theorem fX10_tieWith_88 {d : Nat} {v1 : Int} {v2 : Int} {v3 : Int} {v4 : Int} {v5 : Int} {v6 : Int} {v7 : Int} {s0 : Int} {M : jM} {Q : Int → jM → Prop} (h :
    (0 ≤ v2 ∧ v2 < jbl 28 2) ∧ ((M 28 2 v2) = (0 : Int) →
      jWP d 61 131 [some (.inr (28, 0)), some (.inl v1), some (.inl v2), some (.inl v3), some (.inl v4), some (.inl v5), some (.inl v6), some (.inl v7), some (.inl s0), none] [.inl 0] M Q) ∧
    (¬ (M 28 2 v2) = (0 : Int) →
      (0 ≤ (jwr (v7 + 1)) ∧ (jwr (v7 + 1)) < jal 28 10) ∧ (¬ (M 28 10 (jwr (v7 + 1))) = v4 →
        jWP d 61 131 [some (.inr (28, 0)), some (.inl v1), some (.inl v2), some (.inl v3), some (.inl v4), some (.inl v5), some (.inl v6), some (.inl v7), some (.inl s0), none] [.inl 0] M Q) ∧
      ((M 28 10 (jwr (v7 + 1))) = v4 →
        (0 ≤ (jwr (v7 + 2)) ∧ (jwr (v7 + 2)) < jal 28 10) ∧ (¬ (M 28 10 (jwr (v7 + 2))) = v3 →
          jWP d 61 131 [some (.inr (28, 0)), some (.inl v1), some (.inl v2), some (.inl v3), some (.inl v4), some (.inl v5), some (.inl v6), some (.inl v7), some (.inl s0), none] [.inl 0] M Q) ∧
        ((M 28 10 (jwr (v7 + 2))) = v3 →
          jWP d 61 131 [some (.inr (28, 0)), some (.inl v1), some (.inl v2), some (.inl v3), some (.inl v4), some (.inl v5), some (.inl v6), some (.inl v7), some (.inl s0), none] [.inl 1] M Q)))) :
    jWP d 61 88 [some (.inr (28, 0)), some (.inl v1), some (.inl v2), some (.inl v3), some (.inl v4), some (.inl v5), some (.inl v6), some (.inl v7), none, none] [.inl s0] M Q :=
  jreg [(3, [7, 8, 9]), (59, [8, 9]), (88, [8, 9]), (131, [9])] 33 (by decide) ckX10_tieWith h
set_option maxRecDepth 100000 in
theorem fX10_tieWith_131 {d : Nat} {v1 : Int} {v2 : Int} {v3 : Int} {v4 : Int} {v5 : Int} {v6 : Int} {v7 : Int} {v8 : Int} {s0 : Int} {M : jM} {Q : Int → jM → Prop} (h :
    (0 ≤ v7 ∧ v7 < jal 28 10) ∧ (¬ (M 28 10 v7) = v2 →
      jWP d 61 3 [some (.inr (28, 0)), some (.inl v1), some (.inl v2), some (.inl v3), some (.inl v4), some (.inl v5), some (.inl (jwr (v6 + 1))), none, none, none] [] M Q) ∧
    ((M 28 10 v7) = v2 →
      (¬ v8 = (0 : Int) →
        Q v6 M) ∧
      (v8 = (0 : Int) →
        (s0 = (0 : Int) →
          jWP d 61 3 [some (.inr (28, 0)), some (.inl v1), some (.inl v2), some (.inl v3), some (.inl v4), some (.inl v5), some (.inl (jwr (v6 + 1))), none, none, none] [] M Q) ∧
        (¬ s0 = (0 : Int) →
          Q v6 M)))) :
    jWP d 61 131 [some (.inr (28, 0)), some (.inl v1), some (.inl v2), some (.inl v3), some (.inl v4), some (.inl v5), some (.inl v6), some (.inl v7), some (.inl v8), none] [.inl s0] M Q :=
  jreg [(3, [7, 8, 9]), (59, [8, 9]), (88, [8, 9]), (131, [9])] 23 (by decide) ckX10_tieWith h
set_option maxRecDepth 100000 in
theorem fX10_heightOf_0 {d : Nat} {v1 : Int} {v2 : Int} {v3 : Int} {v4 : Int} {v5 : Int} {M : jM} {Q : Int → jM → Prop} (h :
    jWP d 62 6 [some (.inr (28, 0)), some (.inl v1), some (.inl v2), some (.inl v3), some (.inl v4), some (.inl v5), some (.inl 0), some (.inl 0), none, none] [] M Q) :
    jWP d 62 0 [some (.inr (28, 0)), some (.inl v1), some (.inl v2), some (.inl v3), some (.inl v4), some (.inl v5), none, none, none, none] [] M Q :=
  jreg [(6, [8, 9]), (39, [8, 9]), (68, [8, 9])] 7 (by decide) ckX10_heightOf h
set_option maxRecDepth 100000 in
theorem fX10_heightOf_6 {d : Nat} {v1 : Int} {v2 : Int} {v3 : Int} {v4 : Int} {v5 : Int} {v6 : Int} {v7 : Int} {M : jM} {Q : Int → jM → Prop} (h :
    (0 ≤ v2 ∧ v2 < jal 28 1) ∧ ((M 28 1 v2) ≤ v7 →
      Q (jwr (v6 + 1)) M) ∧
    (v7 < (M 28 1 v2) →
      (¬ v7 = (0 : Int) →
        (¬ v7 = (1 : Int) →
          jWP d 62 39 [some (.inr (28, 0)), some (.inl v1), some (.inl v2), some (.inl v3), some (.inl v4), some (.inl v5), some (.inl v6), some (.inl v7), none, none] [.inl v5] M Q) ∧
        (v7 = (1 : Int) →
          jWP d 62 39 [some (.inr (28, 0)), some (.inl v1), some (.inl v2), some (.inl v3), some (.inl v4), some (.inl v5), some (.inl v6), some (.inl v7), none, none] [.inl v4] M Q)) ∧
      (v7 = (0 : Int) →
        jWP d 62 39 [some (.inr (28, 0)), some (.inl v1), some (.inl v2), some (.inl v3), some (.inl v4), some (.inl v5), some (.inl v6), some (.inl v7), none, none] [.inl v3] M Q))) :
    jWP d 62 6 [some (.inr (28, 0)), some (.inl v1), some (.inl v2), some (.inl v3), some (.inl v4), some (.inl v5), some (.inl v6), some (.inl v7), none, none] [] M Q :=
  jreg [(6, [8, 9]), (39, [8, 9]), (68, [8, 9])] 25 (by decide) ckX10_heightOf h
set_option maxRecDepth 100000 in
theorem fX10_heightOf_39 {d : Nat} {v1 : Int} {v2 : Int} {v3 : Int} {v4 : Int} {v5 : Int} {v6 : Int} {v7 : Int} {s0 : Int} {M : jM} {Q : Int → jM → Prop} (h :
    ((10 : Int) ≤ s0 →
      jCall d 42 [.inl v1, .inl (jwr (s0 - 10))] M (fun r1 M1 =>
        (0 ≤ (jwr (r1 + 5)) ∧ (jwr (r1 + 5)) < jal 28 10) ∧ jWP d 62 68 [some (.inr (28, 0)), some (.inl v1), some (.inl v2), some (.inl v3), some (.inl v4), some (.inl v5), some (.inl v6), some (.inl v7), none, none] [.inl (M1 28 10 (jwr (r1 + 5)))] M1 Q)) ∧
    (s0 < (10 : Int) →
      jWP d 62 68 [some (.inr (28, 0)), some (.inl v1), some (.inl v2), some (.inl v3), some (.inl v4), some (.inl v5), some (.inl v6), some (.inl v7), none, none] [.inl 0] M Q)) :
    jWP d 62 39 [some (.inr (28, 0)), some (.inl v1), some (.inl v2), some (.inl v3), some (.inl v4), some (.inl v5), some (.inl v6), some (.inl v7), none, none] [.inl s0] M Q :=
  jreg [(6, [8, 9]), (39, [8, 9]), (68, [8, 9])] 20 (by decide) ckX10_heightOf h
set_option maxRecDepth 100000 in
theorem fX10_heightOf_68 {d : Nat} {v1 : Int} {v2 : Int} {v3 : Int} {v4 : Int} {v5 : Int} {v6 : Int} {v7 : Int} {s0 : Int} {M : jM} {Q : Int → jM → Prop} (h :
    (s0 ≤ v6 →
      jWP d 62 6 [some (.inr (28, 0)), some (.inl v1), some (.inl v2), some (.inl v3), some (.inl v4), some (.inl v5), some (.inl v6), some (.inl (jwr (v7 + 1))), none, none] [] M Q) ∧
    (v6 < s0 →
      jWP d 62 6 [some (.inr (28, 0)), some (.inl v1), some (.inl v2), some (.inl v3), some (.inl v4), some (.inl v5), some (.inl s0), some (.inl (jwr (v7 + 1))), none, none] [] M Q)) :
    jWP d 62 68 [some (.inr (28, 0)), some (.inl v1), some (.inl v2), some (.inl v3), some (.inl v4), some (.inl v5), some (.inl v6), some (.inl v7), none, none] [.inl s0] M Q :=
  jreg [(6, [8, 9]), (39, [8, 9]), (68, [8, 9])] 17 (by decide) ckX10_heightOf h
set_option maxRecDepth 100000 in
theorem fX10_put_0 {d : Nat} {v1 : Int} {v2 : Int} {v3 : Int} {v4 : Int} {v5 : Int} {v6 : Int} {M : jM} {Q : Int → jM → Prop} (h :
    (0 ≤ v1 ∧ v1 < jal 28 9) ∧ jCall d 42 [.inl v1, .inl (M 28 9 v1)] M (fun r1 M1 =>
      jCall d 62 [.inr (28, 0), .inl v1, .inl v2, .inl v3, .inl v4, .inl v5] M1 (fun r2 M2 =>
        (0 ≤ (jwr (r1 + 5)) ∧ (jwr (r1 + 5)) < jal 28 10) ∧ (0 ≤ r1 ∧ r1 < jal 28 10) ∧ (0 ≤ (jwr (r1 + 1)) ∧ (jwr (r1 + 1)) < jal 28 10) ∧ (0 ≤ v2 ∧ v2 < jal 28 1) ∧ (((jup (jup (jup M2 28 10 (jwr (r1 + 5)) r2) 28 10 r1 v2) 28 10 (jwr (r1 + 1)) v3) 28 1 v2) ≤ (1 : Int) →
          jWP d 63 75 [some (.inr (28, 0)), some (.inl v1), some (.inl v2), none, none, some (.inl v5), some (.inl v6), some (.inl r1)] [.inl (-6), .inl (jwr (r1 + 2)), .inr (28, 10)] (jup (jup (jup M2 28 10 (jwr (r1 + 5)) r2) 28 10 r1 v2) 28 10 (jwr (r1 + 1)) v3) Q) ∧
        ((1 : Int) < ((jup (jup (jup M2 28 10 (jwr (r1 + 5)) r2) 28 10 r1 v2) 28 10 (jwr (r1 + 1)) v3) 28 1 v2) →
          jWP d 63 75 [some (.inr (28, 0)), some (.inl v1), some (.inl v2), none, none, some (.inl v5), some (.inl v6), some (.inl r1)] [.inl v4, .inl (jwr (r1 + 2)), .inr (28, 10)] (jup (jup (jup M2 28 10 (jwr (r1 + 5)) r2) 28 10 r1 v2) 28 10 (jwr (r1 + 1)) v3) Q)))) :
    jWP d 63 0 [some (.inr (28, 0)), some (.inl v1), some (.inl v2), some (.inl v3), some (.inl v4), some (.inl v5), some (.inl v6), none] [] M Q :=
  jreg [(75, [3, 4]), (101, [2, 3, 4, 5])] 50 (by decide) ckX10_put h
set_option maxRecDepth 100000 in
theorem fX10_put_75 {d : Nat} {v1 : Int} {v2 : Int} {v5 : Int} {v6 : Int} {v7 : Int} {s0 : Int} {s1 : Int} {M : jM} {Q : Int → jM → Prop} (h :
    (0 ≤ s1 ∧ s1 < jal 28 10) ∧ (0 ≤ v2 ∧ v2 < jal 28 1) ∧ (((jup M 28 10 s1 s0) 28 1 v2) ≤ (2 : Int) →
      jWP d 63 101 [some (.inr (28, 0)), some (.inl v1), none, none, none, none, some (.inl v6), some (.inl v7)] [.inl (-6), .inl (jwr (v7 + 3)), .inr (28, 10)] (jup M 28 10 s1 s0) Q) ∧
    ((2 : Int) < ((jup M 28 10 s1 s0) 28 1 v2) →
      jWP d 63 101 [some (.inr (28, 0)), some (.inl v1), none, none, none, none, some (.inl v6), some (.inl v7)] [.inl v5, .inl (jwr (v7 + 3)), .inr (28, 10)] (jup M 28 10 s1 s0) Q)) :
    jWP d 63 75 [some (.inr (28, 0)), some (.inl v1), some (.inl v2), none, none, some (.inl v5), some (.inl v6), some (.inl v7)] [.inl s0, .inl s1, .inr (28, 10)] M Q :=
  jreg [(75, [3, 4]), (101, [2, 3, 4, 5])] 19 (by decide) ckX10_put h
set_option maxRecDepth 100000 in
theorem fX10_put_101 {d : Nat} {v1 : Int} {v6 : Int} {v7 : Int} {s0 : Int} {s1 : Int} {M : jM} {Q : Int → jM → Prop} (h :
    (0 ≤ s1 ∧ s1 < jal 28 10) ∧ (0 ≤ (jwr (v7 + 4)) ∧ (jwr (v7 + 4)) < jal 28 10) ∧ (0 ≤ v1 ∧ v1 < jal 28 9) ∧ (0 ≤ v1 ∧ v1 < jal 28 9) ∧ Q 0 (jup (jup (jup M 28 10 s1 s0) 28 10 (jwr (v7 + 4)) v6) 28 9 v1 (jwr (((jup (jup M 28 10 s1 s0) 28 10 (jwr (v7 + 4)) v6) 28 9 v1) + 1)))) :
    jWP d 63 101 [some (.inr (28, 0)), some (.inl v1), none, none, none, none, some (.inl v6), some (.inl v7)] [.inl s0, .inl s1, .inr (28, 10)] M Q :=
  jreg [(75, [3, 4]), (101, [2, 3, 4, 5])] 19 (by decide) ckX10_put h
set_option maxRecDepth 100000 in
theorem fX10_tie_0 {d : Nat} {v1 : Int} {v2 : Int} {v3 : Int} {v4 : Int} {v5 : Int} {v6 : Int} {M : jM} {Q : Int → jM → Prop} (h :
    jCall d 41 [.inl v1] M (fun r1 M1 =>
      (r1 = (0 : Int) →
        Q (-1) M1) ∧
      (¬ r1 = (0 : Int) →
        jCall d 40 [.inl v2] M1 (fun r2 M2 =>
          (¬ r2 = (0 : Int) →
            jCall d 39 [.inl v6, .inl (-1), .inl 9] M2 (fun r3 M3 =>
              (r3 = (0 : Int) →
                jWP d 64 41 [some (.inr (28, 0)), some (.inl v1), some (.inl v2), some (.inl v3), some (.inl v4), some (.inl v5), some (.inl v6), none] [.inl 0] M3 Q) ∧
              (¬ r3 = (0 : Int) →
                jCall d 60 [.inr (28, 0), .inl v1, .inl v3] M3 (fun r4 M4 =>
                  (r4 = (0 : Int) →
                    jWP d 64 41 [some (.inr (28, 0)), some (.inl v1), some (.inl v2), some (.inl v3), some (.inl v4), some (.inl v5), some (.inl v6), none] [.inl 0] M4 Q) ∧
                  (¬ r4 = (0 : Int) →
                    jWP d 64 41 [some (.inr (28, 0)), some (.inl v1), some (.inl v2), some (.inl v3), some (.inl v4), some (.inl v5), some (.inl v6), none] [.inl 1] M4 Q))))) ∧
          (r2 = (0 : Int) →
            Q (-1) M2))))) :
    jWP d 64 0 [some (.inr (28, 0)), some (.inl v1), some (.inl v2), some (.inl v3), some (.inl v4), some (.inl v5), some (.inl v6), none] [] M Q :=
  jreg [(41, [7]), (77, [7]), (111, [7])] 29 (by decide) ckX10_tie h
set_option maxRecDepth 100000 in
theorem fX10_tie_41 {d : Nat} {v1 : Int} {v2 : Int} {v3 : Int} {v4 : Int} {v5 : Int} {v6 : Int} {s0 : Int} {M : jM} {Q : Int → jM → Prop} (h :
    (s0 = (0 : Int) →
      jWP d 64 111 [some (.inr (28, 0)), some (.inl v1), some (.inl v2), some (.inl v3), some (.inl v4), some (.inl v5), some (.inl v6), none] [.inl 0] M Q) ∧
    (¬ s0 = (0 : Int) →
      (0 ≤ v2 ∧ v2 < jal 28 1) ∧ ((2 : Int) ≤ (M 28 1 v2) →
        jCall d 60 [.inr (28, 0), .inl v1, .inl v4] M (fun r1 M1 =>
          (r1 = (0 : Int) →
            jWP d 64 111 [some (.inr (28, 0)), some (.inl v1), some (.inl v2), some (.inl v3), some (.inl v4), some (.inl v5), some (.inl v6), none] [.inl 0] M1 Q) ∧
          (¬ r1 = (0 : Int) →
            jWP d 64 77 [some (.inr (28, 0)), some (.inl v1), some (.inl v2), some (.inl v3), some (.inl v4), some (.inl v5), some (.inl v6), none] [] M1 Q))) ∧
      ((M 28 1 v2) < (2 : Int) →
        (¬ v4 = (-1 : Int) →
          jWP d 64 111 [some (.inr (28, 0)), some (.inl v1), some (.inl v2), some (.inl v3), some (.inl v4), some (.inl v5), some (.inl v6), none] [.inl 0] M Q) ∧
        (v4 = (-1 : Int) →
          jWP d 64 77 [some (.inr (28, 0)), some (.inl v1), some (.inl v2), some (.inl v3), some (.inl v4), some (.inl v5), some (.inl v6), none] [] M Q)))) :
    jWP d 64 41 [some (.inr (28, 0)), some (.inl v1), some (.inl v2), some (.inl v3), some (.inl v4), some (.inl v5), some (.inl v6), none] [.inl s0] M Q :=
  jreg [(41, [7]), (77, [7]), (111, [7])] 28 (by decide) ckX10_tie h
set_option maxRecDepth 100000 in
theorem fX10_tie_77 {d : Nat} {v1 : Int} {v2 : Int} {v3 : Int} {v4 : Int} {v5 : Int} {v6 : Int} {M : jM} {Q : Int → jM → Prop} (h :
    (0 ≤ v2 ∧ v2 < jal 28 1) ∧ ((3 : Int) ≤ (M 28 1 v2) →
      jCall d 60 [.inr (28, 0), .inl v1, .inl v5] M (fun r1 M1 =>
        (r1 = (0 : Int) →
          jWP d 64 111 [some (.inr (28, 0)), some (.inl v1), some (.inl v2), some (.inl v3), some (.inl v4), some (.inl v5), some (.inl v6), none] [.inl 0] M1 Q) ∧
        (¬ r1 = (0 : Int) →
          jWP d 64 111 [some (.inr (28, 0)), some (.inl v1), some (.inl v2), some (.inl v3), some (.inl v4), some (.inl v5), some (.inl v6), none] [.inl 1] M1 Q))) ∧
    ((M 28 1 v2) < (3 : Int) →
      (¬ v5 = (-1 : Int) →
        jWP d 64 111 [some (.inr (28, 0)), some (.inl v1), some (.inl v2), some (.inl v3), some (.inl v4), some (.inl v5), some (.inl v6), none] [.inl 0] M Q) ∧
      (v5 = (-1 : Int) →
        jWP d 64 111 [some (.inr (28, 0)), some (.inl v1), some (.inl v2), some (.inl v3), some (.inl v4), some (.inl v5), some (.inl v6), none] [.inl 1] M Q))) :
    jWP d 64 77 [some (.inr (28, 0)), some (.inl v1), some (.inl v2), some (.inl v3), some (.inl v4), some (.inl v5), some (.inl v6), none] [] M Q :=
  jreg [(41, [7]), (77, [7]), (111, [7])] 27 (by decide) ckX10_tie h
set_option maxRecDepth 100000 in
theorem fX10_tie_111 {d : Nat} {v1 : Int} {v2 : Int} {v3 : Int} {v4 : Int} {v5 : Int} {v6 : Int} {s0 : Int} {M : jM} {Q : Int → jM → Prop} (h :
    (¬ s0 = (0 : Int) →
      (0 ≤ v1 ∧ v1 < jal 28 9) ∧ (¬ (M 28 9 v1) = (14 : Int) →
        jCall d 61 [.inr (28, 0), .inl v1, .inl v2, .inl v3, .inl v4, .inl v5] M (fun r1 M1 =>
          (r1 < (0 : Int) →
            jCall d 63 [.inr (28, 0), .inl v1, .inl v2, .inl v3, .inl v4, .inl v5, .inl v6] M1 (fun _ M2 =>
              (0 ≤ v1 ∧ v1 < jal 28 9) ∧ Q (jwr ((M2 28 9 v1) - 1)) M2)) ∧
          ((0 : Int) ≤ r1 →
            Q (-5) M1))) ∧
      ((M 28 9 v1) = (14 : Int) →
        Q (-4) M)) ∧
    (s0 = (0 : Int) →
      Q (-2) M)) :
    jWP d 64 111 [some (.inr (28, 0)), some (.inl v1), some (.inl v2), some (.inl v3), some (.inl v4), some (.inl v5), some (.inl v6), none] [.inl s0] M Q :=
  jreg [(41, [7]), (77, [7]), (111, [7])] 40 (by decide) ckX10_tie h
set_option maxRecDepth 100000 in
theorem fX10_ofTie_0 {d : Nat} {v1 : Int} {v2 : Int} {v3 : Int} {M : jM} {Q : Int → jM → Prop} (h :
    jCall d 41 [.inl v1] M (fun r1 M1 =>
      (r1 = (0 : Int) →
        Q (-1) M1) ∧
      (¬ r1 = (0 : Int) →
        (0 ≤ v1 ∧ v1 < jal 28 9) ∧ jCall d 39 [.inl v2, .inl 0, .inl (jwr ((M1 28 9 v1) - 1))] M1 (fun r2 M2 =>
          (¬ r2 = (0 : Int) →
            jCall d 39 [.inl v3, .inl 0, .inl 5] M2 (fun r3 M3 =>
              (r3 = (0 : Int) →
                Q (-2) M3) ∧
              (¬ r3 = (0 : Int) →
                jCall d 42 [.inl v1, .inl v2] M3 (fun r4 M4 =>
                  (0 ≤ (jwr (r4 + v3)) ∧ (jwr (r4 + v3)) < jal 28 10) ∧ Q (M4 28 10 (jwr (r4 + v3))) M4)))) ∧
          (r2 = (0 : Int) →
            Q (-1) M2))))) :
    jWP d 65 0 [some (.inr (28, 0)), some (.inl v1), some (.inl v2), some (.inl v3)] [] M Q :=
  jreg [] 36 (by decide) ckX10_ofTie h
set_option maxRecDepth 100000 in
theorem fX10_highest_0 {d : Nat} {v1 : Int} {M : jM} {Q : Int → jM → Prop} (h :
    jWP d 66 4 [some (.inr (28, 0)), some (.inl v1), some (.inl 0), some (.inl 0)] [] M Q) :
    jWP d 66 0 [some (.inr (28, 0)), some (.inl v1), none, none] [] M Q :=
  jreg [(4, [])] 7 (by decide) ckX10_highest h
set_option maxRecDepth 100000 in
theorem fX10_highest_4 {d : Nat} {v1 : Int} {v2 : Int} {v3 : Int} {M : jM} {Q : Int → jM → Prop} (h :
    (0 ≤ v1 ∧ v1 < jal 28 9) ∧ ((M 28 9 v1) ≤ v3 →
      Q v2 M) ∧
    (v3 < (M 28 9 v1) →
      jCall d 42 [.inl v1, .inl v3] M (fun r1 M1 =>
        (0 ≤ (jwr (r1 + 5)) ∧ (jwr (r1 + 5)) < jal 28 10) ∧ ((M1 28 10 (jwr (r1 + 5))) ≤ v2 →
          jWP d 66 4 [some (.inr (28, 0)), some (.inl v1), some (.inl v2), some (.inl (jwr (v3 + 1)))] [] M1 Q) ∧
        (v2 < (M1 28 10 (jwr (r1 + 5))) →
          jCall d 42 [.inl v1, .inl v3] M1 (fun r2 M2 =>
            (0 ≤ (jwr (r2 + 5)) ∧ (jwr (r2 + 5)) < jal 28 10) ∧ jWP d 66 4 [some (.inr (28, 0)), some (.inl v1), some (.inl (M2 28 10 (jwr (r2 + 5)))), some (.inl (jwr (v3 + 1)))] [] M2 Q))))) :
    jWP d 66 4 [some (.inr (28, 0)), some (.inl v1), some (.inl v2), some (.inl v3)] [] M Q :=
  jreg [(4, [])] 38 (by decide) ckX10_highest h
set_option maxRecDepth 100000 in
theorem fX10_ofTale_0 {d : Nat} {v1 : Int} {v2 : Int} {M : jM} {Q : Int → jM → Prop} (h :
    jCall d 41 [.inl v1] M (fun r1 M1 =>
      (¬ r1 = (0 : Int) →
        jCall d 39 [.inl v2, .inl 10, .inl 15] M1 (fun r2 M2 =>
          (r2 = (0 : Int) →
            (¬ v2 = (0 : Int) →
              (¬ v2 = (1 : Int) →
                (¬ v2 = (2 : Int) →
                  (¬ v2 = (3 : Int) →
                    Q (-2) M2) ∧
                  (v2 = (3 : Int) →
                    jCall d 66 [.inr (28, 0), .inl v1] M2 (fun r3 M3 =>
                      Q r3 M3))) ∧
                (v2 = (2 : Int) →
                  (0 ≤ v1 ∧ v1 < jal 28 8) ∧ Q (M2 28 8 v1) M2)) ∧
              (v2 = (1 : Int) →
                (0 ≤ v1 ∧ v1 < jal 28 9) ∧ Q (M2 28 9 v1) M2)) ∧
            (v2 = (0 : Int) →
              (0 ≤ v1 ∧ v1 < jal 28 6) ∧ Q (M2 28 6 v1) M2)) ∧
          (¬ r2 = (0 : Int) →
            jCall d 57 [.inr (28, 0), .inl v1, .inl (jwr (v2 - 10))] M2 (fun r4 M4 =>
              (r4 = (0 : Int) →
                Q (-1) M4) ∧
              (¬ r4 = (0 : Int) →
                (0 ≤ (jwr ((jwr ((jwr (6 * v1)) + v2)) - 10)) ∧ (jwr ((jwr ((jwr (6 * v1)) + v2)) - 10)) < jal 28 7) ∧ Q (M4 28 7 (jwr ((jwr ((jwr (6 * v1)) + v2)) - 10))) M4))))) ∧
      (r1 = (0 : Int) →
        Q (-1) M1))) :
    jWP d 67 0 [some (.inr (28, 0)), some (.inl v1), some (.inl v2)] [] M Q :=
  jreg [] 69 (by decide) ckX10_ofTale h
set_option maxRecDepth 100000 in
theorem fX10_become_0 {d : Nat} {v1 : Int} {v2 : Int} {M : jM} {Q : Int → jM → Prop} (h :
    (0 ≤ v2 ∧ v2 < jal 28 6) ∧ (0 ≤ v1 ∧ v1 < jal 28 6) ∧ (0 ≤ v2 ∧ v2 < jal 28 9) ∧ (0 ≤ v1 ∧ v1 < jal 28 9) ∧ (0 ≤ v2 ∧ v2 < jal 28 8) ∧ (0 ≤ v1 ∧ v1 < jal 28 8) ∧ jWP d 68 38 [some (.inr (28, 0)), some (.inl v1), some (.inl v2), some (.inl 0)] [] (jup (jup (jup M 28 6 v1 (M 28 6 v2)) 28 9 v1 ((jup M 28 6 v1 (M 28 6 v2)) 28 9 v2)) 28 8 v1 ((jup (jup M 28 6 v1 (M 28 6 v2)) 28 9 v1 ((jup M 28 6 v1 (M 28 6 v2)) 28 9 v2)) 28 8 v2)) Q) :
    jWP d 68 0 [some (.inr (28, 0)), some (.inl v1), some (.inl v2), none] [] M Q :=
  jreg [(38, []), (74, [])] 29 (by decide) ckX10_become h
set_option maxRecDepth 100000 in
theorem fX10_become_38 {d : Nat} {v1 : Int} {v2 : Int} {v3 : Int} {M : jM} {Q : Int → jM → Prop} (h :
    ((6 : Int) ≤ v3 →
      jWP d 68 74 [some (.inr (28, 0)), some (.inl v1), some (.inl v2), some (.inl 0)] [] M Q) ∧
    (v3 < (6 : Int) →
      (0 ≤ (jwr ((jwr (6 * v2)) + v3)) ∧ (jwr ((jwr (6 * v2)) + v3)) < jal 28 7) ∧ (0 ≤ (jwr ((jwr (6 * v1)) + v3)) ∧ (jwr ((jwr (6 * v1)) + v3)) < jal 28 7) ∧ jWP d 68 38 [some (.inr (28, 0)), some (.inl v1), some (.inl v2), some (.inl (jwr (v3 + 1)))] [] (jup M 28 7 (jwr ((jwr (6 * v1)) + v3)) (M 28 7 (jwr ((jwr (6 * v2)) + v3)))) Q)) :
    jWP d 68 38 [some (.inr (28, 0)), some (.inl v1), some (.inl v2), some (.inl v3)] [] M Q :=
  jreg [(38, []), (74, [])] 27 (by decide) ckX10_become h
set_option maxRecDepth 100000 in
theorem fX10_become_74 {d : Nat} {v1 : Int} {v2 : Int} {v3 : Int} {M : jM} {Q : Int → jM → Prop} (h :
    ((84 : Int) ≤ v3 →
      Q 0 M) ∧
    (v3 < (84 : Int) →
      (0 ≤ (jwr ((jwr (84 * v2)) + v3)) ∧ (jwr ((jwr (84 * v2)) + v3)) < jal 28 10) ∧ (0 ≤ (jwr ((jwr (84 * v1)) + v3)) ∧ (jwr ((jwr (84 * v1)) + v3)) < jal 28 10) ∧ jWP d 68 74 [some (.inr (28, 0)), some (.inl v1), some (.inl v2), some (.inl (jwr (v3 + 1)))] [] (jup M 28 10 (jwr ((jwr (84 * v1)) + v3)) (M 28 10 (jwr ((jwr (84 * v2)) + v3)))) Q)) :
    jWP d 68 74 [some (.inr (28, 0)), some (.inl v1), some (.inl v2), some (.inl v3)] [] M Q :=
  jreg [(38, []), (74, [])] 25 (by decide) ckX10_become h
set_option maxRecDepth 100000 in
theorem fX10_copy_0 {d : Nat} {v1 : Int} {v2 : Int} {M : jM} {Q : Int → jM → Prop} (h :
    jCall d 41 [.inl v1] M (fun r1 M1 =>
      (r1 = (0 : Int) →
        Q (-1) M1) ∧
      (¬ r1 = (0 : Int) →
        jCall d 41 [.inl v2] M1 (fun r2 M2 =>
          (¬ r2 = (0 : Int) →
            (v1 = v2 →
              (0 ≤ v2 ∧ v2 < jal 28 9) ∧ Q (M2 28 9 v2) M2) ∧
            (¬ v1 = v2 →
              jCall d 68 [.inr (28, 0), .inl v2, .inl v1] M2 (fun _ M3 =>
                (0 ≤ v2 ∧ v2 < jal 28 9) ∧ Q (M3 28 9 v2) M3))) ∧
          (r2 = (0 : Int) →
            Q (-1) M2))))) :
    jWP d 69 0 [some (.inr (28, 0)), some (.inl v1), some (.inl v2)] [] M Q :=
  jreg [] 29 (by decide) ckX10_copy h
set_option maxRecDepth 100000 in
theorem fX10_endAnswers_0 {d : Nat} {v1 : Int} {v2 : Int} {M : jM} {Q : Int → jM → Prop} (h :
    ((10 : Int) ≤ v1 →
      (0 ≤ (jwr (v1 - 10)) ∧ (jwr (v1 - 10)) < jal 28 12) ∧ ((M 28 12 (jwr (v1 - 10))) < (0 : Int) →
        ((0 : Int) = 0 ∨ (0 : Int) = 1) ∧ Q 0 M) ∧
      ((0 : Int) ≤ (M 28 12 (jwr (v1 - 10))) →
        (0 ≤ (jwr (v1 - 10)) ∧ (jwr (v1 - 10)) < jal 28 12) ∧ (¬ v2 = (jwr ((M 28 12 (jwr (v1 - 10))) + 10)) →
          ((0 : Int) = 0 ∨ (0 : Int) = 1) ∧ Q 0 M) ∧
        (v2 = (jwr ((M 28 12 (jwr (v1 - 10))) + 10)) →
          ((1 : Int) = 0 ∨ (1 : Int) = 1) ∧ Q 1 M))) ∧
    (v1 < (10 : Int) →
      ((10 : Int) ≤ v2 →
        ((0 : Int) = 0 ∨ (0 : Int) = 1) ∧ Q 0 M) ∧
      (v2 < (10 : Int) →
        (0 ≤ v1 ∧ v1 < jal 28 11) ∧ (¬ (M 28 11 v1) = v2 →
          ((0 : Int) = 0 ∨ (0 : Int) = 1) ∧ Q 0 M) ∧
        ((M 28 11 v1) = v2 →
          ((1 : Int) = 0 ∨ (1 : Int) = 1) ∧ Q 1 M)))) :
    jWP d 70 0 [some (.inr (28, 0)), some (.inl v1), some (.inl v2)] [] M Q :=
  jreg [] 45 (by decide) ckX10_endAnswers h
set_option maxRecDepth 100000 in
theorem fX10_sign_0 {d : Nat} {v0 : Int} {M : jM} {Q : Int → jM → Prop} (h :
    ((0 : Int) ≤ v0 →
      (v0 ≤ (0 : Int) →
        Q 0 M) ∧
      ((0 : Int) < v0 →
        Q 1 M)) ∧
    (v0 < (0 : Int) →
      Q (-1) M)) :
    jWP d 71 0 [some (.inl v0)] [] M Q :=
  jreg [] 14 (by decide) ckX10_sign h
set_option maxRecDepth 100000 in
theorem fX10_goes_0 {d : Nat} {v1 : Int} {v2 : Int} {v3 : Int} {v4 : Int} {M : jM} {Q : Int → jM → Prop} (h :
    jCall d 42 [.inl v1, .inl v2] M (fun r1 M1 =>
      (0 ≤ (jwr (r1 + 4)) ∧ (jwr (r1 + 4)) < jal 28 10) ∧ jCall d 42 [.inl v3, .inl v4] M1 (fun r2 M2 =>
        (0 ≤ (jwr (r2 + 4)) ∧ (jwr (r2 + 4)) < jal 28 10) ∧ jWP d 72 35 [some (.inr (28, 0)), some (.inl v1), some (.inl v2), some (.inl v3), none, some (.inl (M1 28 10 (jwr (r1 + 4)))), some (.inl (M2 28 10 (jwr (r2 + 4)))), some (.inl 1), some (.inl 0), none, none] [] M2 Q))) :
    jWP d 72 0 [some (.inr (28, 0)), some (.inl v1), some (.inl v2), some (.inl v3), some (.inl v4), none, none, none, none, none, none] [] M Q :=
  jreg [(35, [4, 9, 10])] 25 (by decide) ckX10_goes h
set_option maxRecDepth 100000 in
theorem fX10_goes_35 {d : Nat} {v1 : Int} {v2 : Int} {v3 : Int} {v5 : Int} {v6 : Int} {v7 : Int} {v8 : Int} {M : jM} {Q : Int → jM → Prop} (h :
    (v2 ≤ v8 →
      (v7 = 0 ∨ v7 = 1) ∧ Q v7 M) ∧
    (v8 < v2 →
      (v5 < (0 : Int) →
        (v7 = 0 ∨ v7 = 1) ∧ Q v7 M) ∧
      ((0 : Int) ≤ v5 →
        (v6 < (0 : Int) →
          (v7 = 0 ∨ v7 = 1) ∧ Q v7 M) ∧
        ((0 : Int) ≤ v6 →
          (0 ≤ v8 ∧ v8 < jal 28 12) ∧ ((M 28 12 v8) < (0 : Int) →
            jWP d 72 35 [some (.inr (28, 0)), some (.inl v1), some (.inl v2), some (.inl v3), none, some (.inl v5), some (.inl v6), some (.inl v7), some (.inl (jwr (v8 + 1))), none, none] [] M Q) ∧
          ((0 : Int) ≤ (M 28 12 v8) →
            jCall d 42 [.inl v1, .inl v8] M (fun r1 M1 =>
              (0 ≤ (jwr (r1 + 4)) ∧ (jwr (r1 + 4)) < jal 28 10) ∧ (0 ≤ v8 ∧ v8 < jal 28 12) ∧ jCall d 42 [.inl v3, .inl (M1 28 12 v8)] M1 (fun r2 M2 =>
                (0 ≤ (jwr (r2 + 4)) ∧ (jwr (r2 + 4)) < jal 28 10) ∧ (v7 = (0 : Int) →
                  jWP d 72 35 [some (.inr (28, 0)), some (.inl v1), some (.inl v2), some (.inl v3), none, some (.inl v5), some (.inl v6), some (.inl 0), some (.inl (jwr (v8 + 1))), none, none] [] M2 Q) ∧
                (¬ v7 = (0 : Int) →
                  ((M1 28 10 (jwr (r1 + 4))) < (0 : Int) →
                    jWP d 72 35 [some (.inr (28, 0)), some (.inl v1), some (.inl v2), some (.inl v3), none, some (.inl v5), some (.inl v6), some (.inl 1), some (.inl (jwr (v8 + 1))), none, none] [] M2 Q) ∧
                  ((0 : Int) ≤ (M1 28 10 (jwr (r1 + 4))) →
                    ((M2 28 10 (jwr (r2 + 4))) < (0 : Int) →
                      jWP d 72 35 [some (.inr (28, 0)), some (.inl v1), some (.inl v2), some (.inl v3), none, some (.inl v5), some (.inl v6), some (.inl 1), some (.inl (jwr (v8 + 1))), none, none] [] M2 Q) ∧
                    ((0 : Int) ≤ (M2 28 10 (jwr (r2 + 4))) →
                      jCall d 71 [.inl (jwr (v5 - (M1 28 10 (jwr (r1 + 4)))))] M2 (fun r3 M3 =>
                        jCall d 71 [.inl (jwr (v6 - (M2 28 10 (jwr (r2 + 4)))))] M3 (fun r4 M4 =>
                          (¬ r3 = r4 →
                            jWP d 72 35 [some (.inr (28, 0)), some (.inl v1), some (.inl v2), some (.inl v3), none, some (.inl v5), some (.inl v6), some (.inl 0), some (.inl (jwr (v8 + 1))), none, none] [] M4 Q) ∧
                          (r3 = r4 →
                            jWP d 72 35 [some (.inr (28, 0)), some (.inl v1), some (.inl v2), some (.inl v3), none, some (.inl v5), some (.inl v6), some (.inl 1), some (.inl (jwr (v8 + 1))), none, none] [] M4 Q))))))))))))) :
    jWP d 72 35 [some (.inr (28, 0)), some (.inl v1), some (.inl v2), some (.inl v3), none, some (.inl v5), some (.inl v6), some (.inl v7), some (.inl v8), none, none] [] M Q :=
  jreg [(35, [4, 9, 10])] 87 (by decide) ckX10_goes h
