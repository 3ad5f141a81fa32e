set_option maxRecDepth 100000 in
def q_X12_in (a0 a1 a2 : Int32) (Q : Int32 → Prop) : Prop :=
  (a0 < a1 →
    Q (nI 0)) ∧ (¬ a0 < a1 →
    (a2 < a0 →
      Q (nI 0)) ∧ (¬ a2 < a0 →
      Q (nI 1)))
set_option maxRecDepth 100000 in
def q_X12_isValue (a0 a1 a2 : Int32) (Q : Int32 → Prop) : Prop :=
  q_X12_in a0 (nI 0) (nI 9) (fun r1 =>
  (r1 = 0 →
    Q (nI 0)) ∧ (¬ r1 = 0 →
    q_X12_in a1 a0 (nI 9) (fun r3 =>
    (r3 = 0 →
      Q (nI 0)) ∧ (¬ r3 = 0 →
      q_X12_in a2 a0 a1 (fun r5 =>
      (r5 = 0 →
        Q (nI 0)) ∧ (¬ r5 = 0 →
        Q (nI 1)))))))
set_option maxRecDepth 100000 in
def q_X12_over (h : hp_H) (Q : hp_H → Prop) : Prop :=
  ∀ h1 : hp_H, h1 = hp_up h 0 33 (nI 0) →
  ∀ h2 : hp_H, h2 = hp_up h1 0 34 (nI 0) →
  ∀ h3 : hp_H, h3 = hp_up h2 0 35 (nI 0) →
  ∀ h4 : hp_H, h4 = hp_up h3 0 40 (nI 0) →
  Q h4
set_option maxRecDepth 100000 in
def q_X12_shared (h : hp_H) (a1 a2 a3 : Int32) (Q : Int32 → hp_H → Prop) : Prop :=
  q_X12_isValue a1 a2 a3 (fun r1 =>
  (r1 = 0 →
    Q (-3) h) ∧ (¬ r1 = 0 →
    ((h 0 0) = (nI 6) →
      Q (-6) h) ∧ (¬ (h 0 0) = (nI 6) →
      q_X12_over h (fun h4 =>
      vp_in (h4 0 0) 6 ∧
      ∀ h5 : hp_H, h5 = hp_up h4 1 (h4 0 0).toNatClampNeg a1 →
      vp_in (h5 0 0) 6 ∧
      ∀ h6 : hp_H, h6 = hp_up h5 2 (h5 0 0).toNatClampNeg a2 →
      vp_in (h6 0 0) 6 ∧
      ∀ h7 : hp_H, h7 = hp_up h6 3 (h6 0 0).toNatClampNeg a3 →
      ∀ h8 : hp_H, h8 = hp_up h7 0 0 ((h7 0 0) + (nI 1)) →
      Q ((h8 0 0) - (nI 1)) h8))))
set_option maxRecDepth 100000 in
def q_X12_role (h : hp_H) (a1 : Int32) (Q : Int32 → hp_H → Prop) : Prop :=
  q_X12_in a1 (nI 1) (nI 3) (fun r1 =>
  (r1 = 0 →
    Q (-3) h) ∧ (¬ r1 = 0 →
    ((h 0 4) = (nI 3) →
      Q (-6) h) ∧ (¬ (h 0 4) = (nI 3) →
      q_X12_over h (fun h4 =>
      vp_in (h4 0 4) 3 ∧
      ∀ h5 : hp_H, h5 = hp_up h4 4 (h4 0 4).toNatClampNeg a1 →
      ∀ h6 : hp_H, h6 = hp_up h5 0 4 ((h5 0 4) + (nI 1)) →
      Q ((h6 0 4) - (nI 1)) h6))))
set_option maxRecDepth 100000 in
def q_X12_isRole (h : hp_H) (a1 : Int32) (Q : Int32 → Prop) : Prop :=
  q_X12_in a1 (nI 0) ((h 0 4) - (nI 1)) (fun r1 =>
  hp_bz r1 ∧
  Q r1)
set_option maxRecDepth 100000 in
def q_X12_own (h : hp_H) (a1 a2 a3 a4 : Int32) (Q : Int32 → hp_H → Prop) : Prop :=
  q_X12_isRole h a1 (fun r1 =>
  (r1 = 0 →
    Q (-2) h) ∧ (¬ r1 = 0 →
    q_X12_isValue a2 a3 a4 (fun r3 =>
    (r3 = 0 →
      Q (-3) h) ∧ (¬ r3 = 0 →
      vp_in a1 3 ∧
      ((h 5 a1.toNatClampNeg) = (nI 3) →
        Q (-6) h) ∧ (¬ (h 5 a1.toNatClampNeg) = (nI 3) →
        q_X12_over h (fun h6 =>
        vp_in a1 3 ∧
        ∀ v7 : Int32, v7 = (((nI 3) * a1) + (h6 5 a1.toNatClampNeg)) →
        vp_in v7 9 ∧
        ∀ h8 : hp_H, h8 = hp_up h6 6 v7.toNatClampNeg a2 →
        vp_in v7 9 ∧
        ∀ h9 : hp_H, h9 = hp_up h8 7 v7.toNatClampNeg a3 →
        vp_in v7 9 ∧
        ∀ h10 : hp_H, h10 = hp_up h9 8 v7.toNatClampNeg a4 →
        vp_in a1 3 ∧
        vp_in a1 3 ∧
        ∀ h11 : hp_H, h11 = hp_up h10 5 a1.toNatClampNeg ((h10 5 a1.toNatClampNeg) + (nI 1)) →
        vp_in a1 3 ∧
        Q ((h11 5 a1.toNatClampNeg) - (nI 1)) h11))))))
set_option maxRecDepth 100000 in
def q_X12_end (h : hp_H) (a1 a2 : Int32) (Q : Int32 → hp_H → Prop) : Prop :=
  q_X12_isRole h a1 (fun r1 =>
  (r1 = 0 →
    Q (-2) h) ∧ (¬ r1 = 0 →
    q_X12_in a2 (nI 0) (nI 9) (fun r3 =>
    (r3 = 0 →
      Q (-3) h) ∧ (¬ r3 = 0 →
      q_X12_over h (fun h5 =>
      vp_in (((nI 10) * a1) + a2) 30 ∧
      hp_jn1 (fun K7 =>
        ((h5 9 (((nI 10) * a1) + a2).toNatClampNeg) = 0 →
          K7 (nI 0)) ∧ (¬ (h5 9 (((nI 10) * a1) + a2).toNatClampNeg) = 0 →
          K7 (nI 1))) (fun v8 =>
        vp_in (((nI 10) * a1) + a2) 30 ∧
        ∀ h9 : hp_H, h9 = hp_up h5 9 (((nI 10) * a1) + a2).toNatClampNeg (nI 1) →
        Q v8 h9))))))
set_option maxRecDepth 100000 in
def q_X12_channel (h : hp_H) (a1 a2 a3 : Int32) (Q : Int32 → hp_H → Prop) : Prop :=
  q_X12_in a1 (nI 1) (nI 3) (fun r1 =>
  (r1 = 0 →
    Q (-3) h) ∧ (¬ r1 = 0 →
    ((h 0 11) = (nI 3) →
      Q (-6) h) ∧ (¬ (h 0 11) = (nI 3) →
      q_X12_over h (fun h4 =>
      vp_in (h4 0 11) 3 ∧
      ∀ h5 : hp_H, h5 = hp_up h4 10 (h4 0 11).toNatClampNeg a1 →
      vp_in (h5 0 11) 3 ∧
      hp_bz a2 ∧
      ∀ h6 : hp_H, h6 = hp_up h5 11 (h5 0 11).toNatClampNeg a2 →
      vp_in (h6 0 11) 3 ∧
      hp_bz a3 ∧
      ∀ h7 : hp_H, h7 = hp_up h6 12 (h6 0 11).toNatClampNeg a3 →
      ∀ h8 : hp_H, h8 = hp_up h7 0 11 ((h7 0 11) + (nI 1)) →
      Q ((h8 0 11) - (nI 1)) h8))))
set_option maxRecDepth 100000 in
def q_X12_isExpr (h : hp_H) (a1 : Int32) (Q : Int32 → Prop) : Prop :=
  q_X12_in a1 (nI 0) ((h 0 15) - (nI 1)) (fun r1 =>
  hp_bz r1 ∧
  Q r1)
set_option maxRecDepth 100000 in
def q_X12_isChannel (h : hp_H) (a1 : Int32) (Q : Int32 → Prop) : Prop :=
  q_X12_in a1 (nI 0) ((h 0 11) - (nI 1)) (fun r1 =>
  hp_bz r1 ∧
  Q r1)
set_option maxRecDepth 100000 in
def q_X12_isThere (h : hp_H) (a1 a2 a3 a4 : Int32) (Q : Int32 → Prop) : Prop :=
  ((a1 = (nI 0) ∨ a1 = (nI 2) ∨ a1 = (nI 3)) →
    Q (nI 1))
  ∧ ((a1 = (nI 1)) →
    q_X12_in a2 (nI 0) ((h 0 0) - (nI 1)) (fun r1 =>
    hp_bz r1 ∧
    Q r1))
  ∧ ((a1 = (nI 4)) →
    q_X12_isRole h a2 (fun r2 =>
    hp_bz r2 ∧
    Q r2))
  ∧ ((a1 = (nI 5)) →
    q_X12_isChannel h a2 (fun r3 =>
    hp_bz r3 ∧
    Q r3))
  ∧ ((a1 = (nI 6)) →
    q_X12_isRole h a2 (fun r4 =>
    (r4 = 0 →
      Q (nI 0)) ∧ (¬ r4 = 0 →
      vp_in a2 3 ∧
      q_X12_in a3 (nI 0) ((h 4 a2.toNatClampNeg) - (nI 1)) (fun r6 =>
      (r6 = 0 →
        Q (nI 0)) ∧ (¬ r6 = 0 →
        vp_in a2 3 ∧
        q_X12_in a4 (nI 0) ((h 5 a2.toNatClampNeg) - (nI 1)) (fun r8 =>
        (r8 = 0 →
          Q (nI 0)) ∧ (¬ r8 = 0 →
          Q (nI 1))))))))
  ∧ ((a1 = (nI 14)) →
    q_X12_isExpr h a2 (fun r10 =>
    hp_bz r10 ∧
    Q r10))
  ∧ ((¬ a1 = (nI 0) ∧ ¬ a1 = (nI 1) ∧ ¬ a1 = (nI 2) ∧ ¬ a1 = (nI 3) ∧ ¬ a1 = (nI 4) ∧ ¬ a1 = (nI 5) ∧ ¬ a1 = (nI 6) ∧ ¬ a1 = (nI 14)) →
    q_X12_isExpr h a2 (fun r11 =>
    (r11 = 0 →
      Q (nI 0)) ∧ (¬ r11 = 0 →
      q_X12_isExpr h a3 (fun r13 =>
      (r13 = 0 →
        Q (nI 0)) ∧ (¬ r13 = 0 →
        Q (nI 1))))))
set_option maxRecDepth 100000 in
def q_X12_expr (h : hp_H) (a1 a2 a3 a4 : Int32) (Q : Int32 → hp_H → Prop) : Prop :=
  q_X12_in a1 (nI 0) (nI 14) (fun r1 =>
  (r1 = 0 →
    Q (-3) h) ∧ (¬ r1 = 0 →
    q_X12_isThere h a1 a2 a3 a4 (fun r3 =>
    (r3 = 0 →
      Q (-2) h) ∧ (¬ r3 = 0 →
      hp_jn0 (fun K6 =>
        (a1 = (nI 2) →
          q_X12_in a2 (nI 0) (nI 2) (fun r7 =>
          (r7 = 0 →
            Q (-3) h) ∧ (¬ r7 = 0 →
            K6))) ∧ (¬ a1 = (nI 2) →
          K6)) (
        hp_jn0 (fun K10 =>
          (a1 = (nI 4) →
            q_X12_in a3 (nI 0) (nI 9) (fun r11 =>
            (r11 = 0 →
              Q (-3) h) ∧ (¬ r11 = 0 →
              K10))) ∧ (¬ a1 = (nI 4) →
            K10)) (
          ((h 0 15) = (nI 80) →
            Q (-6) h) ∧ (¬ (h 0 15) = (nI 80) →
            q_X12_over h (fun h14 =>
            vp_in (h14 0 15) 80 ∧
            ∀ h15 : hp_H, h15 = hp_up h14 13 (h14 0 15).toNatClampNeg a1 →
            vp_in (h15 0 15) 80 ∧
            ∀ h16 : hp_H, h16 = hp_up h15 14 (h15 0 15).toNatClampNeg a2 →
            vp_in (h16 0 15) 80 ∧
            ∀ h17 : hp_H, h17 = hp_up h16 15 (h16 0 15).toNatClampNeg a3 →
            vp_in (h17 0 15) 80 ∧
            ∀ h18 : hp_H, h18 = hp_up h17 16 (h17 0 15).toNatClampNeg a4 →
            hp_jn1 (fun K20 =>
              hp_jn0 (fun K22 =>
                (a1 = (nI 2) →
                  K22) ∧ (¬ a1 = (nI 2) →
                  (a1 = (nI 3) →
                    K22) ∧ (¬ a1 = (nI 3) →
                    hp_jn0 (fun K25 =>
                      (a1 ≤ (nI 6) →
                        K25) ∧ (¬ a1 ≤ (nI 6) →
                        vp_in a2 80 ∧
                        ((h18 17 a2.toNatClampNeg) = 0 →
                          K25) ∧ (¬ (h18 17 a2.toNatClampNeg) = 0 →
                          K22))) (
                      hp_jn0 (fun K28 =>
                        (a1 ≤ (nI 6) →
                          K28) ∧ (¬ a1 ≤ (nI 6) →
                          ((nI 14) ≤ a1 →
                            K28) ∧ (¬ (nI 14) ≤ a1 →
                            vp_in a3 80 ∧
                            ((h18 17 a3.toNatClampNeg) = 0 →
                              K28) ∧ (¬ (h18 17 a3.toNatClampNeg) = 0 →
                              K22)))) (
                        K20 (nI 0)))))) (
                K20 (nI 1))) (fun v21 =>
              vp_in (h18 0 15) 80 ∧
              hp_bz v21 ∧
              ∀ h31 : hp_H, h31 = hp_up h18 17 (h18 0 15).toNatClampNeg v21 →
              ∀ h32 : hp_H, h32 = hp_up h31 0 15 ((h31 0 15) + (nI 1)) →
              Q ((h32 0 15) - (nI 1)) h32)))))))))
set_option maxRecDepth 100000 in
def q_X12_step (h : hp_H) (a1 a2 a3 a4 : Int32) (Q : Int32 → hp_H → Prop) : Prop :=
  q_X12_isRole h a1 (fun r1 =>
  (r1 = 0 →
    Q (-2) h) ∧ (¬ r1 = 0 →
    hp_jn0 (fun K4 =>
      (a4 = (-1) →
        K4) ∧ (¬ a4 = (-1) →
        q_X12_isExpr h a4 (fun r5 =>
        (r5 = 0 →
          Q (-2) h) ∧ (¬ r5 = 0 →
          K4)))) (
      q_X12_in a2 (nI 0) (nI 9) (fun r7 =>
      (r7 = 0 →
        Q (-3) h) ∧ (¬ r7 = 0 →
        q_X12_in a3 (nI 0) (nI 9) (fun r9 =>
        (r9 = 0 →
          Q (-3) h) ∧ (¬ r9 = 0 →
          ((h 0 21) = (nI 24) →
            Q (-6) h) ∧ (¬ (h 0 21) = (nI 24) →
            q_X12_over h (fun h12 =>
            vp_in (h12 0 21) 24 ∧
            ∀ h13 : hp_H, h13 = hp_up h12 18 (h12 0 21).toNatClampNeg a1 →
            vp_in (h13 0 21) 24 ∧
            ∀ h14 : hp_H, h14 = hp_up h13 19 (h13 0 21).toNatClampNeg a2 →
            vp_in (h14 0 21) 24 ∧
            ∀ h15 : hp_H, h15 = hp_up h14 20 (h14 0 21).toNatClampNeg a3 →
            vp_in (h15 0 21) 24 ∧
            ∀ h16 : hp_H, h16 = hp_up h15 21 (h15 0 21).toNatClampNeg a4 →
            ∀ h17 : hp_H, h17 = hp_up h16 0 21 ((h16 0 21) + (nI 1)) →
            Q ((h17 0 21) - (nI 1)) h17)))))))))
set_option maxRecDepth 100000 in
def q_X12_act (h : hp_H) (a1 a2 a3 a4 : Int32) (Q : Int32 → hp_H → Prop) : Prop :=
  q_X12_in a2 (nI 0) (nI 3) (fun r1 =>
  (r1 = 0 →
    Q (-3) h) ∧ (¬ r1 = 0 →
    q_X12_in a1 (nI 0) ((h 0 21) - (nI 1)) (fun r3 =>
    (r3 = 0 →
      Q (-2) h) ∧ (¬ r3 = 0 →
      vp_in a1 24 ∧
      vp_in (h 18 a1.toNatClampNeg) 3 ∧
      ∀ v5 : Int32, v5 = (h 5 (h 18 a1.toNatClampNeg).toNatClampNeg) →
      hp_jn1 (fun K7 =>
        (a2 = 0 →
          q_X12_in a3 (nI 0) ((h 0 0) - (nI 1)) (fun r26 =>
          hp_jn0 (fun K28 =>
            (r26 = 0 →
              K28) ∧ (¬ r26 = 0 →
              q_X12_isExpr h a4 (fun r29 =>
              (r29 = 0 →
                K28) ∧ (¬ r29 = 0 →
                K7 (nI 1))))) (
            K7 (nI 0)))) ∧ (¬ a2 = 0 →
          (a2 = (nI 1) →
            q_X12_in a3 (nI 0) (v5 - (nI 1)) (fun r21 =>
            hp_jn0 (fun K23 =>
              (r21 = 0 →
                K23) ∧ (¬ r21 = 0 →
                q_X12_isExpr h a4 (fun r24 =>
                (r24 = 0 →
                  K23) ∧ (¬ r24 = 0 →
                  K7 (nI 1))))) (
              K7 (nI 0)))) ∧ (¬ a2 = (nI 1) →
            (a2 = (nI 2) →
              q_X12_isChannel h a3 (fun r16 =>
              hp_jn0 (fun K18 =>
                (r16 = 0 →
                  K18) ∧ (¬ r16 = 0 →
                  q_X12_isExpr h a4 (fun r19 =>
                  (r19 = 0 →
                    K18) ∧ (¬ r19 = 0 →
                    K7 (nI 1))))) (
                K7 (nI 0)))) ∧ (¬ a2 = (nI 2) →
              q_X12_isChannel h a3 (fun r11 =>
              hp_jn0 (fun K13 =>
                (r11 = 0 →
                  K13) ∧ (¬ r11 = 0 →
                  q_X12_in a4 (nI 0) (v5 - (nI 1)) (fun r14 =>
                  (r14 = 0 →
                    K13) ∧ (¬ r14 = 0 →
                    K7 (nI 1))))) (
                K7 (nI 0))))))) (fun v8 =>
        (v8 = 0 →
          Q (-2) h) ∧ (¬ v8 = 0 →
          hp_lp1 (fun v33 B32 =>
            vp_in a1 24 ∧
            hp_jn0 (fun K35 =>
              ((h 22 a1.toNatClampNeg) ≤ v33 →
                K35) ∧ (¬ (h 22 a1.toNatClampNeg) ≤ v33 →
                (a2 ≤ (nI 1) →
                  K35) ∧ (¬ a2 ≤ (nI 1) →
                  vp_in (((nI 4) * a1) + v33) 96 ∧
                  hp_jn0 (fun K38 =>
                    ((h 23 (((nI 4) * a1) + v33).toNatClampNeg) = a2 →
                      vp_in (((nI 4) * a1) + v33) 96 ∧
                      ((h 24 (((nI 4) * a1) + v33).toNatClampNeg) = a3 →
                        Q (-3) h) ∧ (¬ (h 24 (((nI 4) * a1) + v33).toNatClampNeg) = a3 →
                        K38)) ∧ (¬ (h 23 (((nI 4) * a1) + v33).toNatClampNeg) = a2 →
                      K38)) (
                    ∀ v40 : Int32, v40 = v33 + (nI 1) →
                    B32 v40)))) (
              vp_in a1 24 ∧
              ((h 22 a1.toNatClampNeg) = (nI 4) →
                Q (-6) h) ∧ (¬ (h 22 a1.toNatClampNeg) = (nI 4) →
                q_X12_over h (fun h42 =>
                vp_in a1 24 ∧
                ∀ v43 : Int32, v43 = (((nI 4) * a1) + (h42 22 a1.toNatClampNeg)) →
                vp_in v43 96 ∧
                ∀ h44 : hp_H, h44 = hp_up h42 23 v43.toNatClampNeg a2 →
                vp_in v43 96 ∧
                ∀ h45 : hp_H, h45 = hp_up h44 24 v43.toNatClampNeg a3 →
                vp_in v43 96 ∧
                ∀ h46 : hp_H, h46 = hp_up h45 25 v43.toNatClampNeg a4 →
                vp_in a1 24 ∧
                vp_in a1 24 ∧
                ∀ h47 : hp_H, h47 = hp_up h46 22 a1.toNatClampNeg ((h46 22 a1.toNatClampNeg) + (nI 1)) →
                vp_in a1 24 ∧
                Q (h47 22 a1.toNatClampNeg) h47)))) (nI 0)))))))
set_option maxRecDepth 100000 in
def q_X12_alike (h : hp_H) (a1 : Int32) (Q : Int32 → hp_H → Prop) : Prop :=
  hp_jn1 (fun K2 =>
    ((h 0 30) = 0 →
      K2 (nI 0)) ∧ (¬ (h 0 30) = 0 →
      K2 (nI 1))) (fun v3 =>
    q_X12_over h (fun h4 =>
    hp_bz a1 ∧
    ∀ h5 : hp_H, h5 = hp_up h4 0 30 a1 →
    Q v3 h5))
set_option maxRecDepth 100000 in
def q_X12_memberAt (a0 a1 : Int32) (Q : Int32 → Prop) : Prop :=
  Q ((nI 6) + ((nI 4) * (((nI 3) * a0) + a1)))
set_option maxRecDepth 100000 in
def q_X12_channelAt (a0 : Int32) (Q : Int32 → Prop) : Prop :=
  Q ((nI 42) + ((nI 4) * a0))
set_option maxRecDepth 100000 in
def q_X12_cell (h : hp_H) (a1 a2 : Int32) (Q : Int32 → Prop) : Prop :=
  vp_in (((nI 54) * a1) + a2) 21600 ∧
  Q (h 27 (((nI 54) * a1) + a2).toNatClampNeg)
set_option maxRecDepth 100000 in
def q_X12_many (h : hp_H) (a1 a2 a3 : Int32) (Q : Int32 → Prop) : Prop :=
  hp_lp2 (fun v2 v3 B1 =>
    vp_in a2 3 ∧
    ((h 4 a2.toNatClampNeg) ≤ v3 →
      Q v2) ∧ (¬ (h 4 a2.toNatClampNeg) ≤ v3 →
      q_X12_memberAt a2 v3 (fun r5 =>
      q_X12_cell h a1 r5 (fun r6 =>
      hp_jn1 (fun K8 =>
        (r6 = a3 →
          K8 (nI 1)) ∧ (¬ r6 = a3 →
          K8 (nI 0))) (fun v9 =>
        ∀ v10 : Int32, v10 = (v2 + v9) →
        ∀ v11 : Int32, v11 = v3 + (nI 1) →
        B1 v10 v11))))) (nI 0) (nI 0)
set_option maxRecDepth 100000 in
def q_X12_reckon (h : hp_H) (a1 a2 a3 : Int32) (Q : hp_H → Prop) : Prop :=
  hp_lp1h (fun v2 h3 B1 =>
    ((h3 0 15) ≤ v2 →
      Q h3) ∧ (¬ (h3 0 15) ≤ v2 →
      vp_in v2 80 ∧
      ∀ v5 : Int32, v5 = (h3 14 v2.toNatClampNeg) →
      vp_in v2 80 ∧
      ∀ v6 : Int32, v6 = (h3 15 v2.toNatClampNeg) →
      vp_in v2 80 ∧
      ∀ v7 : Int32, v7 = (h3 13 v2.toNatClampNeg) →
      hp_jn1 (fun K8 =>
        ((v7 = (nI 0)) →
          K8 v5)
        ∧ ((v7 = (nI 1)) →
          q_X12_cell h3 a1 v5 (fun r10 =>
          K8 r10))
        ∧ ((v7 = (nI 2)) →
          hp_jn1 (fun K12 =>
            hp_jn0 (fun K14 =>
              (a2 = (-1) →
                K14) ∧ (¬ a2 = (-1) →
                vp_in a2 3 ∧
                (v5 < (h3 5 a2.toNatClampNeg) →
                  q_X12_memberAt a2 a3 (fun r16 =>
                  q_X12_cell h3 a1 ((r16 + (nI 1)) + v5) (fun r17 =>
                  K12 r17))) ∧ (¬ v5 < (h3 5 a2.toNatClampNeg) →
                  K14))) (
              K12 (nI 0))) (fun v13 =>
            K8 v13))
        ∧ ((v7 = (nI 3)) →
          hp_jn1 (fun K19 =>
            (a2 = (-1) →
              K19 (nI 0)) ∧ (¬ a2 = (-1) →
              K19 a3)) (fun v20 =>
            K8 v20))
        ∧ ((v7 = (nI 4)) →
          q_X12_many h3 a1 v5 v6 (fun r21 =>
          K8 r21))
        ∧ ((v7 = (nI 5)) →
          q_X12_channelAt v5 (fun r22 =>
          q_X12_cell h3 a1 r22 (fun r23 =>
          K8 r23)))
        ∧ ((v7 = (nI 6)) →
          q_X12_memberAt v5 v6 (fun r24 =>
          vp_in v2 80 ∧
          q_X12_cell h3 a1 ((r24 + (nI 1)) + (h3 16 v2.toNatClampNeg)) (fun r25 =>
          K8 r25)))
        ∧ ((v7 = (nI 7)) →
          vp_in v5 80 ∧
          vp_in v6 80 ∧
          ∀ v26 : Int32, v26 = ((h3 37 v5.toNatClampNeg) + (h3 37 v6.toNatClampNeg)) →
          K8 v26)
        ∧ ((v7 = (nI 8)) →
          vp_in v5 80 ∧
          vp_in v6 80 ∧
          ∀ v27 : Int32, v27 = ((h3 37 v5.toNatClampNeg) - (h3 37 v6.toNatClampNeg)) →
          K8 v27)
        ∧ ((v7 = (nI 9)) →
          vp_in v5 80 ∧
          vp_in v6 80 ∧
          ∀ v28 : Int32, v28 = ((h3 37 v5.toNatClampNeg) * (h3 37 v6.toNatClampNeg)) →
          K8 v28)
        ∧ ((v7 = (nI 10)) →
          vp_in v5 80 ∧
          vp_in v6 80 ∧
          hp_jn1 (fun K30 =>
            ((h3 37 v5.toNatClampNeg) = (h3 37 v6.toNatClampNeg) →
              K30 (nI 1)) ∧ (¬ (h3 37 v5.toNatClampNeg) = (h3 37 v6.toNatClampNeg) →
              K30 (nI 0))) (fun v31 =>
            K8 v31))
        ∧ ((v7 = (nI 11)) →
          vp_in v5 80 ∧
          vp_in v6 80 ∧
          hp_jn1 (fun K33 =>
            ((h3 37 v6.toNatClampNeg) ≤ (h3 37 v5.toNatClampNeg) →
              K33 (nI 0)) ∧ (¬ (h3 37 v6.toNatClampNeg) ≤ (h3 37 v5.toNatClampNeg) →
              K33 (nI 1))) (fun v34 =>
            K8 v34))
        ∧ ((v7 = (nI 12)) →
          vp_in v5 80 ∧
          hp_jn1 (fun K36 =>
            hp_jn0 (fun K38 =>
              ((h3 37 v5.toNatClampNeg) = 0 →
                K38) ∧ (¬ (h3 37 v5.toNatClampNeg) = 0 →
                vp_in v6 80 ∧
                ((h3 37 v6.toNatClampNeg) = 0 →
                  K38) ∧ (¬ (h3 37 v6.toNatClampNeg) = 0 →
                  K36 (nI 1)))) (
              K36 (nI 0))) (fun v37 =>
            K8 v37))
        ∧ ((v7 = (nI 13)) →
          vp_in v5 80 ∧
          hp_jn1 (fun K41 =>
            hp_jn0 (fun K43 =>
              ((h3 37 v5.toNatClampNeg) = 0 →
                vp_in v6 80 ∧
                ((h3 37 v6.toNatClampNeg) = 0 →
                  K41 (nI 0)) ∧ (¬ (h3 37 v6.toNatClampNeg) = 0 →
                  K43)) ∧ (¬ (h3 37 v5.toNatClampNeg) = 0 →
                K43)) (
              K41 (nI 1))) (fun v42 =>
            K8 v42))
        ∧ ((¬ v7 = (nI 0) ∧ ¬ v7 = (nI 1) ∧ ¬ v7 = (nI 2) ∧ ¬ v7 = (nI 3) ∧ ¬ v7 = (nI 4) ∧ ¬ v7 = (nI 5) ∧ ¬ v7 = (nI 6) ∧ ¬ v7 = (nI 7) ∧ ¬ v7 = (nI 8) ∧ ¬ v7 = (nI 9) ∧ ¬ v7 = (nI 10) ∧ ¬ v7 = (nI 11) ∧ ¬ v7 = (nI 12) ∧ ¬ v7 = (nI 13)) →
          vp_in v5 80 ∧
          hp_jn1 (fun K46 =>
            ((h3 37 v5.toNatClampNeg) = 0 →
              K46 (nI 1)) ∧ (¬ (h3 37 v5.toNatClampNeg) = 0 →
              K46 (nI 0))) (fun v47 =>
            K8 v47))) (fun v9 =>
        vp_in v2 80 ∧
        ∀ h62 : hp_H, h62 = hp_up h3 37 v2.toNatClampNeg v9 →
        ∀ v63 : Int32, v63 = v2 + (nI 1) →
        B1 v63 h62))) (nI 0) h
set_option maxRecDepth 100000 in
def q_X12_isBehind (h : hp_H) (a1 a2 a3 : Int32) (Q : Int32 → Prop) : Prop :=
  q_X12_memberAt a1 a2 (fun r1 =>
  q_X12_memberAt a1 a3 (fun r2 =>
  hp_lp1 (fun v4 B3 =>
    ((nI 4) ≤ v4 →
      Q (nI 0)) ∧ (¬ (nI 4) ≤ v4 →
      vp_in (r1 + v4) 54 ∧
      vp_in (r2 + v4) 54 ∧
      ((h 36 (r1 + v4).toNatClampNeg) = (h 36 (r2 + v4).toNatClampNeg) →
        ∀ v7 : Int32, v7 = v4 + (nI 1) →
        B3 v7) ∧ (¬ (h 36 (r1 + v4).toNatClampNeg) = (h 36 (r2 + v4).toNatClampNeg) →
        vp_in (r1 + v4) 54 ∧
        vp_in (r2 + v4) 54 ∧
        ((h 36 (r1 + v4).toNatClampNeg) ≤ (h 36 (r2 + v4).toNatClampNeg) →
          Q (nI 0)) ∧ (¬ (h 36 (r1 + v4).toNatClampNeg) ≤ (h 36 (r2 + v4).toNatClampNeg) →
          Q (nI 1))))) (nI 0)))
set_option maxRecDepth 100000 in
def q_X12_order (h : hp_H) (Q : hp_H → Prop) : Prop :=
  hp_lp1h (fun v2 h3 B1 =>
    ((h3 0 4) ≤ v2 →
      Q h3) ∧ (¬ (h3 0 4) ≤ v2 →
      hp_lp1h (fun v6 h7 B5 =>
        ((nI 2) ≤ v6 →
          ∀ v9 : Int32, v9 = v2 + (nI 1) →
          B1 v9 h7) ∧ (¬ (nI 2) ≤ v6 →
          hp_lp1h (fun v11 h12 B10 =>
            vp_in v2 3 ∧
            ((h12 4 v2.toNatClampNeg) ≤ (v11 + (nI 1)) →
              ∀ v14 : Int32, v14 = v6 + (nI 1) →
              B5 v14 h12) ∧ (¬ (h12 4 v2.toNatClampNeg) ≤ (v11 + (nI 1)) →
              q_X12_isBehind h12 v2 v11 (v11 + (nI 1)) (fun r15 =>
              hp_jn0h (fun K17 =>
                (r15 = 0 →
                  K17 h12) ∧ (¬ r15 = 0 →
                  q_X12_memberAt v2 v11 (fun r19 =>
                  hp_lp1h (fun v21 h22 B20 =>
                    ((nI 4) ≤ v21 →
                      K17 h22) ∧ (¬ (nI 4) ≤ v21 →
                      vp_in (r19 + v21) 54 ∧
                      ∀ v24 : Int32, v24 = (h22 36 (r19 + v21).toNatClampNeg) →
                      vp_in ((r19 + (nI 4)) + v21) 54 ∧
                      vp_in (r19 + v21) 54 ∧
                      ∀ h25 : hp_H, h25 = hp_up h22 36 (r19 + v21).toNatClampNeg (h22 36 ((r19 + (nI 4)) + v21).toNatClampNeg) →
                      vp_in ((r19 + (nI 4)) + v21) 54 ∧
                      ∀ h26 : hp_H, h26 = hp_up h25 36 ((r19 + (nI 4)) + v21).toNatClampNeg v24 →
                      ∀ v27 : Int32, v27 = v21 + (nI 1) →
                      B20 v27 h26)) (nI 0) h12))) (fun h18 =>
                ∀ v28 : Int32, v28 = v11 + (nI 1) →
                B10 v28 h18)))) (nI 0) h7)) (nI 0) h3)) (nI 0) h
set_option maxRecDepth 100000 in
def q_X12_placeOf (h : hp_H) (Q : Int32 → Prop) : Prop :=
  hp_lp1 (fun v2 B1 =>
    ((h 0 35) ≤ v2 →
      Q (-1)) ∧ (¬ (h 0 35) ≤ v2 →
      hp_lp2 (fun v5 v6 B4 =>
        hp_jn0 (fun K8 =>
          ((nI 54) ≤ v6 →
            K8) ∧ (¬ (nI 54) ≤ v6 →
            (v5 = 0 →
              K8) ∧ (¬ v5 = 0 →
              vp_in (((nI 54) * v2) + v6) 21600 ∧
              vp_in v6 54 ∧
              hp_jn1 (fun K11 =>
                ((h 27 (((nI 54) * v2) + v6).toNatClampNeg) = (h 36 v6.toNatClampNeg) →
                  K11 (nI 1)) ∧ (¬ (h 27 (((nI 54) * v2) + v6).toNatClampNeg) = (h 36 v6.toNatClampNeg) →
                  K11 (nI 0))) (fun v12 =>
                ∀ v13 : Int32, v13 = v6 + (nI 1) →
                B4 v12 v13)))) (
          (v5 = 0 →
            ∀ v15 : Int32, v15 = v2 + (nI 1) →
            B1 v15) ∧ (¬ v5 = 0 →
            Q v2))) (nI 1) (nI 0))) (nI 0)
set_option maxRecDepth 100000 in
def q_X12_take (h : hp_H) (a1 : Int32) (Q : hp_H → Prop) : Prop :=
  hp_lp1h (fun v2 h3 B1 =>
    ((nI 54) ≤ v2 →
      Q h3) ∧ (¬ (nI 54) ≤ v2 →
      vp_in (((nI 54) * a1) + v2) 21600 ∧
      vp_in v2 54 ∧
      ∀ h5 : hp_H, h5 = hp_up h3 36 v2.toNatClampNeg (h3 27 (((nI 54) * a1) + v2).toNatClampNeg) →
      ∀ v6 : Int32, v6 = v2 + (nI 1) →
      B1 v6 h5)) (nI 0) h
set_option maxRecDepth 100000 in
def q_X12_comes (h : hp_H) (a1 a2 a3 a4 : Int32) (Q : Int32 → hp_H → Prop) : Prop :=
  ((h 0 40) = (nI 6000) →
    Q (nI 0) h) ∧ (¬ (h 0 40) = (nI 6000) →
    hp_jn0h (fun K3 =>
      ((h 0 30) = 0 →
        K3 h) ∧ (¬ (h 0 30) = 0 →
        q_X12_order h (fun h5 =>
        K3 h5))) (fun h4 =>
      q_X12_placeOf h4 (fun r6 =>
      hp_jn1h (fun K8 =>
        (r6 = (-1) →
          ((h4 0 35) = (nI 400) →
            Q (nI 0) h4) ∧ (¬ (h4 0 35) = (nI 400) →
            ∀ v12 : Int32, v12 = (h4 0 35) →
            hp_lp1h (fun v14 h15 B13 =>
              ((nI 54) ≤ v14 →
                vp_in v12 400 ∧
                ∀ h17 : hp_H, h17 = hp_up h15 28 v12.toNatClampNeg a1 →
                vp_in a1 401 ∧
                vp_in v12 400 ∧
                ∀ h18 : hp_H, h18 = hp_up h17 29 v12.toNatClampNeg ((h17 0 40) - (h17 31 a1.toNatClampNeg)) →
                vp_in a1 400 ∧
                vp_in v12 400 ∧
                ∀ h19 : hp_H, h19 = hp_up h18 30 v12.toNatClampNeg ((h18 30 a1.toNatClampNeg) + (nI 1)) →
                ∀ h20 : hp_H, h20 = hp_up h19 0 35 ((h19 0 35) + (nI 1)) →
                K8 v12 h20) ∧ (¬ (nI 54) ≤ v14 →
                vp_in v14 54 ∧
                vp_in (((nI 54) * v12) + v14) 21600 ∧
                ∀ h21 : hp_H, h21 = hp_up h15 27 (((nI 54) * v12) + v14).toNatClampNeg (h15 36 v14.toNatClampNeg) →
                ∀ v22 : Int32, v22 = v14 + (nI 1) →
                B13 v22 h21)) (nI 0) h4)) ∧ (¬ r6 = (-1) →
          K8 r6 h4)) (fun v9 h10 =>
        vp_in (h10 0 40) 6000 ∧
        ∀ h23 : hp_H, h23 = hp_up h10 32 (h10 0 40).toNatClampNeg v9 →
        vp_in (h23 0 40) 6000 ∧
        ∀ h24 : hp_H, h24 = hp_up h23 33 (h23 0 40).toNatClampNeg a2 →
        vp_in (h24 0 40) 6000 ∧
        ∀ h25 : hp_H, h25 = hp_up h24 34 (h24 0 40).toNatClampNeg a3 →
        vp_in (h25 0 40) 6000 ∧
        ∀ h26 : hp_H, h26 = hp_up h25 35 (h25 0 40).toNatClampNeg a4 →
        ∀ h27 : hp_H, h27 = hp_up h26 0 40 ((h26 0 40) + (nI 1)) →
        Q (nI 1) h27))))
set_option maxRecDepth 100000 in
def q_X12_can (h : hp_H) (a1 a2 a3 : Int32) (Q : Int32 → Prop) : Prop :=
  vp_in a3 24 ∧
  ∀ v1 : Int32, v1 = (h 18 a3.toNatClampNeg) →
  q_X12_memberAt v1 a2 (fun r2 =>
  q_X12_cell h a1 r2 (fun r3 =>
  vp_in a3 24 ∧
  hp_jn1 (fun K5 =>
    hp_jn0 (fun K7 =>
      (r3 = (h 19 a3.toNatClampNeg) →
        vp_in a3 24 ∧
        hp_jn0 (fun K9 =>
          ((h 21 a3.toNatClampNeg) = (-1) →
            K9) ∧ (¬ (h 21 a3.toNatClampNeg) = (-1) →
            vp_in a3 24 ∧
            vp_in (h 21 a3.toNatClampNeg) 80 ∧
            ((h 37 (h 21 a3.toNatClampNeg).toNatClampNeg) = 0 →
              K7) ∧ (¬ (h 37 (h 21 a3.toNatClampNeg).toNatClampNeg) = 0 →
              K9))) (
          K5 (nI 1))) ∧ (¬ r3 = (h 19 a3.toNatClampNeg) →
        K7)) (
      K5 (nI 0))) (fun v6 =>
    hp_lp2 (fun v12 v13 B11 =>
      vp_in a3 24 ∧
      ((h 22 a3.toNatClampNeg) ≤ v13 →
        hp_bz v12 ∧
        Q v12) ∧ (¬ (h 22 a3.toNatClampNeg) ≤ v13 →
        (v12 = 0 →
          hp_bz v12 ∧
          Q v12) ∧ (¬ v12 = 0 →
          ∀ v16 : Int32, v16 = (((nI 4) * a3) + v13) →
          vp_in v16 96 ∧
          hp_jn1 (fun K18 =>
            ((h 23 v16.toNatClampNeg) ≤ (nI 1) →
              K18 (nI 0)) ∧ (¬ (h 23 v16.toNatClampNeg) ≤ (nI 1) →
              vp_in v16 96 ∧
              q_X12_channelAt (h 24 v16.toNatClampNeg) (fun r20 =>
              q_X12_cell h a1 r20 (fun r21 =>
              K18 r21)))) (fun v19 =>
            vp_in v16 96 ∧
            hp_jn1 (fun K23 =>
              hp_jn0 (fun K25 =>
                ((h 23 v16.toNatClampNeg) < (nI 2) →
                  K25) ∧ (¬ (h 23 v16.toNatClampNeg) < (nI 2) →
                  vp_in v16 96 ∧
                  hp_jn0 (fun K27 =>
                    ((h 23 v16.toNatClampNeg) = (nI 2) →
                      vp_in v16 96 ∧
                      vp_in (h 24 v16.toNatClampNeg) 3 ∧
                      ((h 10 (h 24 v16.toNatClampNeg).toNatClampNeg) ≤ v19 →
                        K27) ∧ (¬ (h 10 (h 24 v16.toNatClampNeg).toNatClampNeg) ≤ v19 →
                        K25)) ∧ (¬ (h 23 v16.toNatClampNeg) = (nI 2) →
                      (v19 ≤ 0 →
                        K27) ∧ (¬ v19 ≤ 0 →
                        K25))) (
                    K23 (nI 0)))) (
                K23 (nI 1))) (fun v24 =>
              ∀ v30 : Int32, v30 = v13 + (nI 1) →
              B11 v24 v30))))) v6 (nI 0))))
set_option maxRecDepth 100000 in
def q_X12_isFirst (h : hp_H) (a1 a2 a3 : Int32) (Q : Int32 → Prop) : Prop :=
  q_X12_channelAt a2 (fun r1 =>
  ∀ v2 : Int32, v2 = (r1 + (nI 1)) →
  hp_lp1 (fun v4 B3 =>
    (a3 ≤ v4 →
      Q (nI 1)) ∧ (¬ a3 ≤ v4 →
      q_X12_cell h a1 (v2 + v4) (fun r6 =>
      q_X12_cell h a1 (v2 + a3) (fun r7 =>
      (r6 = r7 →
        Q (nI 0)) ∧ (¬ r6 = r7 →
        ∀ v9 : Int32, v9 = v4 + (nI 1) →
        B3 v9))))) (nI 0))
set_option maxRecDepth 100000 in
def q_X12_nextChoice (h : hp_H) (a1 a2 a3 : Int32) (Q : Int32 → Prop) : Prop :=
  vp_in a2 96 ∧
  ∀ v1 : Int32, v1 = (h 24 a2.toNatClampNeg) →
  q_X12_channelAt v1 (fun r2 =>
  q_X12_cell h a1 r2 (fun r3 =>
  hp_lp1 (fun v5 B4 =>
    hp_jn0 (fun K7 =>
      (r3 ≤ v5 →
        K7) ∧ (¬ r3 ≤ v5 →
        q_X12_isFirst h a1 v1 v5 (fun r8 =>
        (r8 = 0 →
          ∀ v10 : Int32, v10 = v5 + (nI 1) →
          B4 v10) ∧ (¬ r8 = 0 →
          K7)))) (
      (r3 ≤ v5 →
        Q (-1)) ∧ (¬ r3 ≤ v5 →
        vp_in v1 3 ∧
        ((h 11 v1.toNatClampNeg) = 0 →
          (v5 = 0 →
            Q v5) ∧ (¬ v5 = 0 →
            Q (-1))) ∧ (¬ (h 11 v1.toNatClampNeg) = 0 →
          Q v5)))) a3))
set_option maxRecDepth 100000 in
def q_X12_hasNextWay (h : hp_H) (a1 a2 : Int32) (Q : Int32 → hp_H → Prop) : Prop :=
  vp_in a2 24 ∧
  ∀ v1 : Int32, v1 = ((h 22 a2.toNatClampNeg) - (nI 1)) →
  hp_lp1h (fun v3 h4 B2 =>
    (v3 < 0 →
      Q (nI 0) h4) ∧ (¬ v3 < 0 →
      ∀ v6 : Int32, v6 = (((nI 4) * a2) + v3) →
      vp_in v6 96 ∧
      hp_jn0h (fun K8 =>
        ((h4 23 v6.toNatClampNeg) = (nI 3) →
          vp_in v3 4 ∧
          q_X12_nextChoice h4 a1 v6 ((h4 38 v3.toNatClampNeg) + (nI 1)) (fun r10 =>
          (r10 = (-1) →
            vp_in v3 4 ∧
            ∀ h12 : hp_H, h12 = hp_up h4 38 v3.toNatClampNeg (nI 0) →
            K8 h12) ∧ (¬ r10 = (-1) →
            vp_in v3 4 ∧
            ∀ h13 : hp_H, h13 = hp_up h4 38 v3.toNatClampNeg r10 →
            Q (nI 1) h13))) ∧ (¬ (h4 23 v6.toNatClampNeg) = (nI 3) →
          K8 h4)) (fun h9 =>
        ∀ v14 : Int32, v14 = v3 + (-1) →
        B2 v14 h9))) v1 h
set_option maxRecDepth 100000 in
def q_X12_letterGoes (h : hp_H) (a1 a2 : Int32) (Q : hp_H → Prop) : Prop :=
  q_X12_channelAt a1 (fun r1 =>
  hp_lp1h (fun v3 h4 B2 =>
    vp_in r1 54 ∧
    ((h4 36 r1.toNatClampNeg) ≤ (v3 + (nI 1)) →
      vp_in r1 54 ∧
      vp_in (r1 + (h4 36 r1.toNatClampNeg)) 54 ∧
      ∀ h6 : hp_H, h6 = hp_up h4 36 (r1 + (h4 36 r1.toNatClampNeg)).toNatClampNeg (nI 0) →
      vp_in r1 54 ∧
      vp_in r1 54 ∧
      ∀ h7 : hp_H, h7 = hp_up h6 36 r1.toNatClampNeg ((h6 36 r1.toNatClampNeg) - (nI 1)) →
      Q h7) ∧ (¬ (h4 36 r1.toNatClampNeg) ≤ (v3 + (nI 1)) →
      vp_in ((r1 + (nI 2)) + v3) 54 ∧
      vp_in ((r1 + (nI 1)) + v3) 54 ∧
      ∀ h8 : hp_H, h8 = hp_up h4 36 ((r1 + (nI 1)) + v3).toNatClampNeg (h4 36 ((r1 + (nI 2)) + v3).toNatClampNeg) →
      ∀ v9 : Int32, v9 = v3 + (nI 1) →
      B2 v9 h8)) a2 h)
set_option maxRecDepth 100000 in
def q_X12_isDone (h : hp_H) (a1 a2 a3 : Int32) (Q : Int32 → hp_H → Prop) : Prop :=
  vp_in a3 24 ∧
  ∀ v1 : Int32, v1 = (h 18 a3.toNatClampNeg) →
  q_X12_memberAt v1 a2 (fun r2 =>
  hp_lp1h (fun v4 h5 B3 =>
    vp_in a3 24 ∧
    ((h5 22 a3.toNatClampNeg) ≤ v4 →
      vp_in a3 24 ∧
      vp_in r2 54 ∧
      ∀ h7 : hp_H, h7 = hp_up h5 36 r2.toNatClampNeg (h5 20 a3.toNatClampNeg) →
      Q (nI 1) h7) ∧ (¬ (h5 22 a3.toNatClampNeg) ≤ v4 →
      ∀ v8 : Int32, v8 = (((nI 4) * a3) + v4) →
      vp_in v8 96 ∧
      ∀ v9 : Int32, v9 = (h5 24 v8.toNatClampNeg) →
      vp_in v8 96 ∧
      hp_jn1 (fun K11 =>
        ((h5 23 v8.toNatClampNeg) = (nI 3) →
          q_X12_channelAt v9 (fun r13 =>
          vp_in v4 4 ∧
          q_X12_cell h5 a1 ((r13 + (nI 1)) + (h5 38 v4.toNatClampNeg)) (fun r14 =>
          K11 r14))) ∧ (¬ (h5 23 v8.toNatClampNeg) = (nI 3) →
          vp_in v8 96 ∧
          vp_in (h5 25 v8.toNatClampNeg) 80 ∧
          K11 (h5 37 (h5 25 v8.toNatClampNeg).toNatClampNeg))) (fun v12 =>
        vp_in v8 96 ∧
        hp_jn0h (fun K16 =>
          ((h5 23 v8.toNatClampNeg) = 0 →
            vp_in v9 6 ∧
            vp_in v9 6 ∧
            q_X12_in v12 (h5 1 v9.toNatClampNeg) (h5 2 v9.toNatClampNeg) (fun r32 =>
            (r32 = 0 →
              Q (nI 0) h5) ∧ (¬ r32 = 0 →
              vp_in v9 54 ∧
              ∀ h34 : hp_H, h34 = hp_up h5 36 v9.toNatClampNeg v12 →
              K16 h34))) ∧ (¬ (h5 23 v8.toNatClampNeg) = 0 →
            vp_in v8 96 ∧
            ((h5 23 v8.toNatClampNeg) = (nI 2) →
              q_X12_in v12 (nI 0) (nI 9) (fun r27 =>
              (r27 = 0 →
                Q (nI 0) h5) ∧ (¬ r27 = 0 →
                q_X12_channelAt v9 (fun r29 =>
                vp_in r29 54 ∧
                vp_in r29 54 ∧
                ∀ h30 : hp_H, h30 = hp_up h5 36 r29.toNatClampNeg ((h5 36 r29.toNatClampNeg) + (nI 1)) →
                vp_in r29 54 ∧
                vp_in (r29 + (h30 36 r29.toNatClampNeg)) 54 ∧
                ∀ h31 : hp_H, h31 = hp_up h30 36 (r29 + (h30 36 r29.toNatClampNeg)).toNatClampNeg v12 →
                K16 h31)))) ∧ (¬ (h5 23 v8.toNatClampNeg) = (nI 2) →
              vp_in v8 96 ∧
              hp_jn1 (fun K20 =>
                ((h5 23 v8.toNatClampNeg) = (nI 1) →
                  K20 v9) ∧ (¬ (h5 23 v8.toNatClampNeg) = (nI 1) →
                  vp_in v8 96 ∧
                  K20 (h5 25 v8.toNatClampNeg))) (fun v21 =>
                vp_in (((nI 3) * v1) + v21) 9 ∧
                vp_in (((nI 3) * v1) + v21) 9 ∧
                q_X12_in v12 (h5 6 (((nI 3) * v1) + v21).toNatClampNeg) (h5 7 (((nI 3) * v1) + v21).toNatClampNeg) (fun r22 =>
                (r22 = 0 →
                  Q (nI 0) h5) ∧ (¬ r22 = 0 →
                  vp_in ((r2 + (nI 1)) + v21) 54 ∧
                  ∀ h24 : hp_H, h24 = hp_up h5 36 ((r2 + (nI 1)) + v21).toNatClampNeg v12 →
                  vp_in v8 96 ∧
                  ((h24 23 v8.toNatClampNeg) = (nI 3) →
                    vp_in v4 4 ∧
                    q_X12_letterGoes h24 v9 (h24 38 v4.toNatClampNeg) (fun h26 =>
                    K16 h26)) ∧ (¬ (h24 23 v8.toNatClampNeg) = (nI 3) →
                    K16 h24))))))) (fun h17 =>
          ∀ v35 : Int32, v35 = v4 + (nI 1) →
          B3 v35 h17)))) (nI 0) h)
set_option maxRecDepth 100000 in
def q_X12_fault (h : hp_H) (a1 a2 a3 a4 : Int32) (Q : hp_H → Prop) : Prop :=
  ((h 0 46) = 0 →
    ∀ h2 : hp_H, h2 = hp_up h 0 46 (nI 1) →
    ∀ h3 : hp_H, h3 = hp_up h2 0 47 a1 →
    ∀ h4 : hp_H, h4 = hp_up h3 0 48 a2 →
    ∀ h5 : hp_H, h5 = hp_up h4 0 49 a3 →
    ∀ h6 : hp_H, h6 = hp_up h5 0 50 a4 →
    Q h6) ∧ (¬ (h 0 46) = 0 →
    Q h)
set_option maxRecDepth 100000 in
def q_X12_goWays (h : hp_H) (a1 a2 a3 : Int32) (Q : Int32 → hp_H → Prop) : Prop :=
  hp_lp1h (fun v2 h3 B1 =>
    ((nI 4) ≤ v2 →
      hp_lp1h (fun v6 h7 B5 =>
        (v6 = 0 →
          Q (nI 1) h7) ∧ (¬ v6 = 0 →
          q_X12_take h7 a1 (fun h9 =>
          q_X12_isDone h9 a1 a2 a3 (fun r10 h11 =>
          hp_jn0h (fun K13 =>
            (r10 = 0 →
              vp_in a3 24 ∧
              q_X12_fault h11 a1 (h11 18 a3.toNatClampNeg) a2 a3 (fun h15 =>
              K13 h15)) ∧ (¬ r10 = 0 →
              vp_in a3 24 ∧
              q_X12_comes h11 a1 (h11 18 a3.toNatClampNeg) a2 a3 (fun r16 h17 =>
              (r16 = 0 →
                Q (nI 0) h17) ∧ (¬ r16 = 0 →
                K13 h17)))) (fun h14 =>
            q_X12_hasNextWay h14 a1 a3 (fun r19 h20 =>
            B5 r19 h20)))))) (nI 1) h3) ∧ (¬ (nI 4) ≤ v2 →
      vp_in v2 4 ∧
      ∀ h21 : hp_H, h21 = hp_up h3 38 v2.toNatClampNeg (nI 0) →
      ∀ v22 : Int32, v22 = v2 + (nI 1) →
      B1 v22 h21)) (nI 0) h
set_option maxRecDepth 100000 in
def q_X12_goThrough (h : hp_H) (a1 : Int32) (Q : Int32 → hp_H → Prop) : Prop :=
  vp_in a1 401 ∧
  ∀ h1 : hp_H, h1 = hp_up h 31 a1.toNatClampNeg (h 0 40) →
  hp_lp1h (fun v3 h4 B2 =>
    ((h4 0 4) ≤ v3 →
      hp_lp1h (fun v7 h8 B6 =>
        ((h8 0 11) ≤ v7 →
          Q (nI 1) h8) ∧ (¬ (h8 0 11) ≤ v7 →
          hp_lp1h (fun v11 h12 B10 =>
            q_X12_channelAt v7 (fun r13 =>
            q_X12_cell h12 a1 r13 (fun r14 =>
            hp_jn0 (fun K16 =>
              (r14 ≤ v11 →
                K16) ∧ (¬ r14 ≤ v11 →
                vp_in v7 3 ∧
                ((h12 12 v7.toNatClampNeg) = 0 →
                  K16) ∧ (¬ (h12 12 v7.toNatClampNeg) = 0 →
                  q_X12_isFirst h12 a1 v7 v11 (fun r18 =>
                  hp_jn0h (fun K20 =>
                    (r18 = 0 →
                      K20 h12) ∧ (¬ r18 = 0 →
                      q_X12_take h12 a1 (fun h22 =>
                      q_X12_letterGoes h22 v7 v11 (fun h23 =>
                      q_X12_comes h23 a1 (-1) (-1) (-1) (fun r24 h25 =>
                      (r24 = 0 →
                        Q (nI 0) h25) ∧ (¬ r24 = 0 →
                        K20 h25)))))) (fun h21 =>
                    ∀ v27 : Int32, v27 = v11 + (nI 1) →
                    B10 v27 h21))))) (
              ∀ v28 : Int32, v28 = v7 + (nI 1) →
              B6 v28 h12)))) (nI 0) h8)) (nI 0) h4) ∧ (¬ (h4 0 4) ≤ v3 →
      hp_lp1h (fun v30 h31 B29 =>
        vp_in v3 3 ∧
        ((h31 4 v3.toNatClampNeg) ≤ v30 →
          ∀ v33 : Int32, v33 = v3 + (nI 1) →
          B2 v33 h31) ∧ (¬ (h31 4 v3.toNatClampNeg) ≤ v30 →
          q_X12_reckon h31 a1 v3 v30 (fun h34 =>
          hp_lp1h (fun v36 h37 B35 =>
            ((h37 0 21) ≤ v36 →
              ∀ v39 : Int32, v39 = v30 + (nI 1) →
              B29 v39 h37) ∧ (¬ (h37 0 21) ≤ v36 →
              vp_in v36 24 ∧
              hp_jn0h (fun K41 =>
                ((h37 18 v36.toNatClampNeg) = v3 →
                  q_X12_can h37 a1 v30 v36 (fun r43 =>
                  (r43 = 0 →
                    K41 h37) ∧ (¬ r43 = 0 →
                    q_X12_goWays h37 a1 v30 v36 (fun r45 h46 =>
                    (r45 = 0 →
                      Q (nI 0) h46) ∧ (¬ r45 = 0 →
                      K41 h46))))) ∧ (¬ (h37 18 v36.toNatClampNeg) = v3 →
                  K41 h37)) (fun h42 =>
                ∀ v48 : Int32, v48 = v36 + (nI 1) →
                B35 v48 h42))) (nI 0) h34))) (nI 0) h4)) (nI 0) h1
set_option maxRecDepth 100000 in
def q_X12_use (h : hp_H) (a1 : Int32) (Q : hp_H → Prop) : Prop :=
  (a1 = (-1) →
    Q h) ∧ (¬ a1 = (-1) →
    vp_in a1 80 ∧
    ∀ h2 : hp_H, h2 = hp_up h 39 a1.toNatClampNeg (nI 1) →
    Q h2)
set_option maxRecDepth 100000 in
def q_X12_isFit (h : hp_H) (a1 : Int32) (Q : Int32 → hp_H → Prop) : Prop :=
  hp_lp1h (fun v2 h3 B1 =>
    ((h3 0 15) ≤ v2 →
      vp_in a1 24 ∧
      q_X12_use h3 (h3 21 a1.toNatClampNeg) (fun h5 =>
      hp_lp1h (fun v7 h8 B6 =>
        vp_in a1 24 ∧
        ((h8 22 a1.toNatClampNeg) ≤ v7 →
          ∀ v10 : Int32, v10 = ((h8 0 15) - (nI 1)) →
          hp_lp1h (fun v12 h13 B11 =>
            (v12 < 0 →
              Q (nI 1) h13) ∧ (¬ v12 < 0 →
              vp_in v12 80 ∧
              hp_jn0h (fun K16 =>
                ((h13 39 v12.toNatClampNeg) = 0 →
                  K16 h13) ∧ (¬ (h13 39 v12.toNatClampNeg) = 0 →
                  vp_in v12 80 ∧
                  ((h13 13 v12.toNatClampNeg) ≤ (nI 6) →
                    K16 h13) ∧ (¬ (h13 13 v12.toNatClampNeg) ≤ (nI 6) →
                    vp_in v12 80 ∧
                    q_X12_use h13 (h13 14 v12.toNatClampNeg) (fun h19 =>
                    vp_in v12 80 ∧
                    hp_jn1 (fun K21 =>
                      ((nI 14) ≤ (h19 13 v12.toNatClampNeg) →
                        K21 (-1)) ∧ (¬ (nI 14) ≤ (h19 13 v12.toNatClampNeg) →
                        vp_in v12 80 ∧
                        K21 (h19 15 v12.toNatClampNeg))) (fun v22 =>
                      q_X12_use h19 v22 (fun h23 =>
                      K16 h23)))))) (fun h17 =>
                vp_in v12 80 ∧
                hp_jn0 (fun K25 =>
                  ((h17 39 v12.toNatClampNeg) = 0 →
                    K25) ∧ (¬ (h17 39 v12.toNatClampNeg) = 0 →
                    vp_in v12 80 ∧
                    ((h17 13 v12.toNatClampNeg) = (nI 2) →
                      vp_in v12 80 ∧
                      vp_in a1 24 ∧
                      vp_in (h17 18 a1.toNatClampNeg) 3 ∧
                      ((h17 14 v12.toNatClampNeg) < (h17 5 (h17 18 a1.toNatClampNeg).toNatClampNeg) →
                        K25) ∧ (¬ (h17 14 v12.toNatClampNeg) < (h17 5 (h17 18 a1.toNatClampNeg).toNatClampNeg) →
                        Q (nI 0) h17)) ∧ (¬ (h17 13 v12.toNatClampNeg) = (nI 2) →
                      K25))) (
                  ∀ v28 : Int32, v28 = v12 + (-1) →
                  B11 v28 h17)))) v10 h8) ∧ (¬ (h8 22 a1.toNatClampNeg) ≤ v7 →
          vp_in (((nI 4) * a1) + v7) 96 ∧
          hp_jn1 (fun K30 =>
            ((nI 3) ≤ (h8 23 (((nI 4) * a1) + v7).toNatClampNeg) →
              K30 (-1)) ∧ (¬ (nI 3) ≤ (h8 23 (((nI 4) * a1) + v7).toNatClampNeg) →
              vp_in (((nI 4) * a1) + v7) 96 ∧
              K30 (h8 25 (((nI 4) * a1) + v7).toNatClampNeg))) (fun v31 =>
            q_X12_use h8 v31 (fun h32 =>
            ∀ v33 : Int32, v33 = v7 + (nI 1) →
            B6 v33 h32)))) (nI 0) h5)) ∧ (¬ (h3 0 15) ≤ v2 →
      vp_in v2 80 ∧
      ∀ h34 : hp_H, h34 = hp_up h3 39 v2.toNatClampNeg (nI 0) →
      ∀ v35 : Int32, v35 = v2 + (nI 1) →
      B1 v35 h34)) (nI 0) h
set_option maxRecDepth 100000 in
def q_X12_maySearch (h : hp_H) (Q : Int32 → hp_H → Prop) : Prop :=
  hp_lp1 (fun v2 B1 =>
    hp_jn0 (fun K4 =>
      ((h 0 15) ≤ v2 →
        K4) ∧ (¬ (h 0 15) ≤ v2 →
        ((h 0 30) = 0 →
          K4) ∧ (¬ (h 0 30) = 0 →
          vp_in v2 80 ∧
          ((h 13 v2.toNatClampNeg) = (nI 3) →
            Q (nI 0) h) ∧ (¬ (h 13 v2.toNatClampNeg) = (nI 3) →
            vp_in v2 80 ∧
            ((h 13 v2.toNatClampNeg) = (nI 6) →
              Q (nI 0) h) ∧ (¬ (h 13 v2.toNatClampNeg) = (nI 6) →
              ∀ v8 : Int32, v8 = v2 + (nI 1) →
              B1 v8))))) (
      hp_lp1h (fun v10 h11 B9 =>
        ((h11 0 21) ≤ v10 →
          Q (nI 1) h11) ∧ (¬ (h11 0 21) ≤ v10 →
          q_X12_isFit h11 v10 (fun r13 h14 =>
          (r13 = 0 →
            Q (nI 0) h14) ∧ (¬ r13 = 0 →
            ∀ v16 : Int32, v16 = v10 + (nI 1) →
            B9 v16 h14)))) (nI 0) h)) (nI 0)
set_option maxRecDepth 100000 in
def q_X12_search (h : hp_H) (Q : Int32 → hp_H → Prop) : Prop :=
  q_X12_maySearch h (fun r1 h2 =>
  (r1 = 0 →
    Q (-5) h2) ∧ (¬ r1 = 0 →
    hp_lp1h (fun v5 h6 B4 =>
      ((nI 54) ≤ v5 →
        hp_lp1h (fun v9 h10 B8 =>
          ((h10 0 0) ≤ v9 →
            hp_lp1h (fun v13 h14 B12 =>
              ((h14 0 4) ≤ v13 →
                ∀ h16 : hp_H, h16 = hp_up h14 0 33 (nI 1) →
                ∀ h17 : hp_H, h17 = hp_up h16 0 34 (nI 0) →
                ∀ h18 : hp_H, h18 = hp_up h17 0 46 (nI 0) →
                ∀ h19 : hp_H, h19 = hp_up h18 0 35 (nI 1) →
                ∀ h20 : hp_H, h20 = hp_up h19 0 40 (nI 0) →
                vp_in (nI 0) 400 ∧
                ∀ h21 : hp_H, h21 = hp_up h20 28 (nI 0).toNatClampNeg (-1) →
                vp_in (nI 0) 400 ∧
                ∀ h22 : hp_H, h22 = hp_up h21 29 (nI 0).toNatClampNeg (-1) →
                vp_in (nI 0) 400 ∧
                ∀ h23 : hp_H, h23 = hp_up h22 30 (nI 0).toNatClampNeg (nI 0) →
                hp_lp1h (fun v25 h26 B24 =>
                  ((h26 0 35) ≤ v25 →
                    Q (h26 0 35) h26) ∧ (¬ (h26 0 35) ≤ v25 →
                    q_X12_goThrough h26 v25 (fun r28 h29 =>
                    (r28 = 0 →
                      ∀ h33 : hp_H, h33 = hp_up h29 0 34 (nI 1) →
                      Q (-7) h33) ∧ (¬ r28 = 0 →
                      vp_in (v25 + (nI 1)) 401 ∧
                      ∀ h31 : hp_H, h31 = hp_up h29 31 (v25 + (nI 1)).toNatClampNeg (h29 0 40) →
                      ∀ v32 : Int32, v32 = v25 + (nI 1) →
                      B24 v32 h31)))) (nI 0) h23) ∧ (¬ (h14 0 4) ≤ v13 →
                hp_lp1h (fun v35 h36 B34 =>
                  vp_in v13 3 ∧
                  ((h36 4 v13.toNatClampNeg) ≤ v35 →
                    ∀ v38 : Int32, v38 = v13 + (nI 1) →
                    B12 v38 h36) ∧ (¬ (h36 4 v13.toNatClampNeg) ≤ v35 →
                    hp_lp1h (fun v40 h41 B39 =>
                      vp_in v13 3 ∧
                      ((h41 5 v13.toNatClampNeg) ≤ v40 →
                        ∀ v43 : Int32, v43 = v35 + (nI 1) →
                        B34 v43 h41) ∧ (¬ (h41 5 v13.toNatClampNeg) ≤ v40 →
                        q_X12_memberAt v13 v35 (fun r44 =>
                        vp_in (((nI 3) * v13) + v40) 9 ∧
                        vp_in ((r44 + (nI 1)) + v40) 21600 ∧
                        ∀ h45 : hp_H, h45 = hp_up h41 27 ((r44 + (nI 1)) + v40).toNatClampNeg (h41 8 (((nI 3) * v13) + v40).toNatClampNeg) →
                        ∀ v46 : Int32, v46 = v40 + (nI 1) →
                        B39 v46 h45))) (nI 0) h36)) (nI 0) h14)) (nI 0) h10) ∧ (¬ (h10 0 0) ≤ v9 →
            vp_in v9 6 ∧
            vp_in v9 21600 ∧
            ∀ h47 : hp_H, h47 = hp_up h10 27 v9.toNatClampNeg (h10 3 v9.toNatClampNeg) →
            ∀ v48 : Int32, v48 = v9 + (nI 1) →
            B8 v48 h47)) (nI 0) h6) ∧ (¬ (nI 54) ≤ v5 →
        vp_in v5 21600 ∧
        ∀ h49 : hp_H, h49 = hp_up h6 27 v5.toNatClampNeg (nI 0) →
        ∀ v50 : Int32, v50 = v5 + (nI 1) →
        B4 v50 h49)) (nI 0) h2))
set_option maxRecDepth 100000 in
def q_X12_hasStates (h : hp_H) (Q : Int32 → Prop) : Prop :=
  ((h 0 33) = 0 →
    Q (nI 0)) ∧ (¬ (h 0 33) = 0 →
    ((h 0 34) = 0 →
      Q (nI 1)) ∧ (¬ (h 0 34) = 0 →
      Q (nI 0)))
set_option maxRecDepth 100000 in
def q_X12_isState (h : hp_H) (a1 : Int32) (Q : Int32 → Prop) : Prop :=
  q_X12_in a1 (nI 0) ((h 0 35) - (nI 1)) (fun r1 =>
  hp_bz r1 ∧
  Q r1)
set_option maxRecDepth 100000 in
def q_X12_tells (h : hp_H) (a1 a2 : Int32) (Q : Int32 → hp_H → Prop) : Prop :=
  q_X12_hasStates h (fun r1 =>
  (r1 = 0 →
    Q (-2147483648) h) ∧ (¬ r1 = 0 →
    q_X12_isState h a1 (fun r3 =>
    (r3 = 0 →
      Q (-2147483648) h) ∧ (¬ r3 = 0 →
      q_X12_isExpr h a2 (fun r5 =>
      (r5 = 0 →
        Q (-2147483648) h) ∧ (¬ r5 = 0 →
        vp_in a2 80 ∧
        ((h 17 a2.toNatClampNeg) = 0 →
          q_X12_reckon h a1 (-1) (-1) (fun h8 =>
          vp_in a2 80 ∧
          Q (h8 37 a2.toNatClampNeg) h8)) ∧ (¬ (h 17 a2.toNatClampNeg) = 0 →
          Q (-2147483648) h)))))))
set_option maxRecDepth 100000 in
def q_X12_isMember (h : hp_H) (a1 a2 : Int32) (Q : Int32 → Prop) : Prop :=
  q_X12_isRole h a1 (fun r1 =>
  (r1 = 0 →
    Q (nI 0)) ∧ (¬ r1 = 0 →
    vp_in a1 3 ∧
    q_X12_in a2 (nI 0) ((h 4 a1.toNatClampNeg) - (nI 1)) (fun r3 =>
    (r3 = 0 →
      Q (nI 0)) ∧ (¬ r3 = 0 →
      Q (nI 1)))))
set_option maxRecDepth 100000 in
def q_X12_place (h : hp_H) (a1 a2 a3 : Int32) (Q : Int32 → Prop) : Prop :=
  q_X12_hasStates h (fun r1 =>
  (r1 = 0 →
    Q (-5)) ∧ (¬ r1 = 0 →
    q_X12_isState h a1 (fun r3 =>
    (r3 = 0 →
      Q (-2)) ∧ (¬ r3 = 0 →
      q_X12_isMember h a2 a3 (fun r5 =>
      (r5 = 0 →
        Q (-2)) ∧ (¬ r5 = 0 →
        q_X12_memberAt a2 a3 (fun r7 =>
        q_X12_cell h a1 r7 (fun r8 =>
        Q r8))))))))
set_option maxRecDepth 100000 in
def q_X12_owned (h : hp_H) (a1 a2 a3 a4 : Int32) (Q : Int32 → Prop) : Prop :=
  q_X12_hasStates h (fun r1 =>
  (r1 = 0 →
    Q (-5)) ∧ (¬ r1 = 0 →
    q_X12_isState h a1 (fun r3 =>
    (r3 = 0 →
      Q (-2)) ∧ (¬ r3 = 0 →
      q_X12_isMember h a2 a3 (fun r5 =>
      (r5 = 0 →
        Q (-2)) ∧ (¬ r5 = 0 →
        vp_in a2 3 ∧
        q_X12_in a4 (nI 0) ((h 5 a2.toNatClampNeg) - (nI 1)) (fun r7 =>
        (r7 = 0 →
          Q (-2)) ∧ (¬ r7 = 0 →
          q_X12_memberAt a2 a3 (fun r9 =>
          q_X12_cell h a1 ((r9 + (nI 1)) + a4) (fun r10 =>
          Q r10))))))))))
set_option maxRecDepth 100000 in
def q_X12_letter (h : hp_H) (a1 a2 a3 : Int32) (Q : Int32 → Prop) : Prop :=
  q_X12_hasStates h (fun r1 =>
  (r1 = 0 →
    Q (-5)) ∧ (¬ r1 = 0 →
    q_X12_isState h a1 (fun r3 =>
    (r3 = 0 →
      Q (-2)) ∧ (¬ r3 = 0 →
      q_X12_isChannel h a2 (fun r5 =>
      (r5 = 0 →
        Q (-2)) ∧ (¬ r5 = 0 →
        q_X12_channelAt a2 (fun r7 =>
        q_X12_cell h a1 r7 (fun r8 =>
        q_X12_in a3 (nI 0) (r8 - (nI 1)) (fun r9 =>
        (r9 = 0 →
          Q (-1)) ∧ (¬ r9 = 0 →
          q_X12_channelAt a2 (fun r11 =>
          q_X12_cell h a1 ((r11 + (nI 1)) + a3) (fun r12 =>
          Q r12))))))))))))
set_option maxRecDepth 100000 in
def q_X12_movesOf (h : hp_H) (a1 : Int32) (Q : Int32 → Prop) : Prop :=
  vp_in (a1 + (nI 1)) 401 ∧
  vp_in a1 401 ∧
  Q ((h 31 (a1 + (nI 1)).toNatClampNeg) - (h 31 a1.toNatClampNeg))
set_option maxRecDepth 100000 in
def q_X12_moves (h : hp_H) (a1 : Int32) (Q : Int32 → Prop) : Prop :=
  q_X12_hasStates h (fun r1 =>
  (r1 = 0 →
    Q (-5)) ∧ (¬ r1 = 0 →
    q_X12_isState h a1 (fun r3 =>
    (r3 = 0 →
      Q (-2)) ∧ (¬ r3 = 0 →
      q_X12_movesOf h a1 (fun r5 =>
      Q r5)))))
set_option maxRecDepth 100000 in
def q_X12_move (h : hp_H) (a1 a2 a3 : Int32) (Q : Int32 → Prop) : Prop :=
  q_X12_hasStates h (fun r1 =>
  (r1 = 0 →
    Q (-5)) ∧ (¬ r1 = 0 →
    q_X12_isState h a1 (fun r3 =>
    (r3 = 0 →
      Q (-2)) ∧ (¬ r3 = 0 →
      q_X12_movesOf h a1 (fun r5 =>
      q_X12_in a2 (nI 0) (r5 - (nI 1)) (fun r6 =>
      (r6 = 0 →
        Q (-2)) ∧ (¬ r6 = 0 →
        vp_in a1 401 ∧
        ∀ v8 : Int32, v8 = ((h 31 a1.toNatClampNeg) + a2) →
        ((a3 = (nI 0)) →
          vp_in v8 6000 ∧
          Q (h 32 v8.toNatClampNeg))
        ∧ ((a3 = (nI 1)) →
          vp_in v8 6000 ∧
          Q (h 33 v8.toNatClampNeg))
        ∧ ((a3 = (nI 2)) →
          vp_in v8 6000 ∧
          Q (h 34 v8.toNatClampNeg))
        ∧ ((a3 = (nI 3)) →
          vp_in v8 6000 ∧
          Q (h 35 v8.toNatClampNeg))
        ∧ ((¬ a3 = (nI 0) ∧ ¬ a3 = (nI 1) ∧ ¬ a3 = (nI 2) ∧ ¬ a3 = (nI 3)) →
          Q (-3)))))))))
set_option maxRecDepth 100000 in
def q_X12_depth (h : hp_H) (a1 : Int32) (Q : Int32 → Prop) : Prop :=
  q_X12_hasStates h (fun r1 =>
  (r1 = 0 →
    Q (-5)) ∧ (¬ r1 = 0 →
    q_X12_isState h a1 (fun r3 =>
    (r3 = 0 →
      Q (-2)) ∧ (¬ r3 = 0 →
      vp_in a1 400 ∧
      Q (h 30 a1.toNatClampNeg)))))
set_option maxRecDepth 100000 in
def q_X12_came (h : hp_H) (a1 a2 : Int32) (Q : Int32 → Prop) : Prop :=
  q_X12_hasStates h (fun r1 =>
  (r1 = 0 →
    Q (-5)) ∧ (¬ r1 = 0 →
    q_X12_isState h a1 (fun r3 =>
    (r3 = 0 →
      Q (-2)) ∧ (¬ r3 = 0 →
      q_X12_in a2 (nI 0) (nI 1) (fun r5 =>
      (r5 = 0 →
        Q (-3)) ∧ (¬ r5 = 0 →
        (a2 = 0 →
          vp_in a1 400 ∧
          Q (h 28 a1.toNatClampNeg)) ∧ (¬ a2 = 0 →
          vp_in a1 400 ∧
          Q (h 29 a1.toNatClampNeg))))))))
set_option maxRecDepth 100000 in
def q_X12_isStuck (h : hp_H) (a1 : Int32) (Q : Int32 → Prop) : Prop :=
  vp_in a1 401 ∧
  ∀ v1 : Int32, v1 = (h 31 a1.toNatClampNeg) →
  hp_lp1 (fun v3 B2 =>
    vp_in (a1 + (nI 1)) 401 ∧
    ((h 31 (a1 + (nI 1)).toNatClampNeg) ≤ v3 →
      hp_lp1 (fun v6 B5 =>
        ((h 0 4) ≤ v6 →
          Q (nI 0)) ∧ (¬ (h 0 4) ≤ v6 →
          hp_lp1 (fun v9 B8 =>
            vp_in v6 3 ∧
            ((h 4 v6.toNatClampNeg) ≤ v9 →
              ∀ v11 : Int32, v11 = v6 + (nI 1) →
              B5 v11) ∧ (¬ (h 4 v6.toNatClampNeg) ≤ v9 →
              q_X12_memberAt v6 v9 (fun r12 =>
              q_X12_cell h a1 r12 (fun r13 =>
              vp_in (((nI 10) * v6) + r13) 30 ∧
              ((h 9 (((nI 10) * v6) + r13).toNatClampNeg) = 0 →
                Q (nI 1)) ∧ (¬ (h 9 (((nI 10) * v6) + r13).toNatClampNeg) = 0 →
                ∀ v15 : Int32, v15 = v9 + (nI 1) →
                B8 v15))))) (nI 0))) (nI 0)) ∧ (¬ (h 31 (a1 + (nI 1)).toNatClampNeg) ≤ v3 →
      vp_in v3 6000 ∧
      ((h 33 v3.toNatClampNeg) = (-1) →
        ∀ v17 : Int32, v17 = v3 + (nI 1) →
        B2 v17) ∧ (¬ (h 33 v3.toNatClampNeg) = (-1) →
        Q (nI 0)))) v1
set_option maxRecDepth 100000 in
def q_X12_stuck (h : hp_H) (Q : Int32 → Prop) : Prop :=
  q_X12_hasStates h (fun r1 =>
  (r1 = 0 →
    Q (-5)) ∧ (¬ r1 = 0 →
    hp_lp1 (fun v4 B3 =>
      ((h 0 35) ≤ v4 →
        Q (-1)) ∧ (¬ (h 0 35) ≤ v4 →
        q_X12_isStuck h v4 (fun r6 =>
        (r6 = 0 →
          ∀ v8 : Int32, v8 = v4 + (nI 1) →
          B3 v8) ∧ (¬ r6 = 0 →
          Q v4)))) (nI 0)))
set_option maxRecDepth 100000 in
def q_X12_fault_ (h : hp_H) (a1 : Int32) (Q : Int32 → Prop) : Prop :=
  q_X12_in a1 (nI 0) (nI 3) (fun r1 =>
  (r1 = 0 →
    Q (-3)) ∧ (¬ r1 = 0 →
    q_X12_hasStates h (fun r3 =>
    (r3 = 0 →
      Q (-5)) ∧ (¬ r3 = 0 →
      ((h 0 46) = 0 →
        Q (-1)) ∧ (¬ (h 0 46) = 0 →
        (a1 = 0 →
          Q (h 0 47)) ∧ (¬ a1 = 0 →
          (a1 = (nI 1) →
            Q (h 0 48)) ∧ (¬ a1 = (nI 1) →
            (a1 = (nI 2) →
              Q (h 0 49)) ∧ (¬ a1 = (nI 2) →
              Q (h 0 50)))))))))
set_option maxRecDepth 100000 in
def q_X12_always (h : hp_H) (a1 : Int32) (Q : Int32 → hp_H → Prop) : Prop :=
  q_X12_isExpr h a1 (fun r1 =>
  (r1 = 0 →
    Q (-2) h) ∧ (¬ r1 = 0 →
    vp_in a1 80 ∧
    ((h 17 a1.toNatClampNeg) = 0 →
      q_X12_hasStates h (fun r4 =>
      (r4 = 0 →
        Q (-5) h) ∧ (¬ r4 = 0 →
        hp_lp1h (fun v7 h8 B6 =>
          ((h8 0 35) ≤ v7 →
            Q (-1) h8) ∧ (¬ (h8 0 35) ≤ v7 →
            q_X12_reckon h8 v7 (-1) (-1) (fun h10 =>
            vp_in a1 80 ∧
            ((h10 37 a1.toNatClampNeg) = 0 →
              Q v7 h10) ∧ (¬ (h10 37 a1.toNatClampNeg) = 0 →
              ∀ v12 : Int32, v12 = v7 + (nI 1) →
              B6 v12 h10)))) (nI 0) h))) ∧ (¬ (h 17 a1.toNatClampNeg) = 0 →
      Q (-4) h)))
set_option maxRecDepth 100000 in
def q_X12_goAhead (h : hp_H) (a1 : Int32) (Q : hp_H → Prop) : Prop :=
  hp_lp1h (fun v2 h3 B1 =>
    ((h3 0 35) ≤ v2 →
      hp_lp1h (fun v6 h7 B5 =>
        (v6 = 0 →
          Q h7) ∧ (¬ v6 = 0 →
          hp_lp2h (fun v10 v11 h12 B9 =>
            ((h12 0 35) ≤ v11 →
              B5 v10 h12) ∧ (¬ (h12 0 35) ≤ v11 →
              vp_in v11 401 ∧
              ∀ v14 : Int32, v14 = (h12 31 v11.toNatClampNeg) →
              hp_lp2h (fun v16 v17 h18 B15 =>
                vp_in (v11 + (nI 1)) 401 ∧
                hp_jn0 (fun K20 =>
                  ((h18 31 (v11 + (nI 1)).toNatClampNeg) ≤ v17 →
                    K20) ∧ (¬ (h18 31 (v11 + (nI 1)).toNatClampNeg) ≤ v17 →
                    vp_in v11 400 ∧
                    ((h18 41 v11.toNatClampNeg) = 0 →
                      K20) ∧ (¬ (h18 41 v11.toNatClampNeg) = 0 →
                      vp_in v17 6000 ∧
                      vp_in (h18 32 v17.toNatClampNeg) 400 ∧
                      hp_jn1h (fun K23 =>
                        ((h18 40 (h18 32 v17.toNatClampNeg).toNatClampNeg) = 0 →
                          K23 v16 h18) ∧ (¬ (h18 40 (h18 32 v17.toNatClampNeg).toNatClampNeg) = 0 →
                          vp_in v17 6000 ∧
                          vp_in (h18 32 v17.toNatClampNeg) 400 ∧
                          ((h18 41 (h18 32 v17.toNatClampNeg).toNatClampNeg) = 0 →
                            vp_in v17 6000 ∧
                            vp_in (h18 32 v17.toNatClampNeg) 400 ∧
                            ∀ h27 : hp_H, h27 = hp_up h18 41 (h18 32 v17.toNatClampNeg).toNatClampNeg (nI 1) →
                            K23 (nI 1) h27) ∧ (¬ (h18 41 (h18 32 v17.toNatClampNeg).toNatClampNeg) = 0 →
                            K23 v16 h18))) (fun v24 h25 =>
                        ∀ v28 : Int32, v28 = v17 + (nI 1) →
                        B15 v24 v28 h25)))) (
                  ∀ v29 : Int32, v29 = v11 + (nI 1) →
                  B9 v16 v29 h18)) v10 v14 h12)) (nI 0) (nI 0) h7)) (nI 1) h3) ∧ (¬ (h3 0 35) ≤ v2 →
      hp_jn1 (fun K31 =>
        (v2 = a1 →
          K31 (nI 1)) ∧ (¬ v2 = a1 →
          K31 (nI 0))) (fun v32 =>
        vp_in v2 400 ∧
        hp_bz v32 ∧
        ∀ h33 : hp_H, h33 = hp_up h3 41 v2.toNatClampNeg v32 →
        ∀ v34 : Int32, v34 = v2 + (nI 1) →
        B1 v34 h33))) (nI 0) h
set_option maxRecDepth 100000 in
def q_X12_goBack (h : hp_H) (a1 : Int32) (Q : hp_H → Prop) : Prop :=
  hp_lp1h (fun v2 h3 B1 =>
    ((h3 0 35) ≤ v2 →
      hp_lp1h (fun v6 h7 B5 =>
        (v6 = 0 →
          Q h7) ∧ (¬ v6 = 0 →
          ∀ v9 : Int32, v9 = ((h7 0 35) - (nI 1)) →
          hp_lp2h (fun v11 v12 h13 B10 =>
            (v12 < 0 →
              B5 v11 h13) ∧ (¬ v12 < 0 →
              vp_in v12 401 ∧
              ∀ v15 : Int32, v15 = (h13 31 v12.toNatClampNeg) →
              hp_lp2h (fun v17 v18 h19 B16 =>
                vp_in (v12 + (nI 1)) 401 ∧
                hp_jn0 (fun K21 =>
                  ((h19 31 (v12 + (nI 1)).toNatClampNeg) ≤ v18 →
                    K21) ∧ (¬ (h19 31 (v12 + (nI 1)).toNatClampNeg) ≤ v18 →
                    vp_in v12 400 ∧
                    ((h19 40 v12.toNatClampNeg) = 0 →
                      K21) ∧ (¬ (h19 40 v12.toNatClampNeg) = 0 →
                      vp_in v12 400 ∧
                      ((h19 42 v12.toNatClampNeg) = 0 →
                        vp_in v18 6000 ∧
                        vp_in (h19 32 v18.toNatClampNeg) 400 ∧
                        hp_jn1h (fun K25 =>
                          ((h19 42 (h19 32 v18.toNatClampNeg).toNatClampNeg) = 0 →
                            K25 v17 h19) ∧ (¬ (h19 42 (h19 32 v18.toNatClampNeg).toNatClampNeg) = 0 →
                            vp_in v12 400 ∧
                            ∀ h28 : hp_H, h28 = hp_up h19 42 v12.toNatClampNeg (nI 1) →
                            K25 (nI 1) h28)) (fun v26 h27 =>
                          ∀ v29 : Int32, v29 = v18 + (nI 1) →
                          B16 v26 v29 h27)) ∧ (¬ (h19 42 v12.toNatClampNeg) = 0 →
                        K21)))) (
                  ∀ v30 : Int32, v30 = v12 + (-1) →
                  B10 v17 v30 h19)) v11 v15 h13)) (nI 0) v9 h7)) (nI 1) h3) ∧ (¬ (h3 0 35) ≤ v2 →
      hp_jn1 (fun K32 =>
        (v2 = a1 →
          K32 (nI 1)) ∧ (¬ v2 = a1 →
          K32 (nI 0))) (fun v33 =>
        vp_in v2 400 ∧
        hp_bz v33 ∧
        ∀ h34 : hp_H, h34 = hp_up h3 42 v2.toNatClampNeg v33 →
        ∀ v35 : Int32, v35 = v2 + (nI 1) →
        B1 v35 h34))) (nI 0) h
set_option maxRecDepth 100000 in
def q_X12_hasTurn (h : hp_H) (a1 a2 : Int32) (Q : Int32 → Prop) : Prop :=
  hp_lp1 (fun v2 B1 =>
    ((h 0 35) ≤ v2 →
      Q (nI 0)) ∧ (¬ (h 0 35) ≤ v2 →
      vp_in v2 401 ∧
      ∀ v4 : Int32, v4 = (h 31 v2.toNatClampNeg) →
      hp_lp2 (fun v6 v7 B5 =>
        vp_in (v2 + (nI 1)) 401 ∧
        hp_jn0 (fun K9 =>
          ((h 31 (v2 + (nI 1)).toNatClampNeg) ≤ v7 →
            K9) ∧ (¬ (h 31 (v2 + (nI 1)).toNatClampNeg) ≤ v7 →
            vp_in v2 400 ∧
            ((h 41 v2.toNatClampNeg) = 0 →
              K9) ∧ (¬ (h 41 v2.toNatClampNeg) = 0 →
              vp_in v7 6000 ∧
              hp_jn1 (fun K12 =>
                hp_jn0 (fun K14 =>
                  ((h 33 v7.toNatClampNeg) = a1 →
                    vp_in v7 6000 ∧
                    ((h 34 v7.toNatClampNeg) = a2 →
                      K12 (nI 1)) ∧ (¬ (h 34 v7.toNatClampNeg) = a2 →
                      K14)) ∧ (¬ (h 33 v7.toNatClampNeg) = a1 →
                    K14)) (
                  K12 (nI 0))) (fun v13 =>
                hp_jn1 (fun K17 =>
                  hp_jn0 (fun K19 =>
                    (v6 = 0 →
                      (v13 = 0 →
                        K17 (nI 0)) ∧ (¬ v13 = 0 →
                        K19)) ∧ (¬ v6 = 0 →
                      K19)) (
                    K17 (nI 1))) (fun v18 =>
                  hp_jn0 (fun K22 =>
                    (v13 = 0 →
                      K22) ∧ (¬ v13 = 0 →
                      vp_in v7 6000 ∧
                      vp_in (h 32 v7.toNatClampNeg) 400 ∧
                      ((h 41 (h 32 v7.toNatClampNeg).toNatClampNeg) = 0 →
                        K22) ∧ (¬ (h 41 (h 32 v7.toNatClampNeg).toNatClampNeg) = 0 →
                        Q (nI 1)))) (
                    ∀ v24 : Int32, v24 = v7 + (nI 1) →
                    B5 v18 v24)))))) (
          vp_in v2 400 ∧
          hp_jn0 (fun K26 =>
            ((h 41 v2.toNatClampNeg) = 0 →
              K26) ∧ (¬ (h 41 v2.toNatClampNeg) = 0 →
              (v6 = 0 →
                Q (nI 1)) ∧ (¬ v6 = 0 →
                K26))) (
            ∀ v28 : Int32, v28 = v2 + (nI 1) →
            B1 v28))) (nI 0) v4)) (nI 0)
set_option maxRecDepth 100000 in
def q_X12_isFair (h : hp_H) (Q : Int32 → Prop) : Prop :=
  hp_lp1 (fun v2 B1 =>
    ((h 0 4) ≤ v2 →
      Q (nI 1)) ∧ (¬ (h 0 4) ≤ v2 →
      hp_lp1 (fun v5 B4 =>
        vp_in v2 3 ∧
        ((h 4 v2.toNatClampNeg) ≤ v5 →
          ∀ v7 : Int32, v7 = v2 + (nI 1) →
          B1 v7) ∧ (¬ (h 4 v2.toNatClampNeg) ≤ v5 →
          q_X12_hasTurn h v2 v5 (fun r8 =>
          (r8 = 0 →
            Q (nI 0)) ∧ (¬ r8 = 0 →
            ∀ v10 : Int32, v10 = v5 + (nI 1) →
            B4 v10)))) (nI 0))) (nI 0)
set_option maxRecDepth 100000 in
def q_X12_hasMove (h : hp_H) (Q : Int32 → Prop) : Prop :=
  hp_lp1 (fun v2 B1 =>
    ((h 0 35) ≤ v2 →
      Q (nI 0)) ∧ (¬ (h 0 35) ≤ v2 →
      vp_in v2 401 ∧
      ∀ v4 : Int32, v4 = (h 31 v2.toNatClampNeg) →
      hp_lp1 (fun v6 B5 =>
        vp_in (v2 + (nI 1)) 401 ∧
        hp_jn0 (fun K8 =>
          ((h 31 (v2 + (nI 1)).toNatClampNeg) ≤ v6 →
            K8) ∧ (¬ (h 31 (v2 + (nI 1)).toNatClampNeg) ≤ v6 →
            vp_in v2 400 ∧
            ((h 41 v2.toNatClampNeg) = 0 →
              K8) ∧ (¬ (h 41 v2.toNatClampNeg) = 0 →
              vp_in v6 6000 ∧
              hp_jn0 (fun K11 =>
                ((h 33 v6.toNatClampNeg) = (-1) →
                  K11) ∧ (¬ (h 33 v6.toNatClampNeg) = (-1) →
                  vp_in v6 6000 ∧
                  vp_in (h 32 v6.toNatClampNeg) 400 ∧
                  ((h 41 (h 32 v6.toNatClampNeg).toNatClampNeg) = 0 →
                    K11) ∧ (¬ (h 41 (h 32 v6.toNatClampNeg).toNatClampNeg) = 0 →
                    Q (nI 1)))) (
                ∀ v13 : Int32, v13 = v6 + (nI 1) →
                B5 v13)))) (
          ∀ v14 : Int32, v14 = v2 + (nI 1) →
          B1 v14)) v4)) (nI 0)
set_option maxRecDepth 100000 in
def q_X12_findKnots (h : hp_H) (a1 : Int32) (Q : hp_H → Prop) : Prop :=
  hp_lp1h (fun v2 h3 B1 =>
    ((h3 0 35) ≤ v2 →
      hp_lp1h (fun v6 h7 B5 =>
        ((h7 0 35) ≤ v6 →
          Q h7) ∧ (¬ (h7 0 35) ≤ v6 →
          vp_in v6 400 ∧
          hp_jn0h (fun K10 =>
            ((h7 40 v6.toNatClampNeg) = 0 →
              K10 h7) ∧ (¬ (h7 40 v6.toNatClampNeg) = 0 →
              vp_in v6 400 ∧
              ((h7 44 v6.toNatClampNeg) = 0 →
                q_X12_goAhead h7 v6 (fun h13 =>
                q_X12_goBack h13 v6 (fun h14 =>
                hp_lp1h (fun v16 h17 B15 =>
                  ((h17 0 35) ≤ v16 →
                    q_X12_hasMove h17 (fun r19 =>
                    hp_jn1 (fun K21 =>
                      hp_jn0 (fun K23 =>
                        (r19 = 0 →
                          K23) ∧ (¬ r19 = 0 →
                          hp_jn0 (fun K25 =>
                            (a1 = 0 →
                              K25) ∧ (¬ a1 = 0 →
                              q_X12_isFair h17 (fun r26 =>
                              (r26 = 0 →
                                K23) ∧ (¬ r26 = 0 →
                                K25)))) (
                            K21 (nI 1)))) (
                        K21 (nI 0))) (fun v22 =>
                      hp_lp1h (fun v29 h30 B28 =>
                        ((h30 0 35) ≤ v29 →
                          K10 h30) ∧ (¬ (h30 0 35) ≤ v29 →
                          vp_in v29 400 ∧
                          hp_jn1 (fun K33 =>
                            hp_jn0 (fun K35 =>
                              ((h30 43 v29.toNatClampNeg) = 0 →
                                vp_in v29 400 ∧
                                hp_jn0 (fun K37 =>
                                  ((h30 41 v29.toNatClampNeg) = 0 →
                                    K37) ∧ (¬ (h30 41 v29.toNatClampNeg) = 0 →
                                    (v22 = 0 →
                                      K37) ∧ (¬ v22 = 0 →
                                      K35))) (
                                  K33 (nI 0))) ∧ (¬ (h30 43 v29.toNatClampNeg) = 0 →
                                K35)) (
                              K33 (nI 1))) (fun v34 =>
                            vp_in v29 400 ∧
                            hp_bz v34 ∧
                            ∀ h39 : hp_H, h39 = hp_up h30 43 v29.toNatClampNeg v34 →
                            ∀ v40 : Int32, v40 = v29 + (nI 1) →
                            B28 v40 h39))) (nI 0) h17))) ∧ (¬ (h17 0 35) ≤ v16 →
                    vp_in v16 400 ∧
                    hp_jn1 (fun K42 =>
                      hp_jn0 (fun K44 =>
                        ((h17 41 v16.toNatClampNeg) = 0 →
                          K44) ∧ (¬ (h17 41 v16.toNatClampNeg) = 0 →
                          vp_in v16 400 ∧
                          ((h17 42 v16.toNatClampNeg) = 0 →
                            K44) ∧ (¬ (h17 42 v16.toNatClampNeg) = 0 →
                            K42 (nI 1)))) (
                        K42 (nI 0))) (fun v43 =>
                      vp_in v16 400 ∧
                      hp_bz v43 ∧
                      ∀ h46 : hp_H, h46 = hp_up h17 41 v16.toNatClampNeg v43 →
                      vp_in v16 400 ∧
                      hp_jn1 (fun K48 =>
                        hp_jn0 (fun K50 =>
                          ((h46 44 v16.toNatClampNeg) = 0 →
                            vp_in v16 400 ∧
                            ((h46 41 v16.toNatClampNeg) = 0 →
                              K48 (nI 0)) ∧ (¬ (h46 41 v16.toNatClampNeg) = 0 →
                              K50)) ∧ (¬ (h46 44 v16.toNatClampNeg) = 0 →
                            K50)) (
                          K48 (nI 1))) (fun v49 =>
                        vp_in v16 400 ∧
                        hp_bz v49 ∧
                        ∀ h52 : hp_H, h52 = hp_up h46 44 v16.toNatClampNeg v49 →
                        ∀ v53 : Int32, v53 = v16 + (nI 1) →
                        B15 v53 h52)))) (nI 0) h14))) ∧ (¬ (h7 44 v6.toNatClampNeg) = 0 →
                K10 h7))) (fun h11 =>
            ∀ v54 : Int32, v54 = v6 + (nI 1) →
            B5 v54 h11))) (nI 0) h3) ∧ (¬ (h3 0 35) ≤ v2 →
      vp_in v2 400 ∧
      ∀ h55 : hp_H, h55 = hp_up h3 43 v2.toNatClampNeg (nI 0) →
      vp_in v2 400 ∧
      ∀ h56 : hp_H, h56 = hp_up h55 44 v2.toNatClampNeg (nI 0) →
      ∀ v57 : Int32, v57 = v2 + (nI 1) →
      B1 v57 h56)) (nI 0) h
set_option maxRecDepth 100000 in
def q_X12_takeWhereNot (h : hp_H) (a1 : Int32) (Q : hp_H → Prop) : Prop :=
  hp_lp1h (fun v2 h3 B1 =>
    ((h3 0 35) ≤ v2 →
      Q h3) ∧ (¬ (h3 0 35) ≤ v2 →
      q_X12_reckon h3 v2 (-1) (-1) (fun h5 =>
      vp_in a1 80 ∧
      hp_jn1 (fun K7 =>
        ((h5 37 a1.toNatClampNeg) = 0 →
          K7 (nI 1)) ∧ (¬ (h5 37 a1.toNatClampNeg) = 0 →
          K7 (nI 0))) (fun v8 =>
        vp_in v2 400 ∧
        hp_bz v8 ∧
        ∀ h9 : hp_H, h9 = hp_up h5 40 v2.toNatClampNeg v8 →
        ∀ v10 : Int32, v10 = v2 + (nI 1) →
        B1 v10 h9)))) (nI 0) h
set_option maxRecDepth 100000 in
def q_X12_again (h : hp_H) (a1 a2 : Int32) (Q : Int32 → hp_H → Prop) : Prop :=
  q_X12_isExpr h a1 (fun r1 =>
  (r1 = 0 →
    Q (-2) h) ∧ (¬ r1 = 0 →
    vp_in a1 80 ∧
    ((h 17 a1.toNatClampNeg) = 0 →
      q_X12_hasStates h (fun r4 =>
      (r4 = 0 →
        Q (-5) h) ∧ (¬ r4 = 0 →
        hp_jn0 (fun K7 =>
          (a2 = 0 →
            K7) ∧ (¬ a2 = 0 →
            ((h 0 30) = 0 →
              K7) ∧ (¬ (h 0 30) = 0 →
              Q (-5) h))) (
          q_X12_takeWhereNot h a1 (fun h9 =>
          q_X12_findKnots h9 a2 (fun h10 =>
          hp_lp1 (fun v12 B11 =>
            ((h10 0 35) ≤ v12 →
              Q (-1) h10) ∧ (¬ (h10 0 35) ≤ v12 →
              vp_in v12 400 ∧
              ((h10 43 v12.toNatClampNeg) = 0 →
                ∀ v15 : Int32, v15 = v12 + (nI 1) →
                B11 v15) ∧ (¬ (h10 43 v12.toNatClampNeg) = 0 →
                Q v12 h10))) (nI 0))))))) ∧ (¬ (h 17 a1.toNatClampNeg) = 0 →
      Q (-4) h)))
set_option maxRecDepth 100000 in
def q_X12_fromTo (h : hp_H) (a1 a2 a3 : Int32) (Q : Int32 → hp_H → Prop) : Prop :=
  q_X12_isExpr h a1 (fun r1 =>
  (r1 = 0 →
    Q (-2) h) ∧ (¬ r1 = 0 →
    q_X12_isExpr h a2 (fun r3 =>
    (r3 = 0 →
      Q (-2) h) ∧ (¬ r3 = 0 →
      vp_in a1 80 ∧
      ((h 17 a1.toNatClampNeg) = 0 →
        vp_in a2 80 ∧
        ((h 17 a2.toNatClampNeg) = 0 →
          q_X12_hasStates h (fun r7 =>
          (r7 = 0 →
            Q (-5) h) ∧ (¬ r7 = 0 →
            hp_jn0 (fun K10 =>
              (a3 = 0 →
                K10) ∧ (¬ a3 = 0 →
                ((h 0 30) = 0 →
                  K10) ∧ (¬ (h 0 30) = 0 →
                  Q (-5) h))) (
              q_X12_takeWhereNot h a2 (fun h12 =>
              q_X12_findKnots h12 a3 (fun h13 =>
              hp_lp1h (fun v15 h16 B14 =>
                ((h16 0 35) ≤ v15 →
                  Q (-1) h16) ∧ (¬ (h16 0 35) ≤ v15 →
                  q_X12_reckon h16 v15 (-1) (-1) (fun h18 =>
                  vp_in v15 400 ∧
                  hp_jn0h (fun K20 =>
                    ((h18 40 v15.toNatClampNeg) = 0 →
                      K20 h18) ∧ (¬ (h18 40 v15.toNatClampNeg) = 0 →
                      vp_in a1 80 ∧
                      ((h18 37 a1.toNatClampNeg) = 0 →
                        K20 h18) ∧ (¬ (h18 37 a1.toNatClampNeg) = 0 →
                        q_X12_goAhead h18 v15 (fun h23 =>
                        hp_lp1 (fun v25 B24 =>
                          ((h23 0 35) ≤ v25 →
                            K20 h23) ∧ (¬ (h23 0 35) ≤ v25 →
                            vp_in v25 400 ∧
                            hp_jn0 (fun K28 =>
                              ((h23 41 v25.toNatClampNeg) = 0 →
                                K28) ∧ (¬ (h23 41 v25.toNatClampNeg) = 0 →
                                vp_in v25 400 ∧
                                ((h23 43 v25.toNatClampNeg) = 0 →
                                  K28) ∧ (¬ (h23 43 v25.toNatClampNeg) = 0 →
                                  Q v15 h23))) (
                              ∀ v30 : Int32, v30 = v25 + (nI 1) →
                              B24 v30))) (nI 0))))) (fun h21 =>
                    ∀ v31 : Int32, v31 = v15 + (nI 1) →
                    B14 v31 h21)))) (nI 0) h13)))))) ∧ (¬ (h 17 a2.toNatClampNeg) = 0 →
          Q (-4) h)) ∧ (¬ (h 17 a1.toNatClampNeg) = 0 →
        Q (-4) h)))))
set_option maxRecDepth 100000 in
def q_X12_observe (h : hp_H) (a1 : Int32) (Q : Int32 → hp_H → Prop) : Prop :=
  q_X12_isExpr h a1 (fun r1 =>
  (r1 = 0 →
    Q (-2) h) ∧ (¬ r1 = 0 →
    vp_in a1 80 ∧
    ((h 17 a1.toNatClampNeg) = 0 →
      hp_lp1 (fun v5 B4 =>
        ((h 0 31) ≤ v5 →
          ((h 0 31) = (nI 8) →
            Q (-6) h) ∧ (¬ (h 0 31) = (nI 8) →
            vp_in (h 0 31) 8 ∧
            ∀ h8 : hp_H, h8 = hp_up h 26 (h 0 31).toNatClampNeg a1 →
            ∀ h9 : hp_H, h9 = hp_up h8 0 31 ((h8 0 31) + (nI 1)) →
            Q (h9 0 31) h9)) ∧ (¬ (h 0 31) ≤ v5 →
          vp_in v5 8 ∧
          ((h 26 v5.toNatClampNeg) = a1 →
            Q (-3) h) ∧ (¬ (h 26 v5.toNatClampNeg) = a1 →
            ∀ v11 : Int32, v11 = v5 + (nI 1) →
            B4 v11))) (nI 0)) ∧ (¬ (h 17 a1.toNatClampNeg) = 0 →
      Q (-4) h)))
set_option maxRecDepth 100000 in
def q_X12_isSeenAlike (h : hp_H) (a1 a2 : Int32) (Q : Int32 → Prop) : Prop :=
  hp_lp2 (fun v2 v3 B1 =>
    ((h 0 31) ≤ v3 →
      hp_bz v2 ∧
      Q v2) ∧ (¬ (h 0 31) ≤ v3 →
      (v2 = 0 →
        hp_bz v2 ∧
        Q v2) ∧ (¬ v2 = 0 →
        vp_in (((nI 8) * a1) + v3) 3200 ∧
        vp_in (((nI 8) * a2) + v3) 3200 ∧
        hp_jn1 (fun K7 =>
          ((h 48 (((nI 8) * a1) + v3).toNatClampNeg) = (h 48 (((nI 8) * a2) + v3).toNatClampNeg) →
            K7 (nI 1)) ∧ (¬ (h 48 (((nI 8) * a1) + v3).toNatClampNeg) = (h 48 (((nI 8) * a2) + v3).toNatClampNeg) →
            K7 (nI 0))) (fun v8 =>
          ∀ v9 : Int32, v9 = v3 + (nI 1) →
          B1 v8 v9)))) (nI 1) (nI 0)
set_option maxRecDepth 100000 in
def q_X12_findSigns (h : hp_H) (Q : hp_H → Prop) : Prop :=
  hp_lp1h (fun v2 h3 B1 =>
    (((nI 7) * (h3 0 35)) ≤ v2 →
      hp_lp1h (fun v6 h7 B5 =>
        ((h7 0 35) ≤ v6 →
          Q h7) ∧ (¬ (h7 0 35) ≤ v6 →
          vp_in v6 401 ∧
          ∀ v9 : Int32, v9 = (h7 31 v6.toNatClampNeg) →
          hp_lp1h (fun v11 h12 B10 =>
            vp_in (v6 + (nI 1)) 401 ∧
            ((h12 31 (v6 + (nI 1)).toNatClampNeg) ≤ v11 →
              ∀ v14 : Int32, v14 = v6 + (nI 1) →
              B5 v14 h12) ∧ (¬ (h12 31 (v6 + (nI 1)).toNatClampNeg) ≤ v11 →
              vp_in v11 6000 ∧
              vp_in (h12 32 v11.toNatClampNeg) 400 ∧
              ∀ v15 : Int32, v15 = (h12 45 (h12 32 v11.toNatClampNeg).toNatClampNeg) →
              vp_in (((nI 7) * v6) + (v15 / (nI 64))) 2800 ∧
              vp_in (((nI 7) * v6) + (v15 / (nI 64))) 2800 ∧
              ∀ h16 : hp_H, h16 = hp_upL h12 47 (((nI 7) * v6) + (v15 / (nI 64))).toNatClampNeg ((hp_ldL h12 47 (((nI 7) * v6) + (v15 / (nI 64))).toNatClampNeg) ||| (hp_shlL 1 (hp_rem v15 (nI 64)))) →
              ∀ v17 : Int32, v17 = v11 + (nI 1) →
              B10 v17 h16)) v9 h7)) (nI 0) h3) ∧ (¬ ((nI 7) * (h3 0 35)) ≤ v2 →
      vp_in v2 2800 ∧
      ∀ h18 : hp_H, h18 = hp_upL h3 47 v2.toNatClampNeg 0 →
      ∀ v19 : Int32, v19 = v2 + (nI 1) →
      B1 v19 h18)) (nI 0) h
set_option maxRecDepth 100000 in
def q_X12_hasSameSigns (h : hp_H) (a1 a2 : Int32) (Q : Int32 → Prop) : Prop :=
  vp_in a1 400 ∧
  vp_in a2 400 ∧
  hp_jn1 (fun K2 =>
    ((h 45 a1.toNatClampNeg) = (h 45 a2.toNatClampNeg) →
      K2 (nI 1)) ∧ (¬ (h 45 a1.toNatClampNeg) = (h 45 a2.toNatClampNeg) →
      K2 (nI 0))) (fun v3 =>
    hp_lp2 (fun v5 v6 B4 =>
      ((nI 7) ≤ v6 →
        hp_bz v5 ∧
        Q v5) ∧ (¬ (nI 7) ≤ v6 →
        (v5 = 0 →
          hp_bz v5 ∧
          Q v5) ∧ (¬ v5 = 0 →
          vp_in (((nI 7) * a1) + v6) 2800 ∧
          vp_in (((nI 7) * a2) + v6) 2800 ∧
          hp_jn1 (fun K10 =>
            ((lg_cmp (hp_ldL h 47 (((nI 7) * a1) + v6).toNatClampNeg) (hp_ldL h 47 (((nI 7) * a2) + v6).toNatClampNeg)) = 0 →
              K10 (nI 1)) ∧ (¬ (lg_cmp (hp_ldL h 47 (((nI 7) * a1) + v6).toNatClampNeg) (hp_ldL h 47 (((nI 7) * a2) + v6).toNatClampNeg)) = 0 →
              K10 (nI 0))) (fun v11 =>
            ∀ v12 : Int32, v12 = v6 + (nI 1) →
            B4 v11 v12)))) v3 (nI 0))
set_option maxRecDepth 100000 in
def q_X12_divide (h : hp_H) (Q : Int32 → hp_H → Prop) : Prop :=
  hp_lp1h (fun v2 h3 B1 =>
    ((h3 0 35) ≤ v2 →
      hp_lp2h (fun v6 v7 h8 B5 =>
        ((h8 0 35) ≤ v7 →
          hp_lp2h (fun v11 v12 h13 B10 =>
            (v11 ≤ v12 →
              Q v11 h13) ∧ (¬ v11 ≤ v12 →
              q_X12_findSigns h13 (fun h15 =>
              hp_lp2h (fun v17 v18 h19 B16 =>
                ((h19 0 35) ≤ v18 →
                  hp_lp1h (fun v22 h23 B21 =>
                    ((h23 0 35) ≤ v22 →
                      B10 v17 v11 h23) ∧ (¬ (h23 0 35) ≤ v22 →
                      vp_in v22 400 ∧
                      vp_in v22 400 ∧
                      ∀ h25 : hp_H, h25 = hp_up h23 45 v22.toNatClampNeg (h23 46 v22.toNatClampNeg) →
                      ∀ v26 : Int32, v26 = v22 + (nI 1) →
                      B21 v26 h25)) (nI 0) h19) ∧ (¬ (h19 0 35) ≤ v18 →
                  hp_lp1 (fun v28 B27 =>
                    hp_jn0 (fun K30 =>
                      (v18 ≤ v28 →
                        K30) ∧ (¬ v18 ≤ v28 →
                        q_X12_hasSameSigns h19 v28 v18 (fun r31 =>
                        (r31 = 0 →
                          ∀ v33 : Int32, v33 = v28 + (nI 1) →
                          B27 v33) ∧ (¬ r31 = 0 →
                          K30)))) (
                      hp_jn1 (fun K35 =>
                        (v18 ≤ v28 →
                          K35 v17) ∧ (¬ v18 ≤ v28 →
                          vp_in v28 400 ∧
                          K35 (h19 46 v28.toNatClampNeg))) (fun v36 =>
                        vp_in v18 400 ∧
                        ∀ h37 : hp_H, h37 = hp_up h19 46 v18.toNatClampNeg v36 →
                        hp_jn1 (fun K39 =>
                          (v18 ≤ v28 →
                            K39 (nI 1)) ∧ (¬ v18 ≤ v28 →
                            K39 (nI 0))) (fun v40 =>
                          ∀ v41 : Int32, v41 = (v17 + v40) →
                          ∀ v42 : Int32, v42 = v18 + (nI 1) →
                          B16 v41 v42 h37)))) (nI 0))) (nI 0) (nI 0) h15))) v6 (nI 0) h8) ∧ (¬ (h8 0 35) ≤ v7 →
          hp_lp1 (fun v44 B43 =>
            hp_jn0 (fun K46 =>
              (v7 ≤ v44 →
                K46) ∧ (¬ v7 ≤ v44 →
                q_X12_isSeenAlike h8 v44 v7 (fun r47 =>
                (r47 = 0 →
                  ∀ v49 : Int32, v49 = v44 + (nI 1) →
                  B43 v49) ∧ (¬ r47 = 0 →
                  K46)))) (
              hp_jn1 (fun K51 =>
                (v7 ≤ v44 →
                  K51 v6) ∧ (¬ v7 ≤ v44 →
                  vp_in v44 400 ∧
                  K51 (h8 45 v44.toNatClampNeg))) (fun v52 =>
                vp_in v7 400 ∧
                ∀ h53 : hp_H, h53 = hp_up h8 45 v7.toNatClampNeg v52 →
                hp_jn1 (fun K55 =>
                  (v7 ≤ v44 →
                    K55 (nI 1)) ∧ (¬ v7 ≤ v44 →
                    K55 (nI 0))) (fun v56 =>
                  ∀ v57 : Int32, v57 = (v6 + v56) →
                  ∀ v58 : Int32, v58 = v7 + (nI 1) →
                  B5 v57 v58 h53)))) (nI 0))) (nI 0) (nI 0) h3) ∧ (¬ (h3 0 35) ≤ v2 →
      q_X12_reckon h3 v2 (-1) (-1) (fun h59 =>
      hp_lp1h (fun v61 h62 B60 =>
        ((h62 0 31) ≤ v61 →
          ∀ v64 : Int32, v64 = v2 + (nI 1) →
          B1 v64 h62) ∧ (¬ (h62 0 31) ≤ v61 →
          vp_in v61 8 ∧
          vp_in (h62 26 v61.toNatClampNeg) 80 ∧
          vp_in (((nI 8) * v2) + v61) 3200 ∧
          ∀ h65 : hp_H, h65 = hp_up h62 48 (((nI 8) * v2) + v61).toNatClampNeg (h62 37 (h62 26 v61.toNatClampNeg).toNatClampNeg) →
          ∀ v66 : Int32, v66 = v61 + (nI 1) →
          B60 v66 h65)) (nI 0) h59))) (nI 0) h
set_option maxRecDepth 100000 in
def q_X12_classes (h : hp_H) (Q : Int32 → hp_H → Prop) : Prop :=
  q_X12_hasStates h (fun r1 =>
  (r1 = 0 →
    Q (-5) h) ∧ (¬ r1 = 0 →
    q_X12_divide h (fun r3 h4 =>
    Q r3 h4)))
set_option maxRecDepth 100000 in
def q_X12_classOf (h : hp_H) (a1 : Int32) (Q : Int32 → hp_H → Prop) : Prop :=
  q_X12_hasStates h (fun r1 =>
  (r1 = 0 →
    Q (-5) h) ∧ (¬ r1 = 0 →
    q_X12_isState h a1 (fun r3 =>
    (r3 = 0 →
      Q (-2) h) ∧ (¬ r3 = 0 →
      q_X12_divide h (fun r5 h6 =>
      (r5 ≤ 0 →
        Q (-2) h6) ∧ (¬ r5 ≤ 0 →
        vp_in a1 400 ∧
        Q (h6 45 a1.toNatClampNeg) h6))))))
set_option maxRecDepth 100000 in
def q_X12_count (h : hp_H) (a1 : Int32) (Q : Int32 → Prop) : Prop :=
  ((a1 = (nI 0)) →
    Q (h 0 0))
  ∧ ((a1 = (nI 1)) →
    Q (h 0 4))
  ∧ ((a1 = (nI 2)) →
    Q (h 0 11))
  ∧ ((a1 = (nI 3)) →
    Q (h 0 15))
  ∧ ((a1 = (nI 4)) →
    Q (h 0 21))
  ∧ ((a1 = (nI 5)) →
    Q (h 0 31))
  ∧ ((a1 = (nI 6)) →
    Q (h 0 35))
  ∧ ((a1 = (nI 7)) →
    ((h 0 34) = 0 →
      Q (nI 0)) ∧ (¬ (h 0 34) = 0 →
      Q (nI 1)))
  ∧ ((¬ a1 = (nI 0) ∧ ¬ a1 = (nI 1) ∧ ¬ a1 = (nI 2) ∧ ¬ a1 = (nI 3) ∧ ¬ a1 = (nI 4) ∧ ¬ a1 = (nI 5) ∧ ¬ a1 = (nI 6) ∧ ¬ a1 = (nI 7)) →
    Q (-3))
