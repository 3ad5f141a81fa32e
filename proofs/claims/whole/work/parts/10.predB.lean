set_option maxRecDepth 100000 in
def q_X0_observes (h : hp_H) (a1 : Int32) (Q : Int32 → Prop) : Prop :=
  hp_lp1 (fun v2 B1 =>
    ((h 64 0) ≤ v2 →
      Q (nI 0)) ∧ (¬ (h 64 0) ≤ v2 →
      vp_in v2 8 ∧
      ((h 66 v2.toNatClampNeg) = a1 →
        Q (nI 1)) ∧ (¬ (h 66 v2.toNatClampNeg) = a1 →
        ∀ v5 : Int32, v5 = v2 + (nI 1) →
        B1 v5))) (nI 0)
set_option maxRecDepth 100000 in
def q_X0_addObserved (h : hp_H) (a1 : Int32) (Q : Int32 → hp_H → Prop) : Prop :=
  ∀ v1 : Int32, v1 = (h 64 0) →
  ∀ h2 : hp_H, h2 = hp_up h 64 0 (v1 + (nI 1)) →
  vp_in v1 8 ∧
  ∀ h3 : hp_H, h3 = hp_up h2 66 v1.toNatClampNeg a1 →
  ∀ h4 : hp_H, h4 = hp_up h3 64 11 (nI 0) →
  Q (h4 64 0) h4
set_option maxRecDepth 100000 in
def q_X0_forget (h : hp_H) (Q : hp_H → Prop) : Prop :=
  ∀ h1 : hp_H, h1 = hp_up h 64 11 (nI 0) →
  Q h1
set_option maxRecDepth 100000 in
def q_J7_fill_53178 (x0 nx0 : Nat) (h : hp_H) (a1 : Int32) (Q : hp_H → Prop) : Prop :=
  ∀ v1 : Int32, v1 = (nI nx0) →
  hp_lp1h (fun v3 h4 B2 =>
    (v1 ≤ v3 →
      Q h4) ∧ (¬ v1 ≤ v3 →
      vp_in v3 nx0 ∧
      ∀ h6 : hp_H, h6 = hp_up h4 x0 v3.toNatClampNeg a1 →
      ∀ v7 : Int32, v7 = v3 + (nI 1) →
      B2 v7 h6)) (nI 0) h
set_option maxRecDepth 100000 in
def q_X1_dropUse (h : hp_H) (a1 : Int32) (Q : hp_H → Prop) : Prop :=
  hp_lp1h (fun v2 h3 B1 =>
    ((h3 15 1) ≤ v2 →
      Q h3) ∧ (¬ (h3 15 1) ≤ v2 →
      vp_in v2 80 ∧
      vp_in v2 80 ∧
      ∀ h5 : hp_H, h5 = hp_up h3 21 v2.toNatClampNeg ((h3 21 v2.toNatClampNeg) &&& (a1 ^^^ (-1))) →
      ∀ v6 : Int32, v6 = v2 + (nI 1) →
      B1 v6 h5)) (nI 0) h
set_option maxRecDepth 100000 in
def q_X5_askNothing (h : hp_H) (Q : hp_H → Prop) : Prop :=
  q_X1_dropUse h (nI 8) (fun h1 =>
  Q h1)
set_option maxRecDepth 100000 in
def q_X1_addUse (h : hp_H) (a1 a2 : Int32) (Q : hp_H → Prop) : Prop :=
  vp_in a1 80 ∧
  vp_in a1 80 ∧
  ∀ h1 : hp_H, h1 = hp_up h 21 a1.toNatClampNeg ((h 21 a1.toNatClampNeg) ||| a2) →
  Q h1
set_option maxRecDepth 100000 in
def q_X1_isMade (a0 : Int32) (Q : Int32 → Prop) : Prop :=
  (a0 < (nI 7) →
    Q (nI 0)) ∧ (¬ a0 < (nI 7) →
    Q (nI 1))
set_option maxRecDepth 100000 in
def q_X1_isMadeOfTwo (a0 : Int32) (Q : Int32 → Prop) : Prop :=
  (a0 < (nI 7) →
    Q (nI 0)) ∧ (¬ a0 < (nI 7) →
    ((nI 14) ≤ a0 →
      Q (nI 0)) ∧ (¬ (nI 14) ≤ a0 →
      Q (nI 1)))
set_option maxRecDepth 100000 in
def q_X1_spreadUses (h : hp_H) (Q : hp_H → Prop) : Prop :=
  ∀ v1 : Int32, v1 = ((h 15 1) - (nI 1)) →
  hp_lp1h (fun v3 h4 B2 =>
    (v3 < 0 →
      Q h4) ∧ (¬ v3 < 0 →
      vp_in v3 80 ∧
      q_X1_isMade (h4 17 v3.toNatClampNeg) (fun r6 =>
      hp_jn0h (fun K8 =>
        (r6 = 0 →
          K8 h4) ∧ (¬ r6 = 0 →
          vp_in v3 80 ∧
          vp_in (h4 18 v3.toNatClampNeg) 80 ∧
          vp_in v3 80 ∧
          vp_in (h4 18 v3.toNatClampNeg) 80 ∧
          ∀ h10 : hp_H, h10 = hp_up h4 21 (h4 18 v3.toNatClampNeg).toNatClampNeg ((h4 21 (h4 18 v3.toNatClampNeg).toNatClampNeg) ||| (h4 21 v3.toNatClampNeg)) →
          K8 h10)) (fun h9 =>
        vp_in v3 80 ∧
        q_X1_isMadeOfTwo (h9 17 v3.toNatClampNeg) (fun r11 =>
        hp_jn0h (fun K13 =>
          (r11 = 0 →
            K13 h9) ∧ (¬ r11 = 0 →
            vp_in v3 80 ∧
            vp_in (h9 19 v3.toNatClampNeg) 80 ∧
            vp_in v3 80 ∧
            vp_in (h9 19 v3.toNatClampNeg) 80 ∧
            ∀ h15 : hp_H, h15 = hp_up h9 21 (h9 19 v3.toNatClampNeg).toNatClampNeg ((h9 21 (h9 19 v3.toNatClampNeg).toNatClampNeg) ||| (h9 21 v3.toNatClampNeg)) →
            K13 h15)) (fun h14 =>
          ∀ v16 : Int32, v16 = v3 + (-1) →
          B2 v16 h14)))))) v1 h
set_option maxRecDepth 100000 in
def q_X5_askToo (h : hp_H) (a1 : Int32) (Q : hp_H → Prop) : Prop :=
  q_X1_addUse h a1 (nI 8) (fun h1 =>
  q_X1_spreadUses h1 (fun h2 =>
  Q h2))
set_option maxRecDepth 100000 in
def q_X2_load (w_2 : Nat) (h : hp_H) (a1 : Int32) (Q : hp_H → Prop) : Prop :=
  (¬ (a1 * (nI 13)) < 0 ∧ ¬ (nI 0) < 0 ∧ ¬ (nI 13) < 0 ∧ (a1 * (nI 13)).toNatClampNeg + (nI 13).toNatClampNeg ≤ 5200 ∧ (nI 0).toNatClampNeg + (nI 13).toNatClampNeg ≤ 13) ∧
  ∀ h1 : hp_H, h1 = hp_cp h 42 w_2 (a1 * (nI 13)).toNatClampNeg (nI 0).toNatClampNeg (nI 13).toNatClampNeg →
  Q h1
set_option maxRecDepth 100000 in
def q_X5_rowOf (h : hp_H) (a1 : Int32) (Q : hp_H → Prop) : Prop :=
  q_X2_load 52 h a1 (fun h1 =>
  Q h1)
set_option maxRecDepth 100000 in
def q_X1_ofParts (a0 a1 a2 : Int32) (Q : Int32 → Prop) : Prop :=
  ((a0 = (nI 7)) →
    Q (a1 + a2))
  ∧ ((a0 = (nI 8)) →
    Q (a1 - a2))
  ∧ ((a0 = (nI 9)) →
    Q (a1 * a2))
  ∧ ((a0 = (nI 10)) →
    (a1 = a2 →
      Q (nI 1)) ∧ (¬ a1 = a2 →
      Q (nI 0)))
  ∧ ((a0 = (nI 11)) →
    (a2 ≤ a1 →
      Q (nI 0)) ∧ (¬ a2 ≤ a1 →
      Q (nI 1)))
  ∧ ((a0 = (nI 12)) →
    (a1 = 0 →
      Q (nI 0)) ∧ (¬ a1 = 0 →
      (a2 = 0 →
        Q (nI 0)) ∧ (¬ a2 = 0 →
        Q (nI 1))))
  ∧ ((a0 = (nI 13)) →
    (a1 = 0 →
      (a2 = 0 →
        Q (nI 0)) ∧ (¬ a2 = 0 →
        Q (nI 1))) ∧ (¬ a1 = 0 →
      Q (nI 1)))
  ∧ ((¬ a0 = (nI 7) ∧ ¬ a0 = (nI 8) ∧ ¬ a0 = (nI 9) ∧ ¬ a0 = (nI 10) ∧ ¬ a0 = (nI 11) ∧ ¬ a0 = (nI 12) ∧ ¬ a0 = (nI 13)) →
    (a1 = 0 →
      Q (nI 1)) ∧ (¬ a1 = 0 →
      Q (nI 0)))
set_option maxRecDepth 100000 in
def q_X7_sharedValue (w : Nat) (h : hp_H) (a1 : Int32) (Q : Int32 → Prop) : Prop :=
  vp_in (nI 0) 13 ∧
  Q ((hp_ushr (h w (nI 0).toNatClampNeg) ((nI 4) * a1)) &&& (nI 15))
set_option maxRecDepth 100000 in
def q_X7_ownValue (w : Nat) (h : hp_H) (a1 a2 a3 : Int32) (Q : Int32 → Prop) : Prop :=
  ∀ v1 : Int32, v1 = ((nI 8) - ((nI 4) * a3)) →
  vp_in (((nI 1) + (a1 * (nI 3))) + a2) 13 ∧
  Q ((hp_ushr (h w (((nI 1) + (a1 * (nI 3))) + a2).toNatClampNeg) v1) &&& (nI 15))
set_option maxRecDepth 100000 in
def q_X7_howManyAt (w : Nat) (h : hp_H) (a1 a2 a3 : Int32) (Q : Int32 → Prop) : Prop :=
  ∀ v1 : Int32, v1 = ((nI 1) + (a1 * (nI 3))) →
  hp_lp2 (fun v3 v4 B2 =>
    ((v1 + a2) ≤ v4 →
      Q v3) ∧ (¬ (v1 + a2) ≤ v4 →
      vp_in v4 13 ∧
      hp_jn1 (fun K7 =>
        ((hp_ushr (h w v4.toNatClampNeg) (nI 12)) = a3 →
          ∀ v9 : Int32, v9 = v3 + (nI 1) →
          K7 v9) ∧ (¬ (hp_ushr (h w v4.toNatClampNeg) (nI 12)) = a3 →
          K7 v3)) (fun v8 =>
        ∀ v10 : Int32, v10 = v4 + (nI 1) →
        B2 v8 v10))) (nI 0) v1
set_option maxRecDepth 100000 in
def q_X7_held (w : Nat) (h : hp_H) (a1 : Int32) (Q : Int32 → Prop) : Prop :=
  vp_in ((nI 10) + a1) 13 ∧
  Q (hp_ushr (h w ((nI 10) + a1).toNatClampNeg) (nI 12))
set_option maxRecDepth 100000 in
def q_X1_ofRow (w_2 : Nat) (h : hp_H) (a1 a3 a4 : Int32) (Q : Int32 → Prop) : Prop :=
  vp_in a1 80 ∧
  ∀ v1 : Int32, v1 = (h 17 a1.toNatClampNeg) →
  ((v1 = (nI 0)) →
    vp_in a1 80 ∧
    Q (h 18 a1.toNatClampNeg))
  ∧ ((v1 = (nI 1)) →
    vp_in a1 80 ∧
    q_X7_sharedValue w_2 h (h 18 a1.toNatClampNeg) (fun r2 =>
    Q r2))
  ∧ ((v1 = (nI 2)) →
    vp_in a1 80 ∧
    q_X7_ownValue w_2 h a3 a4 (h 18 a1.toNatClampNeg) (fun r3 =>
    Q r3))
  ∧ ((v1 = (nI 3)) →
    Q a4)
  ∧ ((v1 = (nI 4)) →
    vp_in a1 80 ∧
    vp_in a1 80 ∧
    vp_in (h 18 a1.toNatClampNeg) 3 ∧
    vp_in a1 80 ∧
    q_X7_howManyAt w_2 h (h 18 a1.toNatClampNeg) (h 13 (h 18 a1.toNatClampNeg).toNatClampNeg) (h 19 a1.toNatClampNeg) (fun r4 =>
    Q r4))
  ∧ ((v1 = (nI 5)) →
    vp_in a1 80 ∧
    q_X7_held w_2 h (h 18 a1.toNatClampNeg) (fun r5 =>
    Q r5))
  ∧ ((¬ v1 = (nI 0) ∧ ¬ v1 = (nI 1) ∧ ¬ v1 = (nI 2) ∧ ¬ v1 = (nI 3) ∧ ¬ v1 = (nI 4) ∧ ¬ v1 = (nI 5)) →
    vp_in a1 80 ∧
    vp_in a1 80 ∧
    vp_in a1 80 ∧
    q_X7_ownValue w_2 h (h 18 a1.toNatClampNeg) (h 19 a1.toNatClampNeg) (h 20 a1.toNatClampNeg) (fun r6 =>
    Q r6))
set_option maxRecDepth 100000 in
def q_X1_reckon (w_1 : Nat) (h : hp_H) (a2 a3 a4 : Int32) (Q : hp_H → Prop) : Prop :=
  hp_lp1h (fun v2 h3 B1 =>
    ((h3 15 1) ≤ v2 →
      Q h3) ∧ (¬ (h3 15 1) ≤ v2 →
      vp_in v2 80 ∧
      hp_jn0h (fun K6 =>
        (((h3 21 v2.toNatClampNeg) &&& a4) = 0 →
          K6 h3) ∧ (¬ ((h3 21 v2.toNatClampNeg) &&& a4) = 0 →
          vp_in v2 80 ∧
          q_X1_isMade (h3 17 v2.toNatClampNeg) (fun r8 =>
          (r8 = 0 →
            q_X1_ofRow w_1 h3 v2 a2 a3 (fun r10 =>
            vp_in v2 80 ∧
            ∀ h11 : hp_H, h11 = hp_up h3 16 v2.toNatClampNeg r10 →
            K6 h11)) ∧ (¬ r8 = 0 →
            vp_in v2 80 ∧
            vp_in v2 80 ∧
            vp_in (h3 18 v2.toNatClampNeg) 80 ∧
            vp_in v2 80 ∧
            q_X1_isMadeOfTwo (h3 17 v2.toNatClampNeg) (fun r12 =>
            hp_jn1 (fun K14 =>
              (r12 = 0 →
                K14 (nI 0)) ∧ (¬ r12 = 0 →
                vp_in v2 80 ∧
                vp_in (h3 19 v2.toNatClampNeg) 80 ∧
                K14 (h3 16 (h3 19 v2.toNatClampNeg).toNatClampNeg))) (fun v15 =>
              q_X1_ofParts (h3 17 v2.toNatClampNeg) (h3 16 (h3 18 v2.toNatClampNeg).toNatClampNeg) v15 (fun r16 =>
              vp_in v2 80 ∧
              ∀ h17 : hp_H, h17 = hp_up h3 16 v2.toNatClampNeg r16 →
              K6 h17))))))) (fun h7 =>
        ∀ v18 : Int32, v18 = v2 + (nI 1) →
        B1 v18 h7))) (nI 0) h
set_option maxRecDepth 100000 in
def q_X5_lookAt (h : hp_H) (a1 : Int32) (Q : hp_H → Prop) : Prop :=
  q_X5_rowOf h a1 (fun h1 =>
  q_X1_reckon 52 h1 (nI 0) (nI 0) (nI 8) (fun h2 =>
  Q h2))
set_option maxRecDepth 100000 in
def q_X5_answer (h : hp_H) (a1 : Int32) (Q : Int32 → Prop) : Prop :=
  vp_in a1 80 ∧
  Q (h 16 a1.toNatClampNeg)
set_option maxRecDepth 100000 in
def q_X0_keyByObserved (h : hp_H) (Q : hp_H → Prop) : Prop :=
  q_X5_askNothing h (fun h1 =>
  hp_lp1h (fun v3 h4 B2 =>
    ((h4 64 0) ≤ v3 →
      hp_lp1h (fun v7 h8 B6 =>
        ((h8 35 2) ≤ v7 →
          Q h8) ∧ (¬ (h8 35 2) ≤ v7 →
          q_X5_lookAt h8 v7 (fun h10 =>
          hp_lp1h (fun v12 h13 B11 =>
            ((h13 64 0) ≤ v12 →
              ∀ v15 : Int32, v15 = v7 + (nI 1) →
              B6 v15 h13) ∧ (¬ (h13 64 0) ≤ v12 →
              vp_in v12 8 ∧
              q_X5_answer h13 (h13 66 v12.toNatClampNeg) (fun r16 =>
              vp_in ((v7 * (nI 13)) + v12) 5200 ∧
              ∀ h17 : hp_H, h17 = hp_up h13 67 ((v7 * (nI 13)) + v12).toNatClampNeg r16 →
              ∀ v18 : Int32, v18 = v12 + (nI 1) →
              B11 v18 h17))) (nI 0) h10))) (nI 0) h4) ∧ (¬ (h4 64 0) ≤ v3 →
      vp_in v3 8 ∧
      q_X5_askToo h4 (h4 66 v3.toNatClampNeg) (fun h19 =>
      ∀ v20 : Int32, v20 = v3 + (nI 1) →
      B2 v20 h19))) (nI 0) h1)
set_option maxRecDepth 100000 in
def q_X0_haveSameKeys (h : hp_H) (a1 a2 a3 : Int32) (Q : Int32 → Prop) : Prop :=
  hp_lp1 (fun v2 B1 =>
    (a3 ≤ v2 →
      Q (nI 1)) ∧ (¬ a3 ≤ v2 →
      vp_in ((a1 * (nI 13)) + v2) 5200 ∧
      vp_in ((a2 * (nI 13)) + v2) 5200 ∧
      ((h 67 ((a1 * (nI 13)) + v2).toNatClampNeg) = (h 67 ((a2 * (nI 13)) + v2).toNatClampNeg) →
        ∀ v5 : Int32, v5 = v2 + (nI 1) →
        B1 v5) ∧ (¬ (h 67 ((a1 * (nI 13)) + v2).toNatClampNeg) = (h 67 ((a2 * (nI 13)) + v2).toNatClampNeg) →
        Q (nI 0)))) (nI 0)
set_option maxRecDepth 100000 in
def q_X0_newPartLike (h : hp_H) (a1 a2 : Int32) (Q : Int32 → Prop) : Prop :=
  ∀ w1 : Nat, w1 = 65 + (h hp_V 0).toNatClampNeg → (w1 = 65 ∨ w1 = 68) ∧
  vp_in a1 400 ∧
  vp_in (h w1 a1.toNatClampNeg) 400 ∧
  ∀ v2 : Int32, v2 = (h 69 (h w1 a1.toNatClampNeg).toNatClampNeg) →
  hp_lp2 (fun v4 v5 B3 =>
    ((nI 400) ≤ v5 →
      Q (-1)) ∧ (¬ (nI 400) ≤ v5 →
      (v4 = (-1) →
        Q (-1)) ∧ (¬ v4 = (-1) →
        vp_in v4 400 ∧
        q_X0_haveSameKeys h a1 (h 71 v4.toNatClampNeg) a2 (fun r8 =>
        (r8 = 0 →
          vp_in v4 400 ∧
          ∀ v10 : Int32, v10 = (h 70 v4.toNatClampNeg) →
          ∀ v11 : Int32, v11 = v5 + (nI 1) →
          B3 v10 v11) ∧ (¬ r8 = 0 →
          Q v4))))) v2 (nI 0)
set_option maxRecDepth 100000 in
def q_X0_openPart (h : hp_H) (a1 : Int32) (Q : Int32 → hp_H → Prop) : Prop :=
  ∀ v1 : Int32, v1 = (h 64 1) →
  ∀ h2 : hp_H, h2 = hp_up h 64 1 (v1 + (nI 1)) →
  vp_in v1 400 ∧
  ∀ h3 : hp_H, h3 = hp_up h2 71 v1.toNatClampNeg a1 →
  ∀ w4 : Nat, w4 = 65 + (h3 hp_V 0).toNatClampNeg → (w4 = 65 ∨ w4 = 68) ∧
  vp_in a1 400 ∧
  vp_in (h3 w4 a1.toNatClampNeg) 400 ∧
  vp_in v1 400 ∧
  ∀ h5 : hp_H, h5 = hp_up h3 70 v1.toNatClampNeg (h3 69 (h3 w4 a1.toNatClampNeg).toNatClampNeg) →
  ∀ w6 : Nat, w6 = 65 + (h5 hp_V 0).toNatClampNeg → (w6 = 65 ∨ w6 = 68) ∧
  vp_in a1 400 ∧
  vp_in (h5 w6 a1.toNatClampNeg) 400 ∧
  ∀ h7 : hp_H, h7 = hp_up h5 69 (h5 w6 a1.toNatClampNeg).toNatClampNeg v1 →
  Q v1 h7
set_option maxRecDepth 100000 in
def q_X0_split (h : hp_H) (a1 : Int32) (Q : hp_H → Prop) : Prop :=
  q_J7_fill_53178 69 400 h (-1) (fun h1 =>
  ∀ h2 : hp_H, h2 = hp_up h1 64 1 (nI 0) →
  hp_lp1h (fun v4 h5 B3 =>
    ((h5 35 2) ≤ v4 →
      ∀ w7 : Nat, w7 = 65 + (h5 hp_V 0).toNatClampNeg → (w7 = 65 ∨ w7 = 68) ∧
      ∀ w8 : Nat, w8 = 65 + (h5 hp_V 1).toNatClampNeg → (w8 = 65 ∨ w8 = 68) ∧
      ∀ h9 : hp_H, h9 = hp_up h5 hp_V 0 (nI (w8 - 65)) →
      ∀ h10 : hp_H, h10 = hp_up h9 hp_V 1 (nI (w7 - 65)) →
      Q h10) ∧ (¬ (h5 35 2) ≤ v4 →
      q_X0_newPartLike h5 v4 a1 (fun r11 =>
      ∀ w12 : Nat, w12 = 65 + (h5 hp_V 1).toNatClampNeg → (w12 = 65 ∨ w12 = 68) ∧
      hp_jn1h (fun K14 =>
        (r11 = (-1) →
          q_X0_openPart h5 v4 (fun r17 h18 =>
          K14 r17 h18)) ∧ (¬ r11 = (-1) →
          K14 r11 h5)) (fun v15 h16 =>
        vp_in v4 400 ∧
        ∀ h19 : hp_H, h19 = hp_up h16 w12 v4.toNatClampNeg v15 →
        ∀ v20 : Int32, v20 = v4 + (nI 1) →
        B3 v20 h19)))) (nI 0) h2)
set_option maxRecDepth 100000 in
def q_J7_rangeCheck_23922 (a0 a1 a2 : Int32) (Q : Prop) : Prop :=
  (a1 ≤ a2 →
    (0 ≤ a1 →
      (a2 ≤ a0 →
        Q) ∧ (¬ a2 ≤ a0 →
        False)) ∧ (¬ 0 ≤ a1 →
      False)) ∧ (¬ a1 ≤ a2 →
    False)
set_option maxRecDepth 100000 in
def q_J7_fill_fda19 (x0 nx0 : Nat) (h : hp_H) (a1 a2 a3 : Int32) (Q : hp_H → Prop) : Prop :=
  q_J7_rangeCheck_23922 (nI nx0) a1 a2 (
  hp_lp1h (fun v2 h3 B1 =>
    (a2 ≤ v2 →
      Q h3) ∧ (¬ a2 ≤ v2 →
      vp_in v2 nx0 ∧
      ∀ h5 : hp_H, h5 = hp_up h3 x0 v2.toNatClampNeg a3 →
      ∀ v6 : Int32, v6 = v2 + (nI 1) →
      B1 v6 h5)) a1 h)
set_option maxRecDepth 100000 in
def q_X0_keyByMoves (h : hp_H) (a1 : Int32) (Q : hp_H → Prop) : Prop :=
  hp_lp1h (fun v2 h3 B1 =>
    ((h3 35 2) ≤ v2 →
      Q h3) ∧ (¬ (h3 35 2) ≤ v2 →
      ∀ v5 : Int32, v5 = (v2 * (nI 13)) →
      q_J7_fill_fda19 67 5200 h3 v5 (v5 + a1) (nI 0) (fun h6 =>
      vp_in v2 401 ∧
      ∀ v7 : Int32, v7 = (h6 36 v2.toNatClampNeg) →
      hp_lp1h (fun v9 h10 B8 =>
        vp_in (v2 + (nI 1)) 401 ∧
        ((h10 36 (v2 + (nI 1)).toNatClampNeg) ≤ v9 →
          ∀ v12 : Int32, v12 = v2 + (nI 1) →
          B1 v12 h10) ∧ (¬ (h10 36 (v2 + (nI 1)).toNatClampNeg) ≤ v9 →
          ∀ w13 : Nat, w13 = 65 + (h10 hp_V 0).toNatClampNeg → (w13 = 65 ∨ w13 = 68) ∧
          vp_in v9 6000 ∧
          vp_in (h10 37 v9.toNatClampNeg) 400 ∧
          ∀ v14 : Int32, v14 = (h10 w13 (h10 37 v9.toNatClampNeg).toNatClampNeg) →
          vp_in (v5 + (v14 / (nI 32))) 5200 ∧
          vp_in (v5 + (v14 / (nI 32))) 5200 ∧
          ∀ h15 : hp_H, h15 = hp_up h10 67 (v5 + (v14 / (nI 32))).toNatClampNeg ((h10 67 (v5 + (v14 / (nI 32))).toNatClampNeg) ||| (hp_shl (nI 1) (hp_rem v14 (nI 32)))) →
          ∀ v16 : Int32, v16 = v9 + (nI 1) →
          B8 v16 h15)) v7 h6))) (nI 0) h
set_option maxRecDepth 100000 in
def q_X0_makeSure (h : hp_H) (Q : hp_H → Prop) : Prop :=
  ((h 64 11) = 0 →
    ∀ w2 : Nat, w2 = 65 + (h hp_V 0).toNatClampNeg → (w2 = 65 ∨ w2 = 68) ∧
    q_J7_fill_53178 w2 400 h (nI 0) (fun h3 =>
    ∀ h4 : hp_H, h4 = hp_up h3 64 1 (nI 1) →
    q_X0_keyByObserved h4 (fun h5 =>
    q_X0_split h5 (h5 64 0) (fun h6 =>
    hp_lp2h (fun v8 v9 h10 B7 =>
      ((nI 400) < v9 →
        ∀ h12 : hp_H, h12 = hp_up h10 64 11 (nI 1) →
        Q h12) ∧ (¬ (nI 400) < v9 →
        (v8 = 0 →
          ∀ h14 : hp_H, h14 = hp_up h10 64 11 (nI 1) →
          Q h14) ∧ (¬ v8 = 0 →
          ∀ v15 : Int32, v15 = (h10 64 1) →
          ∀ v16 : Int32, v16 = ((((h10 64 1) + (nI 32)) - (nI 1)) / (nI 32)) →
          q_X0_keyByMoves h10 v16 (fun h17 =>
          q_X0_split h17 v16 (fun h18 =>
          hp_jn1 (fun K20 =>
            ((h18 64 1) ≤ v15 →
              K20 (nI 0)) ∧ (¬ (h18 64 1) ≤ v15 →
              K20 (nI 1))) (fun v21 =>
            ∀ v22 : Int32, v22 = v9 + (nI 1) →
            B7 v21 v22 h18)))))) (nI 1) (nI 0) h6)))) ∧ (¬ (h 64 11) = 0 →
    Q h)
set_option maxRecDepth 100000 in
def q_X1_has (h : hp_H) (a1 : Int32) (Q : Int32 → Prop) : Prop :=
  (a1 < 0 →
    Q (nI 0)) ∧ (¬ a1 < 0 →
    ((h 15 1) ≤ a1 →
      Q (nI 0)) ∧ (¬ (h 15 1) ≤ a1 →
      Q (nI 1)))
set_option maxRecDepth 100000 in
def q_X1_isOwned (h : hp_H) (a1 : Int32) (Q : Int32 → Prop) : Prop :=
  vp_in a1 80 ∧
  hp_bz (h 22 a1.toNatClampNeg) ∧
  Q (h 22 a1.toNatClampNeg)
set_option maxRecDepth 100000 in
def q_X1_tellsMembersApart (h : hp_H) (Q : Int32 → Prop) : Prop :=
  hp_bz (h 15 9) ∧
  Q (h 15 9)
set_option maxRecDepth 100000 in
def q_X1_add (h : hp_H) (a1 a2 a3 a4 : Int32) (Q : Int32 → hp_H → Prop) : Prop :=
  vp_in (h 15 1) 80 ∧
  ∀ h1 : hp_H, h1 = hp_up h 17 (h 15 1).toNatClampNeg a1 →
  vp_in (h1 15 1) 80 ∧
  ∀ h2 : hp_H, h2 = hp_up h1 18 (h1 15 1).toNatClampNeg a2 →
  vp_in (h2 15 1) 80 ∧
  ∀ h3 : hp_H, h3 = hp_up h2 19 (h2 15 1).toNatClampNeg a3 →
  vp_in (h3 15 1) 80 ∧
  ∀ h4 : hp_H, h4 = hp_up h3 20 (h3 15 1).toNatClampNeg a4 →
  hp_jn1 (fun K6 =>
    hp_jn0 (fun K8 =>
      (a1 = (nI 2) →
        K8) ∧ (¬ a1 = (nI 2) →
        (a1 = (nI 3) →
          K8) ∧ (¬ a1 = (nI 3) →
          q_X1_isMade a1 (fun r10 =>
          hp_jn0 (fun K12 =>
            (r10 = 0 →
              K12) ∧ (¬ r10 = 0 →
              vp_in a2 80 ∧
              ((h4 22 a2.toNatClampNeg) = 0 →
                K12) ∧ (¬ (h4 22 a2.toNatClampNeg) = 0 →
                K8))) (
            q_X1_isMadeOfTwo a1 (fun r14 =>
            hp_jn0 (fun K16 =>
              (r14 = 0 →
                K16) ∧ (¬ r14 = 0 →
                vp_in a3 80 ∧
                ((h4 22 a3.toNatClampNeg) = 0 →
                  K16) ∧ (¬ (h4 22 a3.toNatClampNeg) = 0 →
                  K8))) (
              K6 (nI 0)))))))) (
      K6 (nI 1))) (fun v7 =>
    vp_in (h4 15 1) 80 ∧
    hp_bz v7 ∧
    ∀ h18 : hp_H, h18 = hp_up h4 22 (h4 15 1).toNatClampNeg v7 →
    hp_jn0h (fun K20 =>
      hp_jn0 (fun K22 =>
        (a1 = (nI 3) →
          K22) ∧ (¬ a1 = (nI 3) →
          (a1 = (nI 6) →
            K22) ∧ (¬ a1 = (nI 6) →
            K20 h18))) (
        ∀ h24 : hp_H, h24 = hp_up h18 15 9 (nI 1) →
        K20 h24)) (fun h21 =>
      ∀ v25 : Int32, v25 = (h21 15 1) →
      ∀ h26 : hp_H, h26 = hp_up h21 15 1 (v25 + (nI 1)) →
      Q v25 h26))
set_option maxRecDepth 100000 in
def q_X1_namesBeyond (h : hp_H) (a1 a2 : Int32) (Q : Int32 → Prop) : Prop :=
  hp_lp1 (fun v2 B1 =>
    ((h 15 1) ≤ v2 →
      Q (nI 0)) ∧ (¬ (h 15 1) ≤ v2 →
      vp_in v2 80 ∧
      hp_jn0 (fun K5 =>
        (((h 21 v2.toNatClampNeg) &&& a1) = 0 →
          K5) ∧ (¬ ((h 21 v2.toNatClampNeg) &&& a1) = 0 →
          vp_in v2 80 ∧
          ((h 17 v2.toNatClampNeg) = (nI 2) →
            vp_in v2 80 ∧
            ((h 18 v2.toNatClampNeg) < a2 →
              K5) ∧ (¬ (h 18 v2.toNatClampNeg) < a2 →
              Q (nI 1))) ∧ (¬ (h 17 v2.toNatClampNeg) = (nI 2) →
            K5))) (
        ∀ v8 : Int32, v8 = v2 + (nI 1) →
        B1 v8))) (nI 0)
set_option maxRecDepth 100000 in
def q_X2_clear (h : hp_H) (Q : hp_H → Prop) : Prop :=
  ∀ h1 : hp_H, h1 = hp_up h 35 0 (nI 0) →
  ∀ h2 : hp_H, h2 = hp_up h1 35 1 (nI 0) →
  ∀ h3 : hp_H, h3 = hp_up h2 35 2 (nI 0) →
  ∀ h4 : hp_H, h4 = hp_up h3 35 3 (nI 0) →
  ∀ h5 : hp_H, h5 = hp_up h4 35 4 (-1) →
  ∀ h6 : hp_H, h6 = hp_up h5 35 5 (-1) →
  ∀ h7 : hp_H, h7 = hp_up h6 35 6 (-1) →
  ∀ h8 : hp_H, h8 = hp_up h7 35 7 (-1) →
  Q h8
set_option maxRecDepth 100000 in
def q_X2_isSame (h : hp_H) (a1 : Int32) (Q : Int32 → Prop) : Prop :=
  ∀ v1 : Int32, v1 = (a1 * (nI 13)) →
  hp_lp1 (fun v3 B2 =>
    ((nI 13) ≤ v3 →
      Q (nI 1)) ∧ (¬ (nI 13) ≤ v3 →
      vp_in (v1 + v3) 5200 ∧
      vp_in v3 13 ∧
      ((h 42 (v1 + v3).toNatClampNeg) = (h 48 v3.toNatClampNeg) →
        ∀ v6 : Int32, v6 = v3 + (nI 1) →
        B2 v6) ∧ (¬ (h 42 (v1 + v3).toNatClampNeg) = (h 48 v3.toNatClampNeg) →
        Q (nI 0)))) (nI 0)
set_option maxRecDepth 100000 in
def q_X2_slotOf (h : hp_H) (Q : Int32 → Prop) : Prop :=
  hp_lp2 (fun v2 v3 B1 =>
    ((nI 13) ≤ v3 →
      ∀ v5 : Int32, v5 = (v2 ^^^ ((hp_ushr v2 (nI 20)) ^^^ (hp_ushr v2 (nI 10)))) →
      ∀ v6 : Int32, v6 = (v5 &&& (nI 1023)) →
      hp_lp2 (fun v8 v9 B7 =>
        ((nI 1024) ≤ v9 →
          Q v8) ∧ (¬ (nI 1024) ≤ v9 →
          vp_in v8 1024 ∧
          ((h 43 v8.toNatClampNeg) = 0 →
            Q v8) ∧ (¬ (h 43 v8.toNatClampNeg) = 0 →
            vp_in v8 1024 ∧
            q_X2_isSame h ((h 43 v8.toNatClampNeg) - (nI 1)) (fun r12 =>
            (r12 = 0 →
              ∀ v14 : Int32, v14 = ((v8 + (nI 1)) &&& (nI 1023)) →
              ∀ v15 : Int32, v15 = v9 + (nI 1) →
              B7 v14 v15) ∧ (¬ r12 = 0 →
              Q v8))))) v6 (nI 0)) ∧ (¬ (nI 13) ≤ v3 →
      vp_in v3 13 ∧
      ∀ v16 : Int32, v16 = ((v2 * (nI 31)) + (h 48 v3.toNatClampNeg)) →
      ∀ v17 : Int32, v17 = v3 + (nI 1) →
      B1 v16 v17)) (nI 0) (nI 0)
set_option maxRecDepth 100000 in
def q_X2_addState (h : hp_H) (a2 a3 a4 : Int32) (Q : hp_H → Prop) : Prop :=
  (¬ (nI 0) < 0 ∧ ¬ ((h 35 2) * (nI 13)) < 0 ∧ ¬ (nI 13) < 0 ∧ (nI 0).toNatClampNeg + (nI 13).toNatClampNeg ≤ 13 ∧ ((h 35 2) * (nI 13)).toNatClampNeg + (nI 13).toNatClampNeg ≤ 5200) ∧
  ∀ h1 : hp_H, h1 = hp_cp h 48 42 (nI 0).toNatClampNeg ((h 35 2) * (nI 13)).toNatClampNeg (nI 13).toNatClampNeg →
  vp_in (h1 35 2) 400 ∧
  ∀ h2 : hp_H, h2 = hp_up h1 39 (h1 35 2).toNatClampNeg a3 →
  vp_in (h2 35 2) 400 ∧
  ∀ h3 : hp_H, h3 = hp_up h2 40 (h2 35 2).toNatClampNeg a4 →
  hp_jn1 (fun K5 =>
    (a3 = (-1) →
      K5 (nI 0)) ∧ (¬ a3 = (-1) →
      vp_in a3 400 ∧
      K5 ((h3 38 a3.toNatClampNeg) + (nI 1)))) (fun v6 =>
    vp_in (h3 35 2) 400 ∧
    ∀ h7 : hp_H, h7 = hp_up h3 38 (h3 35 2).toNatClampNeg v6 →
    ∀ h8 : hp_H, h8 = hp_up h7 35 2 ((h7 35 2) + (nI 1)) →
    vp_in a2 1024 ∧
    ∀ h9 : hp_H, h9 = hp_up h8 43 a2.toNatClampNeg (h8 35 2) →
    Q h9)
set_option maxRecDepth 100000 in
def q_X2_begin (h : hp_H) (Q : hp_H → Prop) : Prop :=
  q_X2_clear h (fun h1 =>
  q_J7_fill_53178 43 1024 h1 (nI 0) (fun h2 =>
  ∀ h3 : hp_H, h3 = hp_up h2 35 0 (nI 1) →
  q_X2_slotOf h3 (fun r4 =>
  q_X2_addState h3 r4 (-1) (-1) (fun h5 =>
  Q h5))))
set_option maxRecDepth 100000 in
def q_X2_isUsable (h : hp_H) (Q : Int32 → Prop) : Prop :=
  ((h 35 0) = 0 →
    Q (nI 0)) ∧ (¬ (h 35 0) = 0 →
    ((h 35 1) = 0 →
      Q (nI 1)) ∧ (¬ (h 35 1) = 0 →
      Q (nI 0)))
set_option maxRecDepth 100000 in
def q_X2_has (h : hp_H) (a1 : Int32) (Q : Int32 → Prop) : Prop :=
  q_X2_isUsable h (fun r1 =>
  (r1 = 0 →
    Q (nI 0)) ∧ (¬ r1 = 0 →
    (a1 < 0 →
      Q (nI 0)) ∧ (¬ a1 < 0 →
      ((h 35 2) ≤ a1 →
        Q (nI 0)) ∧ (¬ (h 35 2) ≤ a1 →
        Q (nI 1)))))
set_option maxRecDepth 100000 in
def q_X2_movesFrom (h : hp_H) (a1 : Int32) (Q : Int32 → Prop) : Prop :=
  vp_in (a1 + (nI 1)) 401 ∧
  vp_in a1 401 ∧
  Q ((h 36 (a1 + (nI 1)).toNatClampNeg) - (h 36 a1.toNatClampNeg))
set_option maxRecDepth 100000 in
def q_X2_roleOfMove (h : hp_H) (a1 : Int32) (Q : Int32 → Prop) : Prop :=
  vp_in a1 6000 ∧
  ((h 41 a1.toNatClampNeg) = (-1) →
    Q (-1)) ∧ (¬ (h 41 a1.toNatClampNeg) = (-1) →
    vp_in a1 6000 ∧
    Q ((h 41 a1.toNatClampNeg) / (nI 72)))
set_option maxRecDepth 100000 in
def q_X2_memberOfMove (h : hp_H) (a1 : Int32) (Q : Int32 → Prop) : Prop :=
  vp_in a1 6000 ∧
  ((h 41 a1.toNatClampNeg) = (-1) →
    Q (-1)) ∧ (¬ (h 41 a1.toNatClampNeg) = (-1) →
    vp_in a1 6000 ∧
    Q (hp_rem ((h 41 a1.toNatClampNeg) / (nI 24)) (nI 3)))
set_option maxRecDepth 100000 in
def q_X2_stepOfMove (h : hp_H) (a1 : Int32) (Q : Int32 → Prop) : Prop :=
  vp_in a1 6000 ∧
  ((h 41 a1.toNatClampNeg) = (-1) →
    Q (-1)) ∧ (¬ (h 41 a1.toNatClampNeg) = (-1) →
    vp_in a1 6000 ∧
    Q (hp_rem (h 41 a1.toNatClampNeg) (nI 24)))
set_option maxRecDepth 100000 in
def q_X2_moverBit (h : hp_H) (a1 : Int32) (Q : Int32 → Prop) : Prop :=
  vp_in a1 6000 ∧
  ((h 41 a1.toNatClampNeg) = (-1) →
    Q (nI 0)) ∧ (¬ (h 41 a1.toNatClampNeg) = (-1) →
    vp_in a1 6000 ∧
    Q (hp_shl (nI 1) ((h 41 a1.toNatClampNeg) / (nI 24))))
set_option maxRecDepth 100000 in
def q_X2_hasMemberMove (h : hp_H) (a1 : Int32) (Q : Int32 → Prop) : Prop :=
  q_X2_movesFrom h a1 (fun r1 =>
  (r1 ≤ 0 →
    Q (nI 0)) ∧ (¬ r1 ≤ 0 →
    vp_in a1 401 ∧
    q_X2_moverBit h (h 36 a1.toNatClampNeg) (fun r3 =>
    (r3 = 0 →
      Q (nI 0)) ∧ (¬ r3 = 0 →
      Q (nI 1)))))
set_option maxRecDepth 100000 in
def q_X2_mover (a0 a1 a2 : Int32) (Q : Int32 → Prop) : Prop :=
  Q ((((a0 * (nI 3)) + a1) * (nI 24)) + a2)
set_option maxRecDepth 100000 in
def q_X2_noteFault (h : hp_H) (a1 a2 a3 a4 : Int32) (Q : hp_H → Prop) : Prop :=
  ((h 35 4) = (-1) →
    ∀ h2 : hp_H, h2 = hp_up h 35 4 a1 →
    ∀ h3 : hp_H, h3 = hp_up h2 35 5 a2 →
    ∀ h4 : hp_H, h4 = hp_up h3 35 6 a3 →
    ∀ h5 : hp_H, h5 = hp_up h4 35 7 a4 →
    Q h5) ∧ (¬ (h 35 4) = (-1) →
    Q h)
set_option maxRecDepth 100000 in
def q_X2_addMove (h : hp_H) (a1 a3 : Int32) (Q : hp_H → Prop) : Prop :=
  q_X2_slotOf h (fun r1 =>
  vp_in r1 1024 ∧
  hp_jn1 (fun K3 =>
    ((h 43 r1.toNatClampNeg) = 0 →
      K3 (nI 1)) ∧ (¬ (h 43 r1.toNatClampNeg) = 0 →
      K3 (nI 0))) (fun v4 =>
    ((h 35 3) = (nI 6000) →
      ∀ h6 : hp_H, h6 = hp_up h 35 1 (nI 1) →
      Q h6) ∧ (¬ (h 35 3) = (nI 6000) →
      hp_jn0 (fun K8 =>
        (v4 = 0 →
          K8) ∧ (¬ v4 = 0 →
          ((h 35 2) = (nI 400) →
            ∀ h10 : hp_H, h10 = hp_up h 35 1 (nI 1) →
            Q h10) ∧ (¬ (h 35 2) = (nI 400) →
            K8))) (
        hp_jn0h (fun K12 =>
          (v4 = 0 →
            K12 h) ∧ (¬ v4 = 0 →
            vp_in a1 401 ∧
            q_X2_addState h r1 a1 ((h 35 3) - (h 36 a1.toNatClampNeg)) (fun h14 =>
            K12 h14))) (fun h13 =>
          vp_in r1 1024 ∧
          vp_in (h13 35 3) 6000 ∧
          ∀ h15 : hp_H, h15 = hp_up h13 37 (h13 35 3).toNatClampNeg ((h13 43 r1.toNatClampNeg) - (nI 1)) →
          vp_in (h15 35 3) 6000 ∧
          ∀ h16 : hp_H, h16 = hp_up h15 41 (h15 35 3).toNatClampNeg a3 →
          ∀ h17 : hp_H, h17 = hp_up h16 35 3 ((h16 35 3) + (nI 1)) →
          Q h17)))))
set_option maxRecDepth 100000 in
def q_X5_ask (h : hp_H) (a1 : Int32) (Q : hp_H → Prop) : Prop :=
  q_X5_askNothing h (fun h1 =>
  q_X5_askToo h1 a1 (fun h2 =>
  Q h2))
set_option maxRecDepth 100000 in
def q_X6_everyoneBits (h : hp_H) (Q : Int32 → Prop) : Prop :=
  hp_lp2 (fun v2 v3 B1 =>
    ((h 12 1) ≤ v3 →
      Q v2) ∧ (¬ (h 12 1) ≤ v3 →
      vp_in v3 3 ∧
      ∀ v5 : Int32, v5 = (v2 ||| (hp_shl ((hp_shl (nI 1) (h 13 v3.toNatClampNeg)) - (nI 1)) (v3 * (nI 3)))) →
      ∀ v6 : Int32, v6 = v3 + (nI 1) →
      B1 v5 v6)) (nI 0) (nI 0)
set_option maxRecDepth 100000 in
def q_X3_enter (h : hp_H) (a1 : Int32) (Q : hp_H → Prop) : Prop :=
  ∀ h1 : hp_H, h1 = hp_up h 53 15 ((h 53 15) + (nI 1)) →
  vp_in a1 400 ∧
  ∀ h2 : hp_H, h2 = hp_up h1 58 a1.toNatClampNeg (h1 53 15) →
  vp_in a1 400 ∧
  ∀ h3 : hp_H, h3 = hp_up h2 59 a1.toNatClampNeg (h2 53 15) →
  vp_in a1 401 ∧
  vp_in a1 400 ∧
  ∀ h4 : hp_H, h4 = hp_up h3 60 a1.toNatClampNeg (h3 36 a1.toNatClampNeg) →
  ∀ v5 : Int32, v5 = (h4 53 13) →
  ∀ h6 : hp_H, h6 = hp_up h4 53 13 (v5 + (nI 1)) →
  vp_in v5 400 ∧
  ∀ h7 : hp_H, h7 = hp_up h6 62 v5.toNatClampNeg a1 →
  ∀ v8 : Int32, v8 = (h7 53 14) →
  ∀ h9 : hp_H, h9 = hp_up h7 53 14 (v8 + (nI 1)) →
  vp_in v8 400 ∧
  ∀ h10 : hp_H, h10 = hp_up h9 63 v8.toNatClampNeg a1 →
  Q h10
set_option maxRecDepth 100000 in
def q_X3_follow (h : hp_H) (a1 a2 : Int32) (Q : hp_H → Prop) : Prop :=
  vp_in a1 400 ∧
  vp_in a1 400 ∧
  ∀ h1 : hp_H, h1 = hp_up h 60 a1.toNatClampNeg ((h 60 a1.toNatClampNeg) + (nI 1)) →
  vp_in a2 400 ∧
  ((h1 54 a2.toNatClampNeg) = 0 →
    Q h1) ∧ (¬ (h1 54 a2.toNatClampNeg) = 0 →
    vp_in a2 400 ∧
    ((h1 58 a2.toNatClampNeg) = 0 →
      q_X3_enter h1 a2 (fun h6 =>
      Q h6)) ∧ (¬ (h1 58 a2.toNatClampNeg) = 0 →
      vp_in a2 400 ∧
      ((h1 61 a2.toNatClampNeg) = (-1) →
        vp_in a1 400 ∧
        vp_in a2 400 ∧
        vp_in a1 400 ∧
        ∀ h5 : hp_H, h5 = hp_up h1 59 a1.toNatClampNeg (if (h1 58 a2.toNatClampNeg) < (h1 59 a1.toNatClampNeg) then (h1 58 a2.toNatClampNeg) else (h1 59 a1.toNatClampNeg)) →
        Q h5) ∧ (¬ (h1 61 a2.toNatClampNeg) = (-1) →
        Q h1)))
set_option maxRecDepth 100000 in
def q_X3_handBack (h : hp_H) (a1 : Int32) (Q : hp_H → Prop) : Prop :=
  ((h 53 13) ≤ 0 →
    Q h) ∧ (¬ (h 53 13) ≤ 0 →
    vp_in ((h 53 13) - (nI 1)) 400 ∧
    ∀ v2 : Int32, v2 = (h 62 ((h 53 13) - (nI 1)).toNatClampNeg) →
    vp_in v2 400 ∧
    vp_in a1 400 ∧
    vp_in v2 400 ∧
    ∀ h3 : hp_H, h3 = hp_up h 59 v2.toNatClampNeg (if (h 59 a1.toNatClampNeg) < (h 59 v2.toNatClampNeg) then (h 59 a1.toNatClampNeg) else (h 59 v2.toNatClampNeg)) →
    Q h3)
set_option maxRecDepth 100000 in
def q_X3_weigh (h : hp_H) (a1 a2 : Int32) (Q : Int32 → hp_H → Prop) : Prop :=
  vp_in a1 401 ∧
  ∀ v1 : Int32, v1 = (h 36 a1.toNatClampNeg) →
  hp_lp3h (fun v3 v4 v5 h6 B2 =>
    vp_in (a1 + (nI 1)) 401 ∧
    ((h6 36 (a1 + (nI 1)).toNatClampNeg) ≤ v5 →
      ∀ h8 : hp_H, h8 = hp_up h6 53 18 ((h6 53 18) ||| ((h6 53 16) &&& (v3 ^^^ (-1)))) →
      hp_bz v4 ∧
      Q v4 h8) ∧ (¬ (h6 36 (a1 + (nI 1)).toNatClampNeg) ≤ v5 →
      q_X2_moverBit h6 v5 (fun r9 =>
      vp_in v5 6000 ∧
      ∀ v10 : Int32, v10 = (h6 37 v5.toNatClampNeg) →
      ∀ v11 : Int32, v11 = (v3 ||| r9) →
      vp_in v10 400 ∧
      hp_jn1h (fun K13 =>
        ((h6 61 v10.toNatClampNeg) = a2 →
          ∀ h17 : hp_H, h17 = hp_up h6 53 17 ((h6 53 17) ||| r9) →
          K13 v4 h17) ∧ (¬ (h6 61 v10.toNatClampNeg) = a2 →
          vp_in v10 400 ∧
          ((h6 57 v10.toNatClampNeg) = 0 →
            K13 v4 h6) ∧ (¬ (h6 57 v10.toNatClampNeg) = 0 →
            K13 (nI 1) h6))) (fun v14 h15 =>
        ∀ v18 : Int32, v18 = v5 + (nI 1) →
        B2 v11 v14 v18 h15)))) (nI 0) (nI 0) v1 h
set_option maxRecDepth 100000 in
def q_X3_close (h : hp_H) (a1 : Int32) (Q : hp_H → Prop) : Prop :=
  ∀ v1 : Int32, v1 = (h 53 14) →
  hp_lp2h (fun v3 v4 h5 B2 =>
    hp_jn0 (fun K7 =>
      (v4 = 0 →
        K7) ∧ (¬ v4 = 0 →
        (v3 ≤ 0 →
          K7) ∧ (¬ v3 ≤ 0 →
          ∀ v9 : Int32, v9 = v3 + (-1) →
          vp_in v9 400 ∧
          vp_in (h5 63 v9.toNatClampNeg) 400 ∧
          ∀ h10 : hp_H, h10 = hp_up h5 61 (h5 63 v9.toNatClampNeg).toNatClampNeg a1 →
          vp_in v9 400 ∧
          hp_jn1 (fun K12 =>
            ((h10 63 v9.toNatClampNeg) = a1 →
              K12 (nI 0)) ∧ (¬ (h10 63 v9.toNatClampNeg) = a1 →
              K12 (nI 1))) (fun v13 =>
            B2 v9 v13 h10)))) (
      ∀ h14 : hp_H, h14 = hp_up h5 53 17 (nI 0) →
      ∀ h15 : hp_H, h15 = hp_up h14 53 18 (nI 0) →
      hp_lp2h (fun v17 v18 h19 B16 =>
        ((h19 53 14) ≤ v18 →
          hp_jn1 (fun K22 =>
            hp_jn0 (fun K24 =>
              ((h19 53 17) = 0 →
                K24) ∧ (¬ (h19 53 17) = 0 →
                hp_jn0 (fun K26 =>
                  ((h19 53 19) = 0 →
                    K26) ∧ (¬ (h19 53 19) = 0 →
                    (((h19 53 17) ||| (h19 53 18)) = (h19 53 16) →
                      K26) ∧ (¬ ((h19 53 17) ||| (h19 53 18)) = (h19 53 16) →
                      K24))) (
                  K22 (nI 1)))) (
              K22 (nI 0))) (fun v23 =>
            hp_lp1h (fun v29 h30 B28 =>
              ((h30 53 14) ≤ v29 →
                ∀ h32 : hp_H, h32 = hp_up h30 53 14 v3 →
                Q h32) ∧ (¬ (h30 53 14) ≤ v29 →
                vp_in v29 400 ∧
                vp_in (h30 63 v29.toNatClampNeg) 400 ∧
                hp_bz v23 ∧
                ∀ h33 : hp_H, h33 = hp_up h30 56 (h30 63 v29.toNatClampNeg).toNatClampNeg v23 →
                vp_in v29 400 ∧
                hp_jn1 (fun K35 =>
                  hp_jn0 (fun K37 =>
                    (v23 = 0 →
                      (v17 = 0 →
                        K35 (nI 0)) ∧ (¬ v17 = 0 →
                        K37)) ∧ (¬ v23 = 0 →
                      K37)) (
                    K35 (nI 1))) (fun v36 =>
                  vp_in (h33 63 v29.toNatClampNeg) 400 ∧
                  hp_bz v36 ∧
                  ∀ h39 : hp_H, h39 = hp_up h33 57 (h33 63 v29.toNatClampNeg).toNatClampNeg v36 →
                  ∀ v40 : Int32, v40 = v29 + (nI 1) →
                  B28 v40 h39))) v3 h19)) ∧ (¬ (h19 53 14) ≤ v18 →
          vp_in v18 400 ∧
          q_X3_weigh h19 (h19 63 v18.toNatClampNeg) a1 (fun r41 h42 =>
          hp_jn1 (fun K44 =>
            (r41 = 0 →
              K44 v17) ∧ (¬ r41 = 0 →
              K44 (nI 1))) (fun v45 =>
            ∀ v46 : Int32, v46 = v18 + (nI 1) →
            B16 v45 v46 h42)))) (nI 0) v3 h15)) v1 (nI 1) h
set_option maxRecDepth 100000 in
def q_X3_walk (h : hp_H) (a1 : Int32) (Q : hp_H → Prop) : Prop :=
  q_X3_enter h a1 (fun h1 =>
  hp_lp1h (fun v3 h4 B2 =>
    ((nI 6400) ≤ v3 →
      Q h4) ∧ (¬ (nI 6400) ≤ v3 →
      ((h4 53 13) ≤ 0 →
        Q h4) ∧ (¬ (h4 53 13) ≤ 0 →
        vp_in ((h4 53 13) - (nI 1)) 400 ∧
        ∀ v7 : Int32, v7 = (h4 62 ((h4 53 13) - (nI 1)).toNatClampNeg) →
        vp_in v7 400 ∧
        vp_in (v7 + (nI 1)) 401 ∧
        hp_jn0h (fun K9 =>
          ((h4 36 (v7 + (nI 1)).toNatClampNeg) ≤ (h4 60 v7.toNatClampNeg) →
            ∀ h11 : hp_H, h11 = hp_up h4 53 13 ((h4 53 13) - (nI 1)) →
            q_X3_handBack h11 v7 (fun h12 =>
            vp_in v7 400 ∧
            vp_in v7 400 ∧
            ((h12 59 v7.toNatClampNeg) = (h12 58 v7.toNatClampNeg) →
              q_X3_close h12 v7 (fun h14 =>
              K9 h14)) ∧ (¬ (h12 59 v7.toNatClampNeg) = (h12 58 v7.toNatClampNeg) →
              K9 h12))) ∧ (¬ (h4 36 (v7 + (nI 1)).toNatClampNeg) ≤ (h4 60 v7.toNatClampNeg) →
            vp_in v7 400 ∧
            vp_in (h4 60 v7.toNatClampNeg) 6000 ∧
            q_X3_follow h4 v7 (h4 37 (h4 60 v7.toNatClampNeg).toNatClampNeg) (fun h15 =>
            K9 h15))) (fun h10 =>
          ∀ v16 : Int32, v16 = v3 + (nI 1) →
          B2 v16 h10)))) (nI 0) h1)
set_option maxRecDepth 100000 in
def q_X3_tie (h : hp_H) (a1 : Int32) (Q : hp_H → Prop) : Prop :=
  hp_bz a1 ∧
  ∀ h1 : hp_H, h1 = hp_up h 53 19 a1 →
  q_X6_everyoneBits h1 (fun r2 =>
  ∀ h3 : hp_H, h3 = hp_up h1 53 16 r2 →
  ∀ h4 : hp_H, h4 = hp_up h3 53 13 (nI 0) →
  ∀ h5 : hp_H, h5 = hp_up h4 53 14 (nI 0) →
  ∀ h6 : hp_H, h6 = hp_up h5 53 15 (nI 0) →
  hp_lp1h (fun v8 h9 B7 =>
    ((h9 35 2) ≤ v8 →
      hp_lp1h (fun v12 h13 B11 =>
        ((h13 35 2) ≤ v12 →
          Q h13) ∧ (¬ (h13 35 2) ≤ v12 →
          vp_in v12 400 ∧
          hp_jn0h (fun K16 =>
            ((h13 54 v12.toNatClampNeg) = 0 →
              K16 h13) ∧ (¬ (h13 54 v12.toNatClampNeg) = 0 →
              vp_in v12 400 ∧
              ((h13 58 v12.toNatClampNeg) = 0 →
                q_X3_walk h13 v12 (fun h19 =>
                K16 h19)) ∧ (¬ (h13 58 v12.toNatClampNeg) = 0 →
                K16 h13))) (fun h17 =>
            ∀ v20 : Int32, v20 = v12 + (nI 1) →
            B11 v20 h17))) (nI 0) h9) ∧ (¬ (h9 35 2) ≤ v8 →
      vp_in v8 400 ∧
      ∀ h21 : hp_H, h21 = hp_up h9 58 v8.toNatClampNeg (nI 0) →
      vp_in v8 400 ∧
      ∀ h22 : hp_H, h22 = hp_up h21 61 v8.toNatClampNeg (-1) →
      vp_in v8 400 ∧
      ∀ h23 : hp_H, h23 = hp_up h22 56 v8.toNatClampNeg (nI 0) →
      vp_in v8 400 ∧
      ∀ h24 : hp_H, h24 = hp_up h23 57 v8.toNatClampNeg (nI 0) →
      ∀ v25 : Int32, v25 = v8 + (nI 1) →
      B7 v25 h24)) (nI 0) h6)
set_option maxRecDepth 100000 in
def q_X3_firstOfBoth (x1 x2 : Nat) (h : hp_H) (Q : Int32 → Prop) : Prop :=
  hp_lp1 (fun v2 B1 =>
    ((h 35 2) ≤ v2 →
      Q (-1)) ∧ (¬ (h 35 2) ≤ v2 →
      vp_in v2 400 ∧
      hp_jn0 (fun K5 =>
        ((h x1 v2.toNatClampNeg) = 0 →
          K5) ∧ (¬ (h x1 v2.toNatClampNeg) = 0 →
          vp_in v2 400 ∧
          ((h x2 v2.toNatClampNeg) = 0 →
            K5) ∧ (¬ (h x2 v2.toNatClampNeg) = 0 →
            Q v2))) (
        ∀ v7 : Int32, v7 = v2 + (nI 1) →
        B1 v7))) (nI 0)
set_option maxRecDepth 100000 in
def q_X3_breakerOfAgain (h : hp_H) (a1 a2 : Int32) (Q : Int32 → hp_H → Prop) : Prop :=
  q_X5_ask h a1 (fun h1 =>
  hp_lp1h (fun v3 h4 B2 =>
    ((h4 35 2) ≤ v3 →
      q_X3_tie h4 a2 (fun h6 =>
      q_X3_firstOfBoth 54 56 h6 (fun r7 =>
      Q r7 h6))) ∧ (¬ (h4 35 2) ≤ v3 →
      q_X5_lookAt h4 v3 (fun h8 =>
      q_X5_answer h8 a1 (fun r9 =>
      hp_jn1 (fun K11 =>
        (r9 = 0 →
          K11 (nI 1)) ∧ (¬ r9 = 0 →
          K11 (nI 0))) (fun v12 =>
        vp_in v3 400 ∧
        hp_bz v12 ∧
        ∀ h13 : hp_H, h13 = hp_up h8 54 v3.toNatClampNeg v12 →
        ∀ v14 : Int32, v14 = v3 + (nI 1) →
        B2 v14 h13))))) (nI 0) h1)
set_option maxRecDepth 100000 in
def q_X3_breakerOfFromTo (h : hp_H) (a1 a2 a3 : Int32) (Q : Int32 → hp_H → Prop) : Prop :=
  q_X5_ask h a1 (fun h1 =>
  q_X5_askToo h1 a2 (fun h2 =>
  hp_lp1h (fun v4 h5 B3 =>
    ((h5 35 2) ≤ v4 →
      q_X3_tie h5 a3 (fun h7 =>
      q_X3_firstOfBoth 55 57 h7 (fun r8 =>
      Q r8 h7))) ∧ (¬ (h5 35 2) ≤ v4 →
      q_X5_lookAt h5 v4 (fun h9 =>
      q_X5_answer h9 a2 (fun r10 =>
      hp_jn1 (fun K12 =>
        (r10 = 0 →
          K12 (nI 1)) ∧ (¬ r10 = 0 →
          K12 (nI 0))) (fun v13 =>
        vp_in v4 400 ∧
        hp_bz v13 ∧
        ∀ h14 : hp_H, h14 = hp_up h9 54 v4.toNatClampNeg v13 →
        vp_in v4 400 ∧
        hp_jn1 (fun K16 =>
          hp_jn0 (fun K18 =>
            ((h14 54 v4.toNatClampNeg) = 0 →
              K18) ∧ (¬ (h14 54 v4.toNatClampNeg) = 0 →
              q_X5_answer h14 a1 (fun r19 =>
              (r19 = 0 →
                K18) ∧ (¬ r19 = 0 →
                K16 (nI 1))))) (
            K16 (nI 0))) (fun v17 =>
          vp_in v4 400 ∧
          hp_bz v17 ∧
          ∀ h21 : hp_H, h21 = hp_up h14 55 v4.toNatClampNeg v17 →
          ∀ v22 : Int32, v22 = v4 + (nI 1) →
          B3 v22 h21)))))) (nI 0) h2))
set_option maxRecDepth 100000 in
def q_X4_hasChannel (h : hp_H) (a1 : Int32) (Q : Int32 → Prop) : Prop :=
  (a1 < 0 →
    Q (nI 0)) ∧ (¬ a1 < 0 →
    ((h 1 8) ≤ a1 →
      Q (nI 0)) ∧ (¬ (h 1 8) ≤ a1 →
      Q (nI 1)))
set_option maxRecDepth 100000 in
def q_X4_addChannel (h : hp_H) (a1 a2 a3 : Int32) (Q : Int32 → hp_H → Prop) : Prop :=
  vp_in (h 1 8) 3 ∧
  ∀ h1 : hp_H, h1 = hp_up h 32 (h 1 8).toNatClampNeg a1 →
  vp_in (h1 1 8) 3 ∧
  hp_bz a2 ∧
  ∀ h2 : hp_H, h2 = hp_up h1 33 (h1 1 8).toNatClampNeg a2 →
  vp_in (h2 1 8) 3 ∧
  hp_bz a3 ∧
  ∀ h3 : hp_H, h3 = hp_up h2 34 (h2 1 8).toNatClampNeg a3 →
  ∀ v4 : Int32, v4 = (h3 1 8) →
  ∀ h5 : hp_H, h5 = hp_up h3 1 8 (v4 + (nI 1)) →
  Q v4 h5
set_option maxRecDepth 100000 in
def q_X10_has (vk vt vl vh vf vn vm : Nat) (h : hp_H) (a1 a2 : Int32) (Q : Int32 → Prop) : Prop :=
  (a2 < 0 →
    Q (nI 0)) ∧ (¬ a2 < 0 →
    vp_in a1 vn ∧
    ((h vt a1.toNatClampNeg) ≤ a2 →
      Q (nI 0)) ∧ (¬ (h vt a1.toNatClampNeg) ≤ a2 →
      Q (nI 1)))
set_option maxRecDepth 100000 in
def q_X6_has (h : hp_H) (a1 : Int32) (Q : Int32 → Prop) : Prop :=
  (a1 < 0 →
    Q (nI 0)) ∧ (¬ a1 < 0 →
    ((h 12 1) ≤ a1 →
      Q (nI 0)) ∧ (¬ (h 12 1) ≤ a1 →
      Q (nI 1)))
set_option maxRecDepth 100000 in
def q_X6_hasMember (h : hp_H) (a1 a2 : Int32) (Q : Int32 → Prop) : Prop :=
  q_X6_has h a1 (fun r1 =>
  (r1 = 0 →
    Q (nI 0)) ∧ (¬ r1 = 0 →
    (a2 < 0 →
      Q (nI 0)) ∧ (¬ a2 < 0 →
      vp_in a1 3 ∧
      ((h 13 a1.toNatClampNeg) ≤ a2 →
        Q (nI 0)) ∧ (¬ (h 13 a1.toNatClampNeg) ≤ a2 →
        Q (nI 1)))))
set_option maxRecDepth 100000 in
def q_X4_knowsParts (h : hp_H) (a1 a2 a3 a4 : Int32) (Q : Int32 → Prop) : Prop :=
  ((a1 = (nI 1)) →
    q_X10_has 2 3 4 5 6 1 6 h (nI 0) a2 (fun r1 =>
    hp_bz r1 ∧
    Q r1))
  ∧ ((a1 = (nI 4)) →
    q_X6_has h a2 (fun r2 =>
    hp_bz r2 ∧
    Q r2))
  ∧ ((a1 = (nI 5)) →
    q_X4_hasChannel h a2 (fun r3 =>
    hp_bz r3 ∧
    Q r3))
  ∧ ((a1 = (nI 6)) →
    q_X6_hasMember h a2 a3 (fun r4 =>
    (r4 = 0 →
      Q (nI 0)) ∧ (¬ r4 = 0 →
      q_X10_has 7 8 9 10 11 3 9 h a2 a4 (fun r6 =>
      (r6 = 0 →
        Q (nI 0)) ∧ (¬ r6 = 0 →
        Q (nI 1))))))
  ∧ ((¬ a1 = (nI 1) ∧ ¬ a1 = (nI 4) ∧ ¬ a1 = (nI 5) ∧ ¬ a1 = (nI 6)) →
    q_X1_isMade a1 (fun r8 =>
    hp_jn0 (fun K10 =>
      (r8 = 0 →
        K10) ∧ (¬ r8 = 0 →
        q_X1_has h a2 (fun r11 =>
        (r11 = 0 →
          Q (nI 0)) ∧ (¬ r11 = 0 →
          K10)))) (
      q_X1_isMadeOfTwo a1 (fun r13 =>
      (r13 = 0 →
        Q (nI 1)) ∧ (¬ r13 = 0 →
        q_X1_has h a3 (fun r15 =>
        (r15 = 0 →
          Q (nI 0)) ∧ (¬ r15 = 0 →
          Q (nI 1))))))))
set_option maxRecDepth 100000 in
def q_X4_knowsAct (h : hp_H) (a1 a2 a3 a4 : Int32) (Q : Int32 → Prop) : Prop :=
  vp_in a1 24 ∧
  ∀ v1 : Int32, v1 = (h 24 a1.toNatClampNeg) →
  ((a2 = (nI 0)) →
    q_X10_has 2 3 4 5 6 1 6 h (nI 0) a3 (fun r2 =>
    (r2 = 0 →
      Q (nI 0)) ∧ (¬ r2 = 0 →
      q_X1_has h a4 (fun r4 =>
      (r4 = 0 →
        Q (nI 0)) ∧ (¬ r4 = 0 →
        Q (nI 1))))))
  ∧ ((a2 = (nI 1)) →
    q_X10_has 7 8 9 10 11 3 9 h v1 a3 (fun r6 =>
    (r6 = 0 →
      Q (nI 0)) ∧ (¬ r6 = 0 →
      q_X1_has h a4 (fun r8 =>
      (r8 = 0 →
        Q (nI 0)) ∧ (¬ r8 = 0 →
        Q (nI 1))))))
  ∧ ((a2 = (nI 2)) →
    q_X4_hasChannel h a3 (fun r10 =>
    (r10 = 0 →
      Q (nI 0)) ∧ (¬ r10 = 0 →
      q_X1_has h a4 (fun r12 =>
      (r12 = 0 →
        Q (nI 0)) ∧ (¬ r12 = 0 →
        Q (nI 1))))))
  ∧ ((¬ a2 = (nI 0) ∧ ¬ a2 = (nI 1) ∧ ¬ a2 = (nI 2)) →
    q_X4_hasChannel h a3 (fun r14 =>
    (r14 = 0 →
      Q (nI 0)) ∧ (¬ r14 = 0 →
      q_X10_has 7 8 9 10 11 3 9 h v1 a4 (fun r16 =>
      (r16 = 0 →
        Q (nI 0)) ∧ (¬ r16 = 0 →
        Q (nI 1))))))
set_option maxRecDepth 100000 in
def q_X4_markUses (h : hp_H) (Q : hp_H → Prop) : Prop :=
  q_X1_dropUse h (nI 7) (fun h1 =>
  hp_lp1h (fun v3 h4 B2 =>
    ((h4 23 8) ≤ v3 →
      q_X1_spreadUses h4 (fun h6 =>
      Q h6)) ∧ (¬ (h4 23 8) ≤ v3 →
      vp_in v3 24 ∧
      ∀ v7 : Int32, v7 = (hp_shl (nI 1) (h4 24 v3.toNatClampNeg)) →
      vp_in v3 24 ∧
      hp_jn0h (fun K9 =>
        ((h4 27 v3.toNatClampNeg) = (-1) →
          K9 h4) ∧ (¬ (h4 27 v3.toNatClampNeg) = (-1) →
          vp_in v3 24 ∧
          q_X1_addUse h4 (h4 27 v3.toNatClampNeg) v7 (fun h11 =>
          K9 h11))) (fun h10 =>
        ∀ v12 : Int32, v12 = (v3 * (nI 4)) →
        hp_lp1h (fun v14 h15 B13 =>
          vp_in v3 24 ∧
          (((v3 * (nI 4)) + (h15 28 v3.toNatClampNeg)) ≤ v14 →
            ∀ v17 : Int32, v17 = v3 + (nI 1) →
            B2 v17 h15) ∧ (¬ ((v3 * (nI 4)) + (h15 28 v3.toNatClampNeg)) ≤ v14 →
            vp_in v14 96 ∧
            hp_jn0h (fun K19 =>
              ((h15 29 v14.toNatClampNeg) = (nI 3) →
                K19 h15) ∧ (¬ (h15 29 v14.toNatClampNeg) = (nI 3) →
                vp_in v14 96 ∧
                q_X1_addUse h15 (h15 31 v14.toNatClampNeg) v7 (fun h21 =>
                K19 h21))) (fun h20 =>
              ∀ v22 : Int32, v22 = v14 + (nI 1) →
              B13 v22 h20))) v12 h10))) (nI 0) h1)
set_option maxRecDepth 100000 in
def q_X4_isSearchable (h : hp_H) (Q : Int32 → hp_H → Prop) : Prop :=
  hp_jn0 (fun K2 =>
    ((h 1 9) = 0 →
      K2) ∧ (¬ (h 1 9) = 0 →
      q_X1_tellsMembersApart h (fun r3 =>
      (r3 = 0 →
        K2) ∧ (¬ r3 = 0 →
        Q (nI 0) h)))) (
    q_X4_markUses h (fun h5 =>
    hp_lp1 (fun v7 B6 =>
      ((h5 12 1) ≤ v7 →
        Q (nI 1) h5) ∧ (¬ (h5 12 1) ≤ v7 →
        vp_in v7 3 ∧
        q_X1_namesBeyond h5 (hp_shl (nI 1) v7) (h5 8 v7.toNatClampNeg) (fun r9 =>
        (r9 = 0 →
          ∀ v11 : Int32, v11 = v7 + (nI 1) →
          B6 v11) ∧ (¬ r9 = 0 →
          Q (nI 0) h5)))) (nI 0)))
set_option maxRecDepth 100000 in
def q_X7_clear (w : Nat) (h : hp_H) (Q : hp_H → Prop) : Prop :=
  q_J7_fill_53178 w 13 h (nI 0) (fun h1 =>
  Q h1)
set_option maxRecDepth 100000 in
def q_X10_firstOf (vk vt vl vh vf vn vm : Nat) (h : hp_H) (a1 a2 : Int32) (Q : Int32 → Prop) : Prop :=
  vp_in ((a1 * (h vk 1)) + a2) vm ∧
  Q (h vf ((a1 * (h vk 1)) + a2).toNatClampNeg)
set_option maxRecDepth 100000 in
def q_X7_setShared (w : Nat) (h : hp_H) (a1 a2 : Int32) (Q : hp_H → Prop) : Prop :=
  vp_in (nI 0) 13 ∧
  vp_in (nI 0) 13 ∧
  ∀ h1 : hp_H, h1 = hp_up h w (nI 0).toNatClampNeg (((h w (nI 0).toNatClampNeg) &&& ((hp_shl (nI 15) ((nI 4) * a1)) ^^^ (-1))) ||| (hp_shl a2 ((nI 4) * a1))) →
  Q h1
set_option maxRecDepth 100000 in
def q_X7_setOwn (w : Nat) (h : hp_H) (a1 a2 a3 a4 : Int32) (Q : hp_H → Prop) : Prop :=
  ∀ v1 : Int32, v1 = (((nI 1) + (a1 * (nI 3))) + a2) →
  ∀ v2 : Int32, v2 = ((nI 8) - ((nI 4) * a3)) →
  vp_in v1 13 ∧
  vp_in v1 13 ∧
  ∀ h3 : hp_H, h3 = hp_up h w v1.toNatClampNeg (((h w v1.toNatClampNeg) &&& ((hp_shl (nI 15) v2) ^^^ (-1))) ||| (hp_shl a4 v2)) →
  Q h3
set_option maxRecDepth 100000 in
def q_X4_setFirst (h : hp_H) (Q : hp_H → Prop) : Prop :=
  q_X7_clear 48 h (fun h1 =>
  hp_lp1h (fun v3 h4 B2 =>
    vp_in (nI 0) 1 ∧
    ((h4 3 (nI 0).toNatClampNeg) ≤ v3 →
      hp_lp1h (fun v7 h8 B6 =>
        ((h8 12 1) ≤ v7 →
          Q h8) ∧ (¬ (h8 12 1) ≤ v7 →
          hp_lp1h (fun v11 h12 B10 =>
            vp_in v7 3 ∧
            ((h12 13 v7.toNatClampNeg) ≤ v11 →
              ∀ v14 : Int32, v14 = v7 + (nI 1) →
              B6 v14 h12) ∧ (¬ (h12 13 v7.toNatClampNeg) ≤ v11 →
              hp_lp1h (fun v16 h17 B15 =>
                vp_in v7 3 ∧
                ((h17 8 v7.toNatClampNeg) ≤ v16 →
                  ∀ v19 : Int32, v19 = v11 + (nI 1) →
                  B10 v19 h17) ∧ (¬ (h17 8 v7.toNatClampNeg) ≤ v16 →
                  q_X10_firstOf 7 8 9 10 11 3 9 h17 v7 v16 (fun r20 =>
                  q_X7_setOwn 48 h17 v7 v11 v16 r20 (fun h21 =>
                  ∀ v22 : Int32, v22 = v16 + (nI 1) →
                  B15 v22 h21)))) (nI 0) h12)) (nI 0) h8)) (nI 0) h4) ∧ (¬ (h4 3 (nI 0).toNatClampNeg) ≤ v3 →
      q_X10_firstOf 2 3 4 5 6 1 6 h4 (nI 0) v3 (fun r23 =>
      q_X7_setShared 48 h4 v3 r23 (fun h24 =>
      ∀ v25 : Int32, v25 = v3 + (nI 1) →
      B2 v25 h24)))) (nI 0) h1)
set_option maxRecDepth 100000 in
def q_X7_placeOf (w : Nat) (h : hp_H) (a1 a2 : Int32) (Q : Int32 → Prop) : Prop :=
  vp_in (((nI 1) + (a1 * (nI 3))) + a2) 13 ∧
  Q (hp_ushr (h w (((nI 1) + (a1 * (nI 3))) + a2).toNatClampNeg) (nI 12))
set_option maxRecDepth 100000 in
def q_X6_isEnd (h : hp_H) (a1 a2 : Int32) (Q : Int32 → Prop) : Prop :=
  vp_in a1 3 ∧
  (((hp_ushr (h 14 a1.toNatClampNeg) a2) &&& (nI 1)) = (nI 1) →
    Q (nI 1)) ∧ (¬ ((hp_ushr (h 14 a1.toNatClampNeg) a2) &&& (nI 1)) = (nI 1) →
    Q (nI 0))
set_option maxRecDepth 100000 in
def q_X4_someAtNoEnd (h : hp_H) (Q : Int32 → Prop) : Prop :=
  hp_lp1 (fun v2 B1 =>
    ((h 12 1) ≤ v2 →
      Q (nI 0)) ∧ (¬ (h 12 1) ≤ v2 →
      hp_lp1 (fun v5 B4 =>
        vp_in v2 3 ∧
        ((h 13 v2.toNatClampNeg) ≤ v5 →
          ∀ v7 : Int32, v7 = v2 + (nI 1) →
          B1 v7) ∧ (¬ (h 13 v2.toNatClampNeg) ≤ v5 →
          q_X7_placeOf 52 h v2 v5 (fun r8 =>
          q_X6_isEnd h v2 r8 (fun r9 =>
          (r9 = 0 →
            Q (nI 1)) ∧ (¬ r9 = 0 →
            ∀ v11 : Int32, v11 = v5 + (nI 1) →
            B4 v11))))) (nI 0))) (nI 0)
set_option maxRecDepth 100000 in
def q_X6_add (h : hp_H) (a1 : Int32) (Q : Int32 → hp_H → Prop) : Prop :=
  vp_in (h 12 1) 3 ∧
  ∀ h1 : hp_H, h1 = hp_up h 13 (h 12 1).toNatClampNeg a1 →
  ∀ v2 : Int32, v2 = (h1 12 1) →
  ∀ h3 : hp_H, h3 = hp_up h1 12 1 (v2 + (nI 1)) →
  Q v2 h3
set_option maxRecDepth 100000 in
def q_X6_setEnd (h : hp_H) (a1 a2 : Int32) (Q : hp_H → Prop) : Prop :=
  vp_in a1 3 ∧
  vp_in a1 3 ∧
  ∀ h1 : hp_H, h1 = hp_up h 14 a1.toNatClampNeg ((h 14 a1.toNatClampNeg) ||| (hp_shl (nI 1) a2)) →
  Q h1
set_option maxRecDepth 100000 in
def q_X7_copy (w w_1 : Nat) (h : hp_H) (Q : hp_H → Prop) : Prop :=
  (¬ (nI 0) < 0 ∧ ¬ (nI 0) < 0 ∧ ¬ (nI 13) < 0 ∧ (nI 0).toNatClampNeg + (nI 13).toNatClampNeg ≤ 13 ∧ (nI 0).toNatClampNeg + (nI 13).toNatClampNeg ≤ 13) ∧
  ∀ h1 : hp_H, h1 = hp_cp h w_1 w (nI 0).toNatClampNeg (nI 0).toNatClampNeg (nI 13).toNatClampNeg →
  Q h1
set_option maxRecDepth 100000 in
def q_X7_setPlace (w : Nat) (h : hp_H) (a1 a2 a3 : Int32) (Q : hp_H → Prop) : Prop :=
  ∀ v1 : Int32, v1 = (((nI 1) + (a1 * (nI 3))) + a2) →
  vp_in v1 13 ∧
  vp_in v1 13 ∧
  ∀ h2 : hp_H, h2 = hp_up h w v1.toNatClampNeg (((h w v1.toNatClampNeg) &&& (-61441)) ||| (hp_shl a3 (nI 12))) →
  Q h2
set_option maxRecDepth 100000 in
def q_X7_letterAt (w : Nat) (h : hp_H) (a1 a2 : Int32) (Q : Int32 → Prop) : Prop :=
  vp_in ((nI 10) + a1) 13 ∧
  Q ((hp_ushr (h w ((nI 10) + a1).toNatClampNeg) ((nI 4) * a2)) &&& (nI 15))
set_option maxRecDepth 100000 in
def q_X7_put (w : Nat) (h : hp_H) (a1 a2 : Int32) (Q : hp_H → Prop) : Prop :=
  vp_in ((nI 10) + a1) 13 ∧
  ∀ v1 : Int32, v1 = (h w ((nI 10) + a1).toNatClampNeg) →
  ∀ v2 : Int32, v2 = (hp_ushr v1 (nI 12)) →
  vp_in ((nI 10) + a1) 13 ∧
  ∀ h3 : hp_H, h3 = hp_up h w ((nI 10) + a1).toNatClampNeg (((v1 &&& (nI 4095)) ||| (hp_shl a2 ((nI 4) * v2))) ||| (hp_shl (v2 + (nI 1)) (nI 12))) →
  Q h3
set_option maxRecDepth 100000 in
def q_X7_take (w : Nat) (h : hp_H) (a1 a2 : Int32) (Q : hp_H → Prop) : Prop :=
  vp_in ((nI 10) + a1) 13 ∧
  ∀ v1 : Int32, v1 = (h w ((nI 10) + a1).toNatClampNeg) →
  ∀ v2 : Int32, v2 = (v1 &&& (nI 4095)) →
  ∀ v3 : Int32, v3 = (v2 &&& ((hp_shl (nI 1) ((nI 4) * a2)) - (nI 1))) →
  ∀ v4 : Int32, v4 = (hp_shl (hp_ushr v2 ((nI 4) * (a2 + (nI 1)))) ((nI 4) * a2)) →
  vp_in ((nI 10) + a1) 13 ∧
  ∀ h5 : hp_H, h5 = hp_up h w ((nI 10) + a1).toNatClampNeg ((v3 ||| v4) ||| (hp_shl ((hp_ushr v1 (nI 12)) - (nI 1)) (nI 12))) →
  Q h5
set_option maxRecDepth 100000 in
def q_X7_isFirstOfLike (w : Nat) (h : hp_H) (a1 a2 : Int32) (Q : Int32 → Prop) : Prop :=
  vp_in ((nI 10) + a1) 13 ∧
  ∀ v1 : Int32, v1 = (h w ((nI 10) + a1).toNatClampNeg) →
  hp_lp1 (fun v3 B2 =>
    (a2 ≤ v3 →
      Q (nI 1)) ∧ (¬ a2 ≤ v3 →
      (((hp_ushr v1 ((nI 4) * v3)) &&& (nI 15)) = ((hp_ushr v1 ((nI 4) * a2)) &&& (nI 15)) →
        Q (nI 0)) ∧ (¬ ((hp_ushr v1 ((nI 4) * v3)) &&& (nI 15)) = ((hp_ushr v1 ((nI 4) * a2)) &&& (nI 15)) →
        ∀ v6 : Int32, v6 = v3 + (nI 1) →
        B2 v6))) (nI 0)
set_option maxRecDepth 100000 in
def q_X7_nextUnlike (w : Nat) (h : hp_H) (a1 a2 : Int32) (Q : Int32 → Prop) : Prop :=
  ∀ v1 : Int32, v1 = (a2 + (nI 1)) →
  hp_lp1 (fun v3 B2 =>
    q_X7_held w h a1 (fun r4 =>
    (r4 ≤ v3 →
      Q (-1)) ∧ (¬ r4 ≤ v3 →
      q_X7_isFirstOfLike w h a1 v3 (fun r6 =>
      (r6 = 0 →
        ∀ v8 : Int32, v8 = v3 + (nI 1) →
        B2 v8) ∧ (¬ r6 = 0 →
        Q v3))))) v1
set_option maxRecDepth 100000 in
def q_X7_arrange (w : Nat) (h : hp_H) (a1 a2 : Int32) (Q : hp_H → Prop) : Prop :=
  ∀ v1 : Int32, v1 = ((nI 1) + (a1 * (nI 3))) →
  ∀ v2 : Int32, v2 = ((v1 + a2) - (nI 1)) →
  hp_lp1h (fun v4 h5 B3 =>
    (v4 ≤ v1 →
      Q h5) ∧ (¬ v4 ≤ v1 →
      hp_lp1h (fun v8 h9 B7 =>
        (v4 ≤ v8 →
          ∀ v11 : Int32, v11 = v4 + (-1) →
          B3 v11 h9) ∧ (¬ v4 ≤ v8 →
          vp_in v8 13 ∧
          vp_in (v8 + (nI 1)) 13 ∧
          hp_jn0h (fun K13 =>
            ((h9 w v8.toNatClampNeg) ≤ (h9 w (v8 + (nI 1)).toNatClampNeg) →
              K13 h9) ∧ (¬ (h9 w v8.toNatClampNeg) ≤ (h9 w (v8 + (nI 1)).toNatClampNeg) →
              vp_in v8 13 ∧
              ∀ v15 : Int32, v15 = (h9 w v8.toNatClampNeg) →
              vp_in (v8 + (nI 1)) 13 ∧
              vp_in v8 13 ∧
              ∀ h16 : hp_H, h16 = hp_up h9 w v8.toNatClampNeg (h9 w (v8 + (nI 1)).toNatClampNeg) →
              vp_in (v8 + (nI 1)) 13 ∧
              ∀ h17 : hp_H, h17 = hp_up h16 w (v8 + (nI 1)).toNatClampNeg v15 →
              K13 h17)) (fun h14 =>
            ∀ v18 : Int32, v18 = v8 + (nI 1) →
            B7 v18 h14))) v1 h5)) v2 h
set_option maxRecDepth 100000 in
def q_X8_start (h : hp_H) (Q : hp_H → Prop) : Prop :=
  q_X4_setFirst h (fun h1 =>
  q_X2_begin h1 (fun h2 =>
  Q h2))
set_option maxRecDepth 100000 in
def q_X8_canDo (h : hp_H) (a1 : Int32) (Q : Int32 → Prop) : Prop :=
  vp_in a1 24 ∧
  ∀ v1 : Int32, v1 = (h 27 a1.toNatClampNeg) →
  hp_jn0 (fun K3 =>
    (v1 = (-1) →
      K3) ∧ (¬ v1 = (-1) →
      vp_in v1 80 ∧
      ((h 16 v1.toNatClampNeg) = 0 →
        Q (nI 0)) ∧ (¬ (h 16 v1.toNatClampNeg) = 0 →
        K3))) (
    ∀ v5 : Int32, v5 = (a1 * (nI 4)) →
    hp_lp1 (fun v7 B6 =>
      vp_in a1 24 ∧
      (((a1 * (nI 4)) + (h 28 a1.toNatClampNeg)) ≤ v7 →
        Q (nI 1)) ∧ (¬ ((a1 * (nI 4)) + (h 28 a1.toNatClampNeg)) ≤ v7 →
        vp_in v7 96 ∧
        ∀ v9 : Int32, v9 = (h 30 v7.toNatClampNeg) →
        vp_in v7 96 ∧
        hp_jn0 (fun K11 =>
          ((h 29 v7.toNatClampNeg) = (nI 2) →
            q_X7_held 46 h v9 (fun r12 =>
            vp_in v9 3 ∧
            (r12 < (h 32 v9.toNatClampNeg) →
              K11) ∧ (¬ r12 < (h 32 v9.toNatClampNeg) →
              Q (nI 0)))) ∧ (¬ (h 29 v7.toNatClampNeg) = (nI 2) →
            K11)) (
          vp_in v7 96 ∧
          hp_jn0 (fun K15 =>
            ((h 29 v7.toNatClampNeg) = (nI 3) →
              q_X7_held 46 h v9 (fun r16 =>
              (r16 = 0 →
                Q (nI 0)) ∧ (¬ r16 = 0 →
                K15))) ∧ (¬ (h 29 v7.toNatClampNeg) = (nI 3) →
              K15)) (
            ∀ v18 : Int32, v18 = v7 + (nI 1) →
            B6 v18)))) v5)
set_option maxRecDepth 100000 in
def q_X10_allows (vk vt vl vh vf vn vm : Nat) (h : hp_H) (a1 a2 a3 : Int32) (Q : Int32 → Prop) : Prop :=
  vp_in ((a1 * (h vk 1)) + a2) vm ∧
  (a3 < (h vl ((a1 * (h vk 1)) + a2).toNatClampNeg) →
    Q (nI 0)) ∧ (¬ a3 < (h vl ((a1 * (h vk 1)) + a2).toNatClampNeg) →
    vp_in ((a1 * (h vk 1)) + a2) vm ∧
    ((h vh ((a1 * (h vk 1)) + a2).toNatClampNeg) < a3 →
      Q (nI 0)) ∧ (¬ (h vh ((a1 * (h vk 1)) + a2).toNatClampNeg) < a3 →
      Q (nI 1)))
set_option maxRecDepth 100000 in
def q_X8_giveShared (h : hp_H) (a1 a2 : Int32) (Q : Int32 → hp_H → Prop) : Prop :=
  q_X10_allows 2 3 4 5 6 1 6 h (nI 0) a1 a2 (fun r1 =>
  (r1 = 0 →
    Q (nI 0) h) ∧ (¬ r1 = 0 →
    q_X7_setShared 48 h a1 a2 (fun h3 =>
    Q (nI 1) h3)))
set_option maxRecDepth 100000 in
def q_X8_giveOwn (h : hp_H) (a1 a2 a3 a4 : Int32) (Q : Int32 → hp_H → Prop) : Prop :=
  q_X10_allows 7 8 9 10 11 3 9 h a1 a3 a4 (fun r1 =>
  (r1 = 0 →
    Q (nI 0) h) ∧ (¬ r1 = 0 →
    q_X7_setOwn 48 h a1 a2 a3 a4 (fun h3 =>
    Q (nI 1) h3)))
set_option maxRecDepth 100000 in
def q_X11_isDigit (a0 : Int32) (Q : Int32 → Prop) : Prop :=
  (a0 < 0 →
    Q (nI 0)) ∧ (¬ a0 < 0 →
    ((nI 9) < a0 →
      Q (nI 0)) ∧ (¬ (nI 9) < a0 →
      Q (nI 1)))
set_option maxRecDepth 100000 in
def q_X8_send (h : hp_H) (a1 a2 : Int32) (Q : Int32 → hp_H → Prop) : Prop :=
  q_X11_isDigit a2 (fun r1 =>
  (r1 = 0 →
    Q (nI 0) h) ∧ (¬ r1 = 0 →
    q_X7_put 48 h a1 a2 (fun h3 =>
    Q (nI 1) h3)))
set_option maxRecDepth 100000 in
def q_X8_doActs (h : hp_H) (a1 a2 a3 : Int32) (Q : Int32 → hp_H → Prop) : Prop :=
  hp_lp1h (fun v2 h3 B1 =>
    vp_in a3 24 ∧
    ((h3 28 a3.toNatClampNeg) ≤ v2 →
      Q (nI 1) h3) ∧ (¬ (h3 28 a3.toNatClampNeg) ≤ v2 →
      ∀ v5 : Int32, v5 = ((a3 * (nI 4)) + v2) →
      vp_in v5 96 ∧
      ∀ v6 : Int32, v6 = (h3 30 v5.toNatClampNeg) →
      vp_in v5 96 ∧
      ∀ v7 : Int32, v7 = (h3 29 v5.toNatClampNeg) →
      hp_jn1h (fun K8 =>
        ((v7 = (nI 0)) →
          vp_in v5 96 ∧
          vp_in (h3 31 v5.toNatClampNeg) 80 ∧
          q_X8_giveShared h3 v6 (h3 16 (h3 31 v5.toNatClampNeg).toNatClampNeg) (fun r11 h12 =>
          K8 r11 h12))
        ∧ ((v7 = (nI 1)) →
          vp_in v5 96 ∧
          vp_in (h3 31 v5.toNatClampNeg) 80 ∧
          q_X8_giveOwn h3 a1 a2 v6 (h3 16 (h3 31 v5.toNatClampNeg).toNatClampNeg) (fun r13 h14 =>
          K8 r13 h14))
        ∧ ((v7 = (nI 2)) →
          vp_in v5 96 ∧
          vp_in (h3 31 v5.toNatClampNeg) 80 ∧
          q_X8_send h3 v6 (h3 16 (h3 31 v5.toNatClampNeg).toNatClampNeg) (fun r15 h16 =>
          K8 r15 h16))
        ∧ ((¬ v7 = (nI 0) ∧ ¬ v7 = (nI 1) ∧ ¬ v7 = (nI 2)) →
          vp_in v2 4 ∧
          q_X7_take 48 h3 v6 (h3 49 v2.toNatClampNeg) (fun h17 =>
          vp_in v5 96 ∧
          vp_in v2 4 ∧
          q_X7_letterAt 46 h17 v6 (h17 49 v2.toNatClampNeg) (fun r18 =>
          q_X8_giveOwn h17 a1 a2 (h17 31 v5.toNatClampNeg) r18 (fun r19 h20 =>
          K8 r19 h20))))) (fun v9 h10 =>
        (v9 = 0 →
          Q (nI 0) h10) ∧ (¬ v9 = 0 →
          ∀ v25 : Int32, v25 = v2 + (nI 1) →
          B1 v25 h10)))) (nI 0) h
set_option maxRecDepth 100000 in
def q_X8_takeAlike (h : hp_H) (a1 : Int32) (Q : hp_H → Prop) : Prop :=
  ((h 1 9) = 0 →
    Q h) ∧ (¬ (h 1 9) = 0 →
    vp_in a1 3 ∧
    q_X7_arrange 48 h a1 (h 13 a1.toNatClampNeg) (fun h2 =>
    Q h2))
set_option maxRecDepth 100000 in
def q_X8_pickNext (h : hp_H) (a1 : Int32) (Q : Int32 → hp_H → Prop) : Prop :=
  vp_in a1 24 ∧
  ∀ v1 : Int32, v1 = ((h 28 a1.toNatClampNeg) - (nI 1)) →
  hp_lp1h (fun v3 h4 B2 =>
    (v3 < 0 →
      Q (nI 0) h4) ∧ (¬ v3 < 0 →
      ∀ v6 : Int32, v6 = ((a1 * (nI 4)) + v3) →
      vp_in v6 96 ∧
      ∀ v7 : Int32, v7 = (h4 30 v6.toNatClampNeg) →
      vp_in v6 96 ∧
      hp_jn0h (fun K9 =>
        ((h4 29 v6.toNatClampNeg) = (nI 3) →
          vp_in v7 3 ∧
          ((h4 33 v7.toNatClampNeg) = 0 →
            K9 h4) ∧ (¬ (h4 33 v7.toNatClampNeg) = 0 →
            vp_in v3 4 ∧
            q_X7_nextUnlike 46 h4 v7 (h4 49 v3.toNatClampNeg) (fun r12 =>
            (r12 = (-1) →
              vp_in v3 4 ∧
              ∀ h14 : hp_H, h14 = hp_up h4 49 v3.toNatClampNeg (nI 0) →
              K9 h14) ∧ (¬ r12 = (-1) →
              vp_in v3 4 ∧
              ∀ h15 : hp_H, h15 = hp_up h4 49 v3.toNatClampNeg r12 →
              Q (nI 1) h15)))) ∧ (¬ (h4 29 v6.toNatClampNeg) = (nI 3) →
          K9 h4)) (fun h10 =>
        ∀ v16 : Int32, v16 = v3 + (-1) →
        B2 v16 h10))) v1 h
set_option maxRecDepth 100000 in
def q_X8_goWays (h : hp_H) (a1 a2 a3 : Int32) (Q : hp_H → Prop) : Prop :=
  vp_in a3 24 ∧
  ∀ v1 : Int32, v1 = (h 24 a3.toNatClampNeg) →
  q_J7_fill_53178 49 4 h (nI 0) (fun h2 =>
  hp_lp2h (fun v4 v5 h6 B3 =>
    ((nI 27) ≤ v5 →
      Q h6) ∧ (¬ (nI 27) ≤ v5 →
      (v4 = 0 →
        Q h6) ∧ (¬ v4 = 0 →
        ((h6 35 1) = 0 →
          q_X7_copy 48 46 h6 (fun h10 =>
          q_X8_doActs h10 v1 a2 a3 (fun r11 h12 =>
          hp_jn0h (fun K14 =>
            (r11 = 0 →
              q_X2_noteFault h12 a1 v1 a2 a3 (fun h16 =>
              K14 h16)) ∧ (¬ r11 = 0 →
              vp_in a3 24 ∧
              q_X7_setPlace 48 h12 v1 a2 (h12 26 a3.toNatClampNeg) (fun h17 =>
              q_X8_takeAlike h17 v1 (fun h18 =>
              q_X2_mover v1 a2 a3 (fun r19 =>
              q_X2_addMove h18 a1 r19 (fun h20 =>
              K14 h20)))))) (fun h15 =>
            q_X8_pickNext h15 a3 (fun r21 h22 =>
            ∀ v23 : Int32, v23 = v5 + (nI 1) →
            B3 r21 v23 h22))))) ∧ (¬ (h6 35 1) = 0 →
          Q h6)))) (nI 1) (nI 0) h2)
set_option maxRecDepth 100000 in
def q_X8_goMember (h : hp_H) (a1 a2 a3 : Int32) (Q : hp_H → Prop) : Prop :=
  q_X7_placeOf 46 h a2 a3 (fun r1 =>
  hp_lp2h (fun v3 v4 h5 B2 =>
    ((h5 23 8) ≤ v4 →
      Q h5) ∧ (¬ (h5 23 8) ≤ v4 →
      ((h5 35 1) = 0 →
        vp_in v4 24 ∧
        hp_jn1h (fun K9 =>
          ((h5 24 v4.toNatClampNeg) = a2 →
            vp_in v4 24 ∧
            ((h5 25 v4.toNatClampNeg) = r1 →
              hp_jn1h (fun K14 =>
                (v3 = 0 →
                  q_X1_reckon 46 h5 a2 a3 (hp_shl (nI 1) a2) (fun h17 =>
                  K14 (nI 1) h17)) ∧ (¬ v3 = 0 →
                  K14 v3 h5)) (fun v15 h16 =>
                q_X8_canDo h16 v4 (fun r18 =>
                (r18 = 0 →
                  K9 v15 h16) ∧ (¬ r18 = 0 →
                  q_X8_goWays h16 a1 a3 v4 (fun h20 =>
                  K9 v15 h20))))) ∧ (¬ (h5 25 v4.toNatClampNeg) = r1 →
              K9 v3 h5)) ∧ (¬ (h5 24 v4.toNatClampNeg) = a2 →
            K9 v3 h5)) (fun v10 h11 =>
          ∀ v21 : Int32, v21 = v4 + (nI 1) →
          B2 v10 v21 h11)) ∧ (¬ (h5 35 1) = 0 →
        Q h5))) (nI 0) (nI 0) h)
set_option maxRecDepth 100000 in
def q_X8_lose (h : hp_H) (a1 a2 : Int32) (Q : hp_H → Prop) : Prop :=
  q_X7_nextUnlike 46 h a2 (-1) (fun r1 =>
  hp_lp2h (fun v3 v4 h5 B2 =>
    ((nI 3) ≤ v4 →
      Q h5) ∧ (¬ (nI 3) ≤ v4 →
      (v3 = (-1) →
        Q h5) ∧ (¬ v3 = (-1) →
        ((h5 35 1) = 0 →
          q_X7_copy 48 46 h5 (fun h9 =>
          q_X7_take 48 h9 a2 v3 (fun h10 =>
          q_X2_addMove h10 a1 (-1) (fun h11 =>
          q_X7_nextUnlike 46 h11 a2 v3 (fun r12 =>
          ∀ v13 : Int32, v13 = v4 + (nI 1) →
          B2 r12 v13 h11))))) ∧ (¬ (h5 35 1) = 0 →
          Q h5)))) r1 (nI 0) h)
set_option maxRecDepth 100000 in
def q_X8_goThrough (h : hp_H) (a1 : Int32) (Q : hp_H → Prop) : Prop :=
  q_X2_load 46 h a1 (fun h1 =>
  vp_in a1 401 ∧
  ∀ h2 : hp_H, h2 = hp_up h1 36 a1.toNatClampNeg (h1 35 3) →
  hp_lp1h (fun v4 h5 B3 =>
    ((h5 12 1) ≤ v4 →
      hp_lp1h (fun v8 h9 B7 =>
        hp_jn0 (fun K11 =>
          ((h9 1 8) ≤ v8 →
            K11) ∧ (¬ (h9 1 8) ≤ v8 →
            ((h9 35 1) = 0 →
              vp_in v8 3 ∧
              hp_jn0h (fun K14 =>
                ((h9 34 v8.toNatClampNeg) = 0 →
                  K14 h9) ∧ (¬ (h9 34 v8.toNatClampNeg) = 0 →
                  q_X8_lose h9 a1 v8 (fun h16 =>
                  K14 h16))) (fun h15 =>
                ∀ v17 : Int32, v17 = v8 + (nI 1) →
                B7 v17 h15)) ∧ (¬ (h9 35 1) = 0 →
              K11))) (
          vp_in (a1 + (nI 1)) 401 ∧
          ∀ h18 : hp_H, h18 = hp_up h9 36 (a1 + (nI 1)).toNatClampNeg (h9 35 3) →
          Q h18)) (nI 0) h5) ∧ (¬ (h5 12 1) ≤ v4 →
      hp_lp1h (fun v20 h21 B19 =>
        vp_in v4 3 ∧
        hp_jn0 (fun K23 =>
          ((h21 13 v4.toNatClampNeg) ≤ v20 →
            K23) ∧ (¬ (h21 13 v4.toNatClampNeg) ≤ v20 →
            ((h21 35 1) = 0 →
              q_X8_goMember h21 a1 v4 v20 (fun h25 =>
              ∀ v26 : Int32, v26 = v20 + (nI 1) →
              B19 v26 h25)) ∧ (¬ (h21 35 1) = 0 →
              K23))) (
          ∀ v27 : Int32, v27 = v4 + (nI 1) →
          B3 v27 h21)) (nI 0) h5)) (nI 0) h2)
set_option maxRecDepth 100000 in
def q_X9_has (h : hp_H) (a1 : Int32) (Q : Int32 → Prop) : Prop :=
  (a1 < 0 →
    Q (nI 0)) ∧ (¬ a1 < 0 →
    ((h 23 8) ≤ a1 →
      Q (nI 0)) ∧ (¬ (h 23 8) ≤ a1 →
      Q (nI 1)))
set_option maxRecDepth 100000 in
def q_X9_add (h : hp_H) (a1 a2 a3 a4 : Int32) (Q : Int32 → hp_H → Prop) : Prop :=
  vp_in (h 23 8) 24 ∧
  ∀ h1 : hp_H, h1 = hp_up h 24 (h 23 8).toNatClampNeg a1 →
  vp_in (h1 23 8) 24 ∧
  ∀ h2 : hp_H, h2 = hp_up h1 25 (h1 23 8).toNatClampNeg a2 →
  vp_in (h2 23 8) 24 ∧
  ∀ h3 : hp_H, h3 = hp_up h2 26 (h2 23 8).toNatClampNeg a3 →
  vp_in (h3 23 8) 24 ∧
  ∀ h4 : hp_H, h4 = hp_up h3 27 (h3 23 8).toNatClampNeg a4 →
  ∀ v5 : Int32, v5 = (h4 23 8) →
  ∀ h6 : hp_H, h6 = hp_up h4 23 8 (v5 + (nI 1)) →
  Q v5 h6
set_option maxRecDepth 100000 in
def q_X9_hasLetterAct (h : hp_H) (a1 a2 a3 : Int32) (Q : Int32 → Prop) : Prop :=
  hp_jn0 (fun K2 =>
    (a2 = (nI 2) →
      K2) ∧ (¬ a2 = (nI 2) →
      (a2 = (nI 3) →
        K2) ∧ (¬ a2 = (nI 3) →
        Q (nI 0)))) (
    ∀ v4 : Int32, v4 = (a1 * (nI 4)) →
    hp_lp1 (fun v6 B5 =>
      vp_in a1 24 ∧
      (((a1 * (nI 4)) + (h 28 a1.toNatClampNeg)) ≤ v6 →
        Q (nI 0)) ∧ (¬ ((a1 * (nI 4)) + (h 28 a1.toNatClampNeg)) ≤ v6 →
        vp_in v6 96 ∧
        hp_jn0 (fun K9 =>
          ((h 29 v6.toNatClampNeg) = a2 →
            vp_in v6 96 ∧
            ((h 30 v6.toNatClampNeg) = a3 →
              Q (nI 1)) ∧ (¬ (h 30 v6.toNatClampNeg) = a3 →
              K9)) ∧ (¬ (h 29 v6.toNatClampNeg) = a2 →
            K9)) (
          ∀ v11 : Int32, v11 = v6 + (nI 1) →
          B5 v11))) v4)
set_option maxRecDepth 100000 in
def q_X9_addAct (h : hp_H) (a1 a2 a3 a4 : Int32) (Q : Int32 → hp_H → Prop) : Prop :=
  vp_in a1 24 ∧
  ∀ v1 : Int32, v1 = ((a1 * (nI 4)) + (h 28 a1.toNatClampNeg)) →
  vp_in v1 96 ∧
  ∀ h2 : hp_H, h2 = hp_up h 29 v1.toNatClampNeg a2 →
  vp_in v1 96 ∧
  ∀ h3 : hp_H, h3 = hp_up h2 30 v1.toNatClampNeg a3 →
  vp_in v1 96 ∧
  ∀ h4 : hp_H, h4 = hp_up h3 31 v1.toNatClampNeg a4 →
  vp_in a1 24 ∧
  vp_in a1 24 ∧
  ∀ h5 : hp_H, h5 = hp_up h4 28 a1.toNatClampNeg ((h4 28 a1.toNatClampNeg) + (nI 1)) →
  vp_in a1 24 ∧
  Q (h5 28 a1.toNatClampNeg) h5
set_option maxRecDepth 100000 in
def q_X10_fits (a0 a1 a2 : Int32) (Q : Int32 → Prop) : Prop :=
  (a0 < 0 →
    Q (nI 0)) ∧ (¬ a0 < 0 →
    ((nI 9) < a1 →
      Q (nI 0)) ∧ (¬ (nI 9) < a1 →
      (a2 < a0 →
        Q (nI 0)) ∧ (¬ a2 < a0 →
        (a1 < a2 →
          Q (nI 0)) ∧ (¬ a1 < a2 →
          Q (nI 1)))))
set_option maxRecDepth 100000 in
def q_X10_isFull (vk vt vl vh vf vn vm : Nat) (h : hp_H) (a1 : Int32) (Q : Int32 → Prop) : Prop :=
  vp_in a1 vn ∧
  ((h vt a1.toNatClampNeg) = (h vk 1) →
    Q (nI 1)) ∧ (¬ (h vt a1.toNatClampNeg) = (h vk 1) →
    Q (nI 0))
set_option maxRecDepth 100000 in
def q_X10_add (vk vt vl vh vf vn vm : Nat) (h : hp_H) (a1 a2 a3 a4 : Int32) (Q : Int32 → hp_H → Prop) : Prop :=
  vp_in a1 vn ∧
  ∀ v1 : Int32, v1 = (h vt a1.toNatClampNeg) →
  vp_in a1 vn ∧
  ∀ h2 : hp_H, h2 = hp_up h vt a1.toNatClampNeg (v1 + (nI 1)) →
  vp_in ((a1 * (h2 vk 1)) + v1) vm ∧
  ∀ h3 : hp_H, h3 = hp_up h2 vl ((a1 * (h2 vk 1)) + v1).toNatClampNeg a2 →
  vp_in ((a1 * (h3 vk 1)) + v1) vm ∧
  ∀ h4 : hp_H, h4 = hp_up h3 vh ((a1 * (h3 vk 1)) + v1).toNatClampNeg a3 →
  vp_in ((a1 * (h4 vk 1)) + v1) vm ∧
  ∀ h5 : hp_H, h5 = hp_up h4 vf ((a1 * (h4 vk 1)) + v1).toNatClampNeg a4 →
  Q v1 h5
set_option maxRecDepth 100000 in
def q_X11_endSearch (h : hp_H) (Q : hp_H → Prop) : Prop :=
  q_X2_clear h (fun h1 =>
  q_X0_forget h1 (fun h2 =>
  Q h2))
set_option maxRecDepth 100000 in
def q_X11_shared (h : hp_H) (a1 a2 a3 : Int32) (Q : Int32 → hp_H → Prop) : Prop :=
  q_X10_fits a1 a2 a3 (fun r1 =>
  (r1 = 0 →
    Q (-3) h) ∧ (¬ r1 = 0 →
    q_X10_isFull 2 3 4 5 6 1 6 h (nI 0) (fun r3 =>
    (r3 = 0 →
      q_X11_endSearch h (fun h5 =>
      q_X10_add 2 3 4 5 6 1 6 h5 (nI 0) a1 a2 a3 (fun r6 h7 =>
      Q r6 h7))) ∧ (¬ r3 = 0 →
      Q (-6) h))))
set_option maxRecDepth 100000 in
def q_X11_role (h : hp_H) (a1 : Int32) (Q : Int32 → hp_H → Prop) : Prop :=
  (a1 < (nI 1) →
    Q (-3) h) ∧ (¬ a1 < (nI 1) →
    (a1 ≤ (nI 3) →
      ((h 12 1) = (nI 3) →
        Q (-6) h) ∧ (¬ (h 12 1) = (nI 3) →
        q_X11_endSearch h (fun h4 =>
        q_X6_add h4 a1 (fun r5 h6 =>
        Q r5 h6)))) ∧ (¬ a1 ≤ (nI 3) →
      Q (-3) h))
set_option maxRecDepth 100000 in
def q_X11_own (h : hp_H) (a1 a2 a3 a4 : Int32) (Q : Int32 → hp_H → Prop) : Prop :=
  q_X6_has h a1 (fun r1 =>
  (r1 = 0 →
    Q (-2) h) ∧ (¬ r1 = 0 →
    q_X10_fits a2 a3 a4 (fun r3 =>
    (r3 = 0 →
      Q (-3) h) ∧ (¬ r3 = 0 →
      q_X10_isFull 7 8 9 10 11 3 9 h a1 (fun r5 =>
      (r5 = 0 →
        q_X11_endSearch h (fun h7 =>
        q_X10_add 7 8 9 10 11 3 9 h7 a1 a2 a3 a4 (fun r8 h9 =>
        Q r8 h9))) ∧ (¬ r5 = 0 →
        Q (-6) h))))))
set_option maxRecDepth 100000 in
def q_X11_asNumber (a0 : Int32) (Q : Int32 → Prop) : Prop :=
  (a0 = 0 →
    Q (nI 0)) ∧ (¬ a0 = 0 →
    Q (nI 1))
set_option maxRecDepth 100000 in
def q_X11_end (h : hp_H) (a1 a2 : Int32) (Q : Int32 → hp_H → Prop) : Prop :=
  q_X6_has h a1 (fun r1 =>
  (r1 = 0 →
    Q (-2) h) ∧ (¬ r1 = 0 →
    q_X11_isDigit a2 (fun r3 =>
    (r3 = 0 →
      Q (-3) h) ∧ (¬ r3 = 0 →
      q_X11_endSearch h (fun h5 =>
      q_X6_isEnd h5 a1 a2 (fun r6 =>
      q_X11_asNumber r6 (fun r7 =>
      q_X6_setEnd h5 a1 a2 (fun h8 =>
      Q r7 h8))))))))
set_option maxRecDepth 100000 in
def q_X11_channel (h : hp_H) (a1 a2 a3 : Int32) (Q : Int32 → hp_H → Prop) : Prop :=
  (a1 < (nI 1) →
    Q (-3) h) ∧ (¬ a1 < (nI 1) →
    (a1 ≤ (nI 3) →
      ((h 1 8) = (nI 3) →
        Q (-6) h) ∧ (¬ (h 1 8) = (nI 3) →
        q_X11_endSearch h (fun h4 =>
        q_X4_addChannel h4 a1 a2 a3 (fun r5 h6 =>
        Q r5 h6)))) ∧ (¬ a1 ≤ (nI 3) →
      Q (-3) h))
set_option maxRecDepth 100000 in
def q_X11_expr (h : hp_H) (a1 a2 a3 a4 : Int32) (Q : Int32 → hp_H → Prop) : Prop :=
  (a1 < 0 →
    Q (-3) h) ∧ (¬ a1 < 0 →
    (a1 ≤ (nI 14) →
      q_X4_knowsParts h a1 a2 a3 a4 (fun r3 =>
      (r3 = 0 →
        Q (-2) h) ∧ (¬ r3 = 0 →
        hp_jn0 (fun K6 =>
          (a1 = (nI 2) →
            (a2 < 0 →
              Q (-3) h) ∧ (¬ a2 < 0 →
              (a2 < (nI 3) →
                K6) ∧ (¬ a2 < (nI 3) →
                Q (-3) h))) ∧ (¬ a1 = (nI 2) →
            K6)) (
          hp_jn0 (fun K10 =>
            (a1 = (nI 4) →
              q_X11_isDigit a3 (fun r11 =>
              (r11 = 0 →
                Q (-3) h) ∧ (¬ r11 = 0 →
                K10))) ∧ (¬ a1 = (nI 4) →
              K10)) (
            ((h 15 1) = (nI 80) →
              Q (-6) h) ∧ (¬ (h 15 1) = (nI 80) →
              q_X11_endSearch h (fun h14 =>
              q_X1_add h14 a1 a2 a3 a4 (fun r15 h16 =>
              Q r15 h16)))))))) ∧ (¬ a1 ≤ (nI 14) →
      Q (-3) h))
set_option maxRecDepth 100000 in
def q_X11_step (h : hp_H) (a1 a2 a3 a4 : Int32) (Q : Int32 → hp_H → Prop) : Prop :=
  q_X6_has h a1 (fun r1 =>
  (r1 = 0 →
    Q (-2) h) ∧ (¬ r1 = 0 →
    hp_jn0 (fun K4 =>
      (a4 = (-1) →
        K4) ∧ (¬ a4 = (-1) →
        q_X1_has h a4 (fun r5 =>
        (r5 = 0 →
          Q (-2) h) ∧ (¬ r5 = 0 →
          K4)))) (
      q_X11_isDigit a2 (fun r7 =>
      (r7 = 0 →
        Q (-3) h) ∧ (¬ r7 = 0 →
        q_X11_isDigit a3 (fun r9 =>
        (r9 = 0 →
          Q (-3) h) ∧ (¬ r9 = 0 →
          ((h 23 8) = (nI 24) →
            Q (-6) h) ∧ (¬ (h 23 8) = (nI 24) →
            q_X11_endSearch h (fun h12 =>
            q_X9_add h12 a1 a2 a3 a4 (fun r13 h14 =>
            Q r13 h14))))))))))
set_option maxRecDepth 100000 in
def q_X11_act (h : hp_H) (a1 a2 a3 a4 : Int32) (Q : Int32 → hp_H → Prop) : Prop :=
  (a2 < 0 →
    Q (-3) h) ∧ (¬ a2 < 0 →
    (a2 ≤ (nI 3) →
      q_X9_has h a1 (fun r3 =>
      (r3 = 0 →
        Q (-2) h) ∧ (¬ r3 = 0 →
        q_X4_knowsAct h a1 a2 a3 a4 (fun r5 =>
        (r5 = 0 →
          Q (-2) h) ∧ (¬ r5 = 0 →
          q_X9_hasLetterAct h a1 a2 a3 (fun r7 =>
          (r7 = 0 →
            vp_in a1 24 ∧
            ((h 28 a1.toNatClampNeg) = (nI 4) →
              Q (-6) h) ∧ (¬ (h 28 a1.toNatClampNeg) = (nI 4) →
              q_X11_endSearch h (fun h10 =>
              q_X9_addAct h10 a1 a2 a3 a4 (fun r11 h12 =>
              Q r11 h12)))) ∧ (¬ r7 = 0 →
            Q (-3) h))))))) ∧ (¬ a2 ≤ (nI 3) →
      Q (-3) h))
set_option maxRecDepth 100000 in
def q_X11_alike (h : hp_H) (a1 : Int32) (Q : Int32 → hp_H → Prop) : Prop :=
  q_X11_endSearch h (fun h1 =>
  q_X11_asNumber (h1 1 9) (fun r2 =>
  hp_bz a1 ∧
  ∀ h3 : hp_H, h3 = hp_up h1 1 9 a1 →
  Q r2 h3))
set_option maxRecDepth 100000 in
def q_X11_search (h : hp_H) (Q : Int32 → hp_H → Prop) : Prop :=
  q_X4_isSearchable h (fun r1 h2 =>
  (r1 = 0 →
    Q (-5) h2) ∧ (¬ r1 = 0 →
    hp_jn0h (fun K5 =>
      ((h2 35 0) = 0 →
        q_X8_start h2 (fun h7 =>
        hp_lp1h (fun v9 h10 B8 =>
          ((nI 400) ≤ v9 →
            K5 h10) ∧ (¬ (nI 400) ≤ v9 →
            ((h10 35 2) ≤ v9 →
              K5 h10) ∧ (¬ (h10 35 2) ≤ v9 →
              ((h10 35 1) = 0 →
                q_X8_goThrough h10 v9 (fun h14 =>
                ∀ v15 : Int32, v15 = v9 + (nI 1) →
                B8 v15 h14)) ∧ (¬ (h10 35 1) = 0 →
                K5 h10)))) (nI 0) h7)) ∧ (¬ (h2 35 0) = 0 →
        K5 h2)) (fun h6 =>
      ((h6 35 1) = 0 →
        Q (h6 35 2) h6) ∧ (¬ (h6 35 1) = 0 →
        Q (-7) h6))))
set_option maxRecDepth 100000 in
def q_X11_tells (h : hp_H) (a1 a2 : Int32) (Q : Int32 → hp_H → Prop) : Prop :=
  q_X2_has h a1 (fun r1 =>
  (r1 = 0 →
    Q (-2147483648) h) ∧ (¬ r1 = 0 →
    q_X1_has h a2 (fun r3 =>
    (r3 = 0 →
      Q (-2147483648) h) ∧ (¬ r3 = 0 →
      q_X1_isOwned h a2 (fun r5 =>
      (r5 = 0 →
        q_X5_ask h a2 (fun h7 =>
        q_X5_lookAt h7 a1 (fun h8 =>
        q_X5_answer h8 a2 (fun r9 =>
        Q r9 h8)))) ∧ (¬ r5 = 0 →
        Q (-2147483648) h))))))
set_option maxRecDepth 100000 in
def q_X11_place (h : hp_H) (a1 a2 a3 : Int32) (Q : Int32 → hp_H → Prop) : Prop :=
  q_X2_isUsable h (fun r1 =>
  (r1 = 0 →
    Q (-5) h) ∧ (¬ r1 = 0 →
    q_X2_has h a1 (fun r3 =>
    (r3 = 0 →
      Q (-2) h) ∧ (¬ r3 = 0 →
      q_X6_hasMember h a2 a3 (fun r5 =>
      (r5 = 0 →
        Q (-2) h) ∧ (¬ r5 = 0 →
        q_X5_rowOf h a1 (fun h7 =>
        q_X7_placeOf 52 h7 a2 a3 (fun r8 =>
        Q r8 h7))))))))
set_option maxRecDepth 100000 in
def q_X11_owned (h : hp_H) (a1 a2 a3 a4 : Int32) (Q : Int32 → hp_H → Prop) : Prop :=
  q_X2_isUsable h (fun r1 =>
  (r1 = 0 →
    Q (-5) h) ∧ (¬ r1 = 0 →
    q_X2_has h a1 (fun r3 =>
    (r3 = 0 →
      Q (-2) h) ∧ (¬ r3 = 0 →
      q_X6_hasMember h a2 a3 (fun r5 =>
      (r5 = 0 →
        Q (-2) h) ∧ (¬ r5 = 0 →
        q_X10_has 7 8 9 10 11 3 9 h a2 a4 (fun r7 =>
        (r7 = 0 →
          Q (-2) h) ∧ (¬ r7 = 0 →
          q_X5_rowOf h a1 (fun h9 =>
          q_X7_ownValue 52 h9 a2 a3 a4 (fun r10 =>
          Q r10 h9))))))))))
set_option maxRecDepth 100000 in
def q_X11_letter (h : hp_H) (a1 a2 a3 : Int32) (Q : Int32 → hp_H → Prop) : Prop :=
  q_X2_isUsable h (fun r1 =>
  (r1 = 0 →
    Q (-5) h) ∧ (¬ r1 = 0 →
    q_X2_has h a1 (fun r3 =>
    (r3 = 0 →
      Q (-2) h) ∧ (¬ r3 = 0 →
      q_X4_hasChannel h a2 (fun r5 =>
      (r5 = 0 →
        Q (-2) h) ∧ (¬ r5 = 0 →
        q_X5_rowOf h a1 (fun h7 =>
        (a3 < 0 →
          Q (-1) h7) ∧ (¬ a3 < 0 →
          q_X7_held 52 h7 a2 (fun r9 =>
          (r9 ≤ a3 →
            Q (-1) h7) ∧ (¬ r9 ≤ a3 →
            q_X7_letterAt 52 h7 a2 a3 (fun r11 =>
            Q r11 h7)))))))))))
set_option maxRecDepth 100000 in
def q_X11_moves (h : hp_H) (a1 : Int32) (Q : Int32 → Prop) : Prop :=
  q_X2_isUsable h (fun r1 =>
  (r1 = 0 →
    Q (-5)) ∧ (¬ r1 = 0 →
    q_X2_has h a1 (fun r3 =>
    (r3 = 0 →
      Q (-2)) ∧ (¬ r3 = 0 →
      q_X2_movesFrom h a1 (fun r5 =>
      Q r5)))))
set_option maxRecDepth 100000 in
def q_X11_move (h : hp_H) (a1 a2 a3 : Int32) (Q : Int32 → Prop) : Prop :=
  q_X2_isUsable h (fun r1 =>
  (r1 = 0 →
    Q (-5)) ∧ (¬ r1 = 0 →
    q_X2_has h a1 (fun r3 =>
    (r3 = 0 →
      Q (-2)) ∧ (¬ r3 = 0 →
      (a2 < 0 →
        Q (-2)) ∧ (¬ a2 < 0 →
        q_X2_movesFrom h a1 (fun r6 =>
        (a2 < r6 →
          vp_in a1 401 ∧
          ∀ v8 : Int32, v8 = ((h 36 a1.toNatClampNeg) + a2) →
          ((a3 = (nI 0)) →
            vp_in v8 6000 ∧
            Q (h 37 v8.toNatClampNeg))
          ∧ ((a3 = (nI 1)) →
            q_X2_roleOfMove h v8 (fun r9 =>
            Q r9))
          ∧ ((a3 = (nI 2)) →
            q_X2_memberOfMove h v8 (fun r10 =>
            Q r10))
          ∧ ((a3 = (nI 3)) →
            q_X2_stepOfMove h v8 (fun r11 =>
            Q r11))
          ∧ ((¬ a3 = (nI 0) ∧ ¬ a3 = (nI 1) ∧ ¬ a3 = (nI 2) ∧ ¬ a3 = (nI 3)) →
            Q (-3))) ∧ (¬ a2 < r6 →
          Q (-2))))))))
set_option maxRecDepth 100000 in
def q_X11_depth (h : hp_H) (a1 : Int32) (Q : Int32 → Prop) : Prop :=
  q_X2_isUsable h (fun r1 =>
  (r1 = 0 →
    Q (-5)) ∧ (¬ r1 = 0 →
    q_X2_has h a1 (fun r3 =>
    (r3 = 0 →
      Q (-2)) ∧ (¬ r3 = 0 →
      vp_in a1 400 ∧
      Q (h 38 a1.toNatClampNeg)))))
set_option maxRecDepth 100000 in
def q_X11_came (h : hp_H) (a1 a2 : Int32) (Q : Int32 → Prop) : Prop :=
  q_X2_isUsable h (fun r1 =>
  (r1 = 0 →
    Q (-5)) ∧ (¬ r1 = 0 →
    q_X2_has h a1 (fun r3 =>
    (r3 = 0 →
      Q (-2)) ∧ (¬ r3 = 0 →
      ((a2 = (nI 0)) →
        vp_in a1 400 ∧
        Q (h 39 a1.toNatClampNeg))
      ∧ ((a2 = (nI 1)) →
        vp_in a1 400 ∧
        Q (h 40 a1.toNatClampNeg))
      ∧ ((¬ a2 = (nI 0) ∧ ¬ a2 = (nI 1)) →
        Q (-3))))))
set_option maxRecDepth 100000 in
def q_X11_stuck (h : hp_H) (Q : Int32 → hp_H → Prop) : Prop :=
  q_X2_isUsable h (fun r1 =>
  (r1 = 0 →
    Q (-5) h) ∧ (¬ r1 = 0 →
    hp_lp1h (fun v4 h5 B3 =>
      ((h5 35 2) ≤ v4 →
        Q (-1) h5) ∧ (¬ (h5 35 2) ≤ v4 →
        q_X2_hasMemberMove h5 v4 (fun r7 =>
        hp_jn0h (fun K9 =>
          (r7 = 0 →
            q_X5_rowOf h5 v4 (fun h11 =>
            q_X4_someAtNoEnd h11 (fun r12 =>
            (r12 = 0 →
              K9 h11) ∧ (¬ r12 = 0 →
              Q v4 h11)))) ∧ (¬ r7 = 0 →
            K9 h5)) (fun h10 =>
          ∀ v14 : Int32, v14 = v4 + (nI 1) →
          B3 v14 h10)))) (nI 0) h))
set_option maxRecDepth 100000 in
def q_X11_fault (h : hp_H) (a1 : Int32) (Q : Int32 → Prop) : Prop :=
  (a1 < 0 →
    Q (-3)) ∧ (¬ a1 < 0 →
    (a1 ≤ (nI 3) →
      q_X2_isUsable h (fun r3 =>
      (r3 = 0 →
        Q (-5)) ∧ (¬ r3 = 0 →
        ((a1 = (nI 0)) →
          Q (h 35 4))
        ∧ ((a1 = (nI 1)) →
          Q (h 35 5))
        ∧ ((a1 = (nI 2)) →
          Q (h 35 6))
        ∧ ((¬ a1 = (nI 0) ∧ ¬ a1 = (nI 1) ∧ ¬ a1 = (nI 2)) →
          Q (h 35 7))))) ∧ (¬ a1 ≤ (nI 3) →
      Q (-3)))
set_option maxRecDepth 100000 in
def q_X11_refusalOfPlain (h : hp_H) (a1 : Int32) (Q : Int32 → Prop) : Prop :=
  q_X1_has h a1 (fun r1 =>
  (r1 = 0 →
    Q (-2)) ∧ (¬ r1 = 0 →
    q_X1_isOwned h a1 (fun r3 =>
    (r3 = 0 →
      Q (nI 0)) ∧ (¬ r3 = 0 →
      Q (-4)))))
set_option maxRecDepth 100000 in
def q_X11_always (h : hp_H) (a1 : Int32) (Q : Int32 → hp_H → Prop) : Prop :=
  q_X11_refusalOfPlain h a1 (fun r1 =>
  (r1 = 0 →
    q_X2_isUsable h (fun r3 =>
    (r3 = 0 →
      Q (-5) h) ∧ (¬ r3 = 0 →
      q_X5_ask h a1 (fun h5 =>
      hp_lp1h (fun v7 h8 B6 =>
        ((h8 35 2) ≤ v7 →
          Q (-1) h8) ∧ (¬ (h8 35 2) ≤ v7 →
          q_X5_lookAt h8 v7 (fun h10 =>
          q_X5_answer h10 a1 (fun r11 =>
          (r11 = 0 →
            Q v7 h10) ∧ (¬ r11 = 0 →
            ∀ v13 : Int32, v13 = v7 + (nI 1) →
            B6 v13 h10))))) (nI 0) h5)))) ∧ (¬ r1 = 0 →
    Q r1 h))
set_option maxRecDepth 100000 in
def q_X11_again (h : hp_H) (a1 a2 : Int32) (Q : Int32 → hp_H → Prop) : Prop :=
  q_X11_refusalOfPlain h a1 (fun r1 =>
  (r1 = 0 →
    q_X2_isUsable h (fun r3 =>
    (r3 = 0 →
      Q (-5) h) ∧ (¬ r3 = 0 →
      hp_jn0 (fun K6 =>
        (a2 = 0 →
          K6) ∧ (¬ a2 = 0 →
          ((h 1 9) = 0 →
            K6) ∧ (¬ (h 1 9) = 0 →
            Q (-5) h))) (
        q_X3_breakerOfAgain h a1 a2 (fun r8 h9 =>
        Q r8 h9))))) ∧ (¬ r1 = 0 →
    Q r1 h))
set_option maxRecDepth 100000 in
def q_X11_fromTo (h : hp_H) (a1 a2 a3 : Int32) (Q : Int32 → hp_H → Prop) : Prop :=
  q_X1_has h a1 (fun r1 =>
  (r1 = 0 →
    Q (-2) h) ∧ (¬ r1 = 0 →
    q_X1_has h a2 (fun r3 =>
    (r3 = 0 →
      Q (-2) h) ∧ (¬ r3 = 0 →
      q_X1_isOwned h a1 (fun r5 =>
      (r5 = 0 →
        q_X1_isOwned h a2 (fun r7 =>
        (r7 = 0 →
          q_X2_isUsable h (fun r9 =>
          (r9 = 0 →
            Q (-5) h) ∧ (¬ r9 = 0 →
            hp_jn0 (fun K12 =>
              (a3 = 0 →
                K12) ∧ (¬ a3 = 0 →
                ((h 1 9) = 0 →
                  K12) ∧ (¬ (h 1 9) = 0 →
                  Q (-5) h))) (
              q_X3_breakerOfFromTo h a1 a2 a3 (fun r14 h15 =>
              Q r14 h15))))) ∧ (¬ r7 = 0 →
          Q (-4) h))) ∧ (¬ r5 = 0 →
        Q (-4) h))))))
set_option maxRecDepth 100000 in
def q_X11_observe (h : hp_H) (a1 : Int32) (Q : Int32 → hp_H → Prop) : Prop :=
  q_X11_refusalOfPlain h a1 (fun r1 =>
  (r1 = 0 →
    q_X0_observes h a1 (fun r3 =>
    (r3 = 0 →
      ((h 64 0) = (nI 8) →
        Q (-6) h) ∧ (¬ (h 64 0) = (nI 8) →
        q_X0_addObserved h a1 (fun r6 h7 =>
        Q r6 h7))) ∧ (¬ r3 = 0 →
      Q (-3) h))) ∧ (¬ r1 = 0 →
    Q r1 h))
set_option maxRecDepth 100000 in
def q_X11_classes (h : hp_H) (Q : Int32 → hp_H → Prop) : Prop :=
  q_X2_isUsable h (fun r1 =>
  (r1 = 0 →
    Q (-5) h) ∧ (¬ r1 = 0 →
    q_X0_makeSure h (fun h3 =>
    Q (h3 64 1) h3)))
set_option maxRecDepth 100000 in
def q_X11_classOf (h : hp_H) (a1 : Int32) (Q : Int32 → hp_H → Prop) : Prop :=
  q_X2_isUsable h (fun r1 =>
  (r1 = 0 →
    Q (-5) h) ∧ (¬ r1 = 0 →
    q_X2_has h a1 (fun r3 =>
    (r3 = 0 →
      Q (-2) h) ∧ (¬ r3 = 0 →
      q_X0_makeSure h (fun h5 =>
      ∀ w6 : Nat, w6 = 65 + (h5 hp_V 0).toNatClampNeg → (w6 = 65 ∨ w6 = 68) ∧
      vp_in a1 400 ∧
      Q (h5 w6 a1.toNatClampNeg) h5)))))
set_option maxRecDepth 100000 in
def q_X11_count (h : hp_H) (a1 : Int32) (Q : Int32 → Prop) : Prop :=
  ((a1 = (nI 0)) →
    vp_in (nI 0) 1 ∧
    Q (h 3 (nI 0).toNatClampNeg))
  ∧ ((a1 = (nI 1)) →
    Q (h 12 1))
  ∧ ((a1 = (nI 2)) →
    Q (h 1 8))
  ∧ ((a1 = (nI 3)) →
    Q (h 15 1))
  ∧ ((a1 = (nI 4)) →
    Q (h 23 8))
  ∧ ((a1 = (nI 5)) →
    Q (h 64 0))
  ∧ ((a1 = (nI 6)) →
    Q (h 35 2))
  ∧ ((a1 = (nI 7)) →
    q_X11_asNumber (h 35 1) (fun r1 =>
    Q r1))
  ∧ ((¬ a1 = (nI 0) ∧ ¬ a1 = (nI 1) ∧ ¬ a1 = (nI 2) ∧ ¬ a1 = (nI 3) ∧ ¬ a1 = (nI 4) ∧ ¬ a1 = (nI 5) ∧ ¬ a1 = (nI 6) ∧ ¬ a1 = (nI 7)) →
    Q (-3))
