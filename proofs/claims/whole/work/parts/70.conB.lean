theorem dX0_observes_0 : decode cX0_observes 0 = .ok (.iconst 0, 1) := by decide +kernel
theorem dX0_observes_1 : decode cX0_observes 1 = .ok (.istore_n 2, 1) := by decide +kernel
theorem dX0_observes_2 : decode cX0_observes 2 = .ok (.iload_n 2, 1) := by decide +kernel
theorem dX0_observes_3 : decode cX0_observes 3 = .ok (.aload_n 0, 1) := by decide +kernel
theorem dX0_observes_4 : decode cX0_observes 4 = .ok (.getfield 41, 3) := by decide +kernel
theorem dX0_observes_7 : decode cX0_observes 7 = .ok (.if_icmp .ge 21, 3) := by decide +kernel
theorem dX0_observes_10 : decode cX0_observes 10 = .ok (.aload_n 0, 1) := by decide +kernel
theorem dX0_observes_11 : decode cX0_observes 11 = .ok (.getfield 15, 3) := by decide +kernel
theorem dX0_observes_14 : decode cX0_observes 14 = .ok (.iload_n 2, 1) := by decide +kernel
theorem dX0_observes_15 : decode cX0_observes 15 = .ok (.iaload, 1) := by decide +kernel
theorem dX0_observes_16 : decode cX0_observes 16 = .ok (.iload_n 1, 1) := by decide +kernel
theorem dX0_observes_17 : decode cX0_observes 17 = .ok (.if_icmp .ne 5, 3) := by decide +kernel
theorem dX0_observes_20 : decode cX0_observes 20 = .ok (.iconst 1, 1) := by decide +kernel
theorem dX0_observes_21 : decode cX0_observes 21 = .ok (.ireturn, 1) := by decide +kernel
theorem dX0_observes_22 : decode cX0_observes 22 = .ok (.iinc 2 1, 3) := by decide +kernel
theorem dX0_observes_25 : decode cX0_observes 25 = .ok (.goto (-23), 3) := by decide +kernel
theorem dX0_observes_28 : decode cX0_observes 28 = .ok (.iconst 0, 1) := by decide +kernel
theorem dX0_observes_29 : decode cX0_observes 29 = .ok (.ireturn, 1) := by decide +kernel
set_option maxHeartbeats 4000000 in
set_option maxRecDepth 100000 in
theorem c_X0_observes (l : Launch) {cs : Nat → ClassId} {ad : Nat → Nat} {A : Nat → Prop} {D : va_G} (hJ : hp_J SB ad A)   {h : hp_H} {a1 : Int32} {Q : Int32 → Prop} (hq : q_X0_observes h a1 Q) : hp_Mi l yX0_observes cX0_observes 3 (some .boolean) rm_X0_observes [.ref (ad 64), .int a1] SB cs ad A D h (fun r h' => Q r ∧ h' = h) := by
  refine hp_met (own := RX0) rfl (by decide) (Nat.le_of_ble_eq_true rfl) rfl (fun p e s m args below meth c Z E hZ hnm => ?_)
  refine hp_sub (lv' := [(0, .ref (ad 64)), (1, .int a1)]) [0, 1] rfl ?_
  unfold q_X0_observes at hq
  refine hp_iconst E (nI 0) dX0_observes_0 (by decide) ?_
  refine hp_istore_n (lv' := [(0, .ref (ad 64)), (1, .int a1), (2, .int (nI 0))]) E dX0_observes_1 rfl (by decide) rfl rfl ?_
  refine hq (fun v2 => hp_G p l e rm_X0_observes s m args below meth c SB cs ad A D 3 0 0 Z 2 [(0, .ref (ad 64)), (1, .int a1), (2, .int v2)] [] h) (fun v2 hB => ?_)
  obtain ⟨B1, hq, hB1⟩ := hB
  refine hp_iload_n E 2 dX0_observes_2 rfl rfl ?_
  refine hp_aload_n E 0 dX0_observes_3 rfl rfl ?_
  refine hp_gI E g_RX0_41 fB_64_0 dX0_observes_4 ?_
  refine hp_icmp_ge E 28 dX0_observes_7 (by decide) (fun c3 => ?_) (fun c3 => ?_)
  · replace hq := hq.1 c3
    refine hp_iconst E (nI 0) dX0_observes_28 (by decide) ?_
    exact hp_zret E (by unfold hp_bz; decide) ⟨hq, rfl⟩ hZ dX0_observes_29
  · replace hq := hq.2 c3
    refine hp_aload_n E 0 dX0_observes_10 rfl rfl ?_
    refine hp_gR E g_RX0_15 fB_64_5 dX0_observes_11 ?_
    refine hp_iload_n E 2 dX0_observes_14 rfl rfl ?_
    refine hp_iald E 66 aB_66 hq.1 dX0_observes_15 ?_
    replace hq := hq.2
    refine hp_iload_n E 1 dX0_observes_16 rfl rfl ?_
    refine hp_icmp_ne E 22 dX0_observes_17 (by decide) (fun c4 => ?_) (fun c4 => ?_)
    · replace hq := hq.2 c4
      obtain ⟨v5, ev5⟩ : ∃ z : Int32, z = v2 + (nI 1) := ⟨_, rfl⟩
      replace hq := hq v5 ev5
      refine hp_iinc (lv' := [(0, .ref (ad 64)), (1, .int a1), (2, .int v5)]) E 2 v5 dX0_observes_22 rfl (by rw [ev5]; rfl) (by decide) rfl rfl ?_
      refine hp_goto E 2 dX0_observes_25 (by decide) ?_
      exact hB1 _ hq
    · replace hq := hq.1 c4
      refine hp_iconst E (nI 1) dX0_observes_20 (by decide) ?_
      exact hp_zret E (by unfold hp_bz; decide) ⟨hq, rfl⟩ hZ dX0_observes_21
theorem dX0_addObserved_0 : decode cX0_addObserved 0 = .ok (.aload_n 0, 1) := by decide +kernel
theorem dX0_addObserved_1 : decode cX0_addObserved 1 = .ok (.getfield 15, 3) := by decide +kernel
theorem dX0_addObserved_4 : decode cX0_addObserved 4 = .ok (.aload_n 0, 1) := by decide +kernel
theorem dX0_addObserved_5 : decode cX0_addObserved 5 = .ok (.dup, 1) := by decide +kernel
theorem dX0_addObserved_6 : decode cX0_addObserved 6 = .ok (.getfield 41, 3) := by decide +kernel
theorem dX0_addObserved_9 : decode cX0_addObserved 9 = .ok (.dup_x1, 1) := by decide +kernel
theorem dX0_addObserved_10 : decode cX0_addObserved 10 = .ok (.iconst 1, 1) := by decide +kernel
theorem dX0_addObserved_11 : decode cX0_addObserved 11 = .ok (.iadd, 1) := by decide +kernel
theorem dX0_addObserved_12 : decode cX0_addObserved 12 = .ok (.putfield 41, 3) := by decide +kernel
theorem dX0_addObserved_15 : decode cX0_addObserved 15 = .ok (.iload_n 1, 1) := by decide +kernel
theorem dX0_addObserved_16 : decode cX0_addObserved 16 = .ok (.iastore, 1) := by decide +kernel
theorem dX0_addObserved_17 : decode cX0_addObserved 17 = .ok (.aload_n 0, 1) := by decide +kernel
theorem dX0_addObserved_18 : decode cX0_addObserved 18 = .ok (.iconst 0, 1) := by decide +kernel
theorem dX0_addObserved_19 : decode cX0_addObserved 19 = .ok (.putfield 45, 3) := by decide +kernel
theorem dX0_addObserved_22 : decode cX0_addObserved 22 = .ok (.aload_n 0, 1) := by decide +kernel
theorem dX0_addObserved_23 : decode cX0_addObserved 23 = .ok (.getfield 41, 3) := by decide +kernel
theorem dX0_addObserved_26 : decode cX0_addObserved 26 = .ok (.ireturn, 1) := by decide +kernel
set_option maxHeartbeats 4000000 in
set_option maxRecDepth 100000 in
theorem c_X0_addObserved (l : Launch) {cs : Nat → ClassId} {ad : Nat → Nat} {A : Nat → Prop} {D : va_G} (hJ : hp_J SB ad A)   {h : hp_H} {a1 : Int32} {Q : Int32 → hp_H → Prop} (hq : q_X0_addObserved h a1 Q) : hp_Mi l yX0_addObserved cX0_addObserved 2 (some .int) rm_X0_addObserved [.ref (ad 64), .int a1] SB cs ad A D h Q := by
  refine hp_met (own := RX0) rfl (by decide) (Nat.le_of_ble_eq_true rfl) rfl (fun p e s m args below meth c Z E hZ hnm => ?_)
  refine hp_sub (lv' := [(0, .ref (ad 64)), (1, .int a1)]) [0, 1] rfl ?_
  unfold q_X0_addObserved at hq
  refine hp_aload_n E 0 dX0_addObserved_0 rfl rfl ?_
  refine hp_gR E g_RX0_15 fB_64_5 dX0_addObserved_1 ?_
  refine hp_aload_n E 0 dX0_addObserved_4 rfl rfl ?_
  refine hp_dup E rfl dX0_addObserved_5 ?_
  refine hp_gI E g_RX0_41 fB_64_0 dX0_addObserved_6 ?_
  refine hp_topi (fun v1 ev1 => ?_)
  replace hq := hq v1 ev1
  refine hp_dup_x1 E rfl rfl dX0_addObserved_9 ?_
  refine hp_iconst E (nI 1) dX0_addObserved_10 (by decide) ?_
  refine hp_iadd E dX0_addObserved_11 ?_
  refine hp_pI E p_RX0_41 fB_64_0 (by decide) hJ dX0_addObserved_12 ?_
  refine hp_toph (fun h2 eh2 => ?_)
  replace hq := hq h2 eh2
  refine hp_iload_n E 1 dX0_addObserved_15 rfl rfl ?_
  have hin := hq.1
  replace hq := hq.2
  refine hp_iast E 66 aB_66 zB_66 hJ hin dX0_addObserved_16 ?_
  refine hp_toph (fun h3 eh3 => ?_)
  replace hq := hq h3 eh3
  refine hp_aload_n E 0 dX0_addObserved_17 rfl rfl ?_
  refine hp_iconst E (nI 0) dX0_addObserved_18 (by decide) ?_
  refine hp_pZ E p_RX0_45 fB_64_11 (by decide) hJ (by unfold hp_bz; decide) dX0_addObserved_19 ?_
  refine hp_toph (fun h4 eh4 => ?_)
  replace hq := hq h4 eh4
  refine hp_aload_n E 0 dX0_addObserved_22 rfl rfl ?_
  refine hp_gI E g_RX0_41 fB_64_0 dX0_addObserved_23 ?_
  exact hp_iret E hq hZ dX0_addObserved_26
theorem dX0_forget_0 : decode cX0_forget 0 = .ok (.aload_n 0, 1) := by decide +kernel
theorem dX0_forget_1 : decode cX0_forget 1 = .ok (.iconst 0, 1) := by decide +kernel
theorem dX0_forget_2 : decode cX0_forget 2 = .ok (.putfield 45, 3) := by decide +kernel
theorem dX0_forget_5 : decode cX0_forget 5 = .ok (.return_, 1) := by decide +kernel
set_option maxHeartbeats 4000000 in
set_option maxRecDepth 100000 in
theorem c_X0_forget (l : Launch) {cs : Nat → ClassId} {ad : Nat → Nat} {A : Nat → Prop} {D : va_G} (hJ : hp_J SB ad A)   {h : hp_H} {Q : hp_H → Prop} (hq : q_X0_forget h Q) : hp_Mv l yX0_forget cX0_forget 1 none rm_X0_forget [.ref (ad 64)] SB cs ad A D h Q := by
  refine hp_met (own := RX0) rfl (by decide) (Nat.le_of_ble_eq_true rfl) rfl (fun p e s m args below meth c Z E hZ hnm => ?_)
  refine hp_sub (lv' := [(0, .ref (ad 64))]) [0] rfl ?_
  unfold q_X0_forget at hq
  refine hp_aload_n E 0 dX0_forget_0 rfl rfl ?_
  refine hp_iconst E (nI 0) dX0_forget_1 (by decide) ?_
  refine hp_pZ E p_RX0_45 fB_64_11 (by decide) hJ (by unfold hp_bz; decide) dX0_forget_2 ?_
  refine hp_toph (fun h1 eh1 => ?_)
  replace hq := hq h1 eh1
  exact hp_vret E hq hZ dX0_forget_5
theorem dJ7_fill_53178_0 : decode cJ7_fill_53178 0 = .ok (.iconst 0, 1) := by decide +kernel
theorem dJ7_fill_53178_1 : decode cJ7_fill_53178 1 = .ok (.istore_n 2, 1) := by decide +kernel
theorem dJ7_fill_53178_2 : decode cJ7_fill_53178 2 = .ok (.aload_n 0, 1) := by decide +kernel
theorem dJ7_fill_53178_3 : decode cJ7_fill_53178 3 = .ok (.arraylength, 1) := by decide +kernel
theorem dJ7_fill_53178_4 : decode cJ7_fill_53178 4 = .ok (.istore_n 3, 1) := by decide +kernel
theorem dJ7_fill_53178_5 : decode cJ7_fill_53178 5 = .ok (.iload_n 2, 1) := by decide +kernel
theorem dJ7_fill_53178_6 : decode cJ7_fill_53178 6 = .ok (.iload_n 3, 1) := by decide +kernel
theorem dJ7_fill_53178_7 : decode cJ7_fill_53178 7 = .ok (.if_icmp .ge 13, 3) := by decide +kernel
theorem dJ7_fill_53178_10 : decode cJ7_fill_53178 10 = .ok (.aload_n 0, 1) := by decide +kernel
theorem dJ7_fill_53178_11 : decode cJ7_fill_53178 11 = .ok (.iload_n 2, 1) := by decide +kernel
theorem dJ7_fill_53178_12 : decode cJ7_fill_53178 12 = .ok (.iload_n 1, 1) := by decide +kernel
theorem dJ7_fill_53178_13 : decode cJ7_fill_53178 13 = .ok (.iastore, 1) := by decide +kernel
theorem dJ7_fill_53178_14 : decode cJ7_fill_53178 14 = .ok (.iinc 2 1, 3) := by decide +kernel
theorem dJ7_fill_53178_17 : decode cJ7_fill_53178 17 = .ok (.goto (-12), 3) := by decide +kernel
theorem dJ7_fill_53178_20 : decode cJ7_fill_53178 20 = .ok (.return_, 1) := by decide +kernel
set_option maxHeartbeats 4000000 in
set_option maxRecDepth 100000 in
theorem c_J7_fill_53178 (l : Launch) {cs : Nat → ClassId} {ad : Nat → Nat} {A : Nat → Prop} {D : va_G} (hJ : hp_J SB ad A) {x0 : Nat} {nx0 : Nat} (hx0 : SB[x0]? = some (.inr (0, nx0))) (hzx0 : x0 ≠ hp_V) {h : hp_H} {a1 : Int32} {Q : hp_H → Prop} (hq : q_J7_fill_53178 x0 nx0 h a1 Q) : hp_Mv l yJ7_fill_53178 cJ7_fill_53178 4 none rm_J7_fill_53178 [.ref (ad x0), .int a1] SB cs ad A D h Q := by
  refine hp_met (own := RJ7) rfl (by decide) (Nat.le_of_ble_eq_true rfl) rfl (fun p e s m args below meth c Z E hZ hnm => ?_)
  refine hp_sub (lv' := [(0, .ref (ad x0)), (1, .int a1)]) [0, 1] rfl ?_
  unfold q_J7_fill_53178 at hq
  refine hp_iconst E (nI 0) dJ7_fill_53178_0 (by decide) ?_
  refine hp_istore_n (lv' := [(0, .ref (ad x0)), (1, .int a1), (2, .int (nI 0))]) E dJ7_fill_53178_1 rfl (by decide) rfl rfl ?_
  refine hp_aload_n E 0 dJ7_fill_53178_2 rfl rfl ?_
  refine hp_alen E x0 hx0 dJ7_fill_53178_3 ?_
  refine hp_topi (fun v1 ev1 => ?_)
  replace hq := hq v1 ev1
  refine hp_istore_n (lv' := [(0, .ref (ad x0)), (1, .int a1), (2, .int (nI 0)), (3, .int v1)]) E dJ7_fill_53178_4 rfl (by decide) rfl rfl ?_
  refine hq (fun v3 h4 => hp_G p l e rm_J7_fill_53178 s m args below meth c SB cs ad A D 4 0 0 Z 5 [(0, .ref (ad x0)), (1, .int a1), (2, .int v3), (3, .int v1)] [] h4) (fun v3 h4 hB => ?_)
  obtain ⟨B2, hq, hB2⟩ := hB
  refine hp_iload_n E 2 dJ7_fill_53178_5 rfl rfl ?_
  refine hp_iload_n E 3 dJ7_fill_53178_6 rfl rfl ?_
  refine hp_icmp_ge E 20 dJ7_fill_53178_7 (by decide) (fun c5 => ?_) (fun c5 => ?_)
  · replace hq := hq.1 c5
    exact hp_vret E hq hZ dJ7_fill_53178_20
  · replace hq := hq.2 c5
    refine hp_aload_n E 0 dJ7_fill_53178_10 rfl rfl ?_
    refine hp_iload_n E 2 dJ7_fill_53178_11 rfl rfl ?_
    refine hp_iload_n E 1 dJ7_fill_53178_12 rfl rfl ?_
    have hin := hq.1
    replace hq := hq.2
    refine hp_iast E x0 hx0 hzx0 hJ hin dJ7_fill_53178_13 ?_
    refine hp_toph (fun h6 eh6 => ?_)
    replace hq := hq h6 eh6
    obtain ⟨v7, ev7⟩ : ∃ z : Int32, z = v3 + (nI 1) := ⟨_, rfl⟩
    replace hq := hq v7 ev7
    refine hp_iinc (lv' := [(0, .ref (ad x0)), (1, .int a1), (2, .int v7), (3, .int v1)]) E 2 v7 dJ7_fill_53178_14 rfl (by rw [ev7]; rfl) (by decide) rfl rfl ?_
    refine hp_goto E 5 dJ7_fill_53178_17 (by decide) ?_
    exact hB2 _ _ hq
theorem dX1_dropUse_0 : decode cX1_dropUse 0 = .ok (.iconst 0, 1) := by decide +kernel
theorem dX1_dropUse_1 : decode cX1_dropUse 1 = .ok (.istore_n 2, 1) := by decide +kernel
theorem dX1_dropUse_2 : decode cX1_dropUse 2 = .ok (.iload_n 2, 1) := by decide +kernel
theorem dX1_dropUse_3 : decode cX1_dropUse 3 = .ok (.aload_n 0, 1) := by decide +kernel
theorem dX1_dropUse_4 : decode cX1_dropUse 4 = .ok (.getfield 38, 3) := by decide +kernel
theorem dX1_dropUse_7 : decode cX1_dropUse 7 = .ok (.if_icmp .ge 21, 3) := by decide +kernel
theorem dX1_dropUse_10 : decode cX1_dropUse 10 = .ok (.aload_n 0, 1) := by decide +kernel
theorem dX1_dropUse_11 : decode cX1_dropUse 11 = .ok (.getfield 27, 3) := by decide +kernel
theorem dX1_dropUse_14 : decode cX1_dropUse 14 = .ok (.iload_n 2, 1) := by decide +kernel
theorem dX1_dropUse_15 : decode cX1_dropUse 15 = .ok (.dup2, 1) := by decide +kernel
theorem dX1_dropUse_16 : decode cX1_dropUse 16 = .ok (.iaload, 1) := by decide +kernel
theorem dX1_dropUse_17 : decode cX1_dropUse 17 = .ok (.iload_n 1, 1) := by decide +kernel
theorem dX1_dropUse_18 : decode cX1_dropUse 18 = .ok (.iconst (-1), 1) := by decide +kernel
theorem dX1_dropUse_19 : decode cX1_dropUse 19 = .ok (.ixor, 1) := by decide +kernel
theorem dX1_dropUse_20 : decode cX1_dropUse 20 = .ok (.iand, 1) := by decide +kernel
theorem dX1_dropUse_21 : decode cX1_dropUse 21 = .ok (.iastore, 1) := by decide +kernel
theorem dX1_dropUse_22 : decode cX1_dropUse 22 = .ok (.iinc 2 1, 3) := by decide +kernel
theorem dX1_dropUse_25 : decode cX1_dropUse 25 = .ok (.goto (-23), 3) := by decide +kernel
theorem dX1_dropUse_28 : decode cX1_dropUse 28 = .ok (.return_, 1) := by decide +kernel
set_option maxHeartbeats 4000000 in
set_option maxRecDepth 100000 in
theorem c_X1_dropUse (l : Launch) {cs : Nat → ClassId} {ad : Nat → Nat} {A : Nat → Prop} {D : va_G} (hJ : hp_J SB ad A)   {h : hp_H} {a1 : Int32} {Q : hp_H → Prop} (hq : q_X1_dropUse h a1 Q) : hp_Mv l yX1_dropUse cX1_dropUse 3 none rm_X1_dropUse [.ref (ad 15), .int a1] SB cs ad A D h Q := by
  refine hp_met (own := RX1) rfl (by decide) (Nat.le_of_ble_eq_true rfl) rfl (fun p e s m args below meth c Z E hZ hnm => ?_)
  refine hp_sub (lv' := [(0, .ref (ad 15)), (1, .int a1)]) [0, 1] rfl ?_
  unfold q_X1_dropUse at hq
  refine hp_iconst E (nI 0) dX1_dropUse_0 (by decide) ?_
  refine hp_istore_n (lv' := [(0, .ref (ad 15)), (1, .int a1), (2, .int (nI 0))]) E dX1_dropUse_1 rfl (by decide) rfl rfl ?_
  refine hq (fun v2 h3 => hp_G p l e rm_X1_dropUse s m args below meth c SB cs ad A D 3 0 0 Z 2 [(0, .ref (ad 15)), (1, .int a1), (2, .int v2)] [] h3) (fun v2 h3 hB => ?_)
  obtain ⟨B1, hq, hB1⟩ := hB
  refine hp_iload_n E 2 dX1_dropUse_2 rfl rfl ?_
  refine hp_aload_n E 0 dX1_dropUse_3 rfl rfl ?_
  refine hp_gI E g_RX1_38 fB_15_1 dX1_dropUse_4 ?_
  refine hp_icmp_ge E 28 dX1_dropUse_7 (by decide) (fun c4 => ?_) (fun c4 => ?_)
  · replace hq := hq.1 c4
    exact hp_vret E hq hZ dX1_dropUse_28
  · replace hq := hq.2 c4
    refine hp_aload_n E 0 dX1_dropUse_10 rfl rfl ?_
    refine hp_gR E g_RX1_27 fB_15_7 dX1_dropUse_11 ?_
    refine hp_iload_n E 2 dX1_dropUse_14 rfl rfl ?_
    refine hp_dup2 E rfl rfl dX1_dropUse_15 ?_
    refine hp_iald E 21 aB_21 hq.1 dX1_dropUse_16 ?_
    replace hq := hq.2
    refine hp_iload_n E 1 dX1_dropUse_17 rfl rfl ?_
    refine hp_iconst E (-1) dX1_dropUse_18 (by decide) ?_
    refine hp_ixor E dX1_dropUse_19 ?_
    refine hp_iand E dX1_dropUse_20 ?_
    have hin := hq.1
    replace hq := hq.2
    refine hp_iast E 21 aB_21 zB_21 hJ hin dX1_dropUse_21 ?_
    refine hp_toph (fun h5 eh5 => ?_)
    replace hq := hq h5 eh5
    obtain ⟨v6, ev6⟩ : ∃ z : Int32, z = v2 + (nI 1) := ⟨_, rfl⟩
    replace hq := hq v6 ev6
    refine hp_iinc (lv' := [(0, .ref (ad 15)), (1, .int a1), (2, .int v6)]) E 2 v6 dX1_dropUse_22 rfl (by rw [ev6]; rfl) (by decide) rfl rfl ?_
    refine hp_goto E 2 dX1_dropUse_25 (by decide) ?_
    exact hB1 _ _ hq
theorem dX5_askNothing_0 : decode cX5_askNothing 0 = .ok (.aload_n 0, 1) := by decide +kernel
theorem dX5_askNothing_1 : decode cX5_askNothing 1 = .ok (.getfield 18, 3) := by decide +kernel
theorem dX5_askNothing_4 : decode cX5_askNothing 4 = .ok (.getfield 32, 3) := by decide +kernel
theorem dX5_askNothing_7 : decode cX5_askNothing 7 = .ok (.bipush 8, 2) := by decide +kernel
theorem dX5_askNothing_9 : decode cX5_askNothing 9 = .ok (.invokevirtual 38, 3) := by decide +kernel
theorem dX5_askNothing_12 : decode cX5_askNothing 12 = .ok (.return_, 1) := by decide +kernel
set_option maxHeartbeats 4000000 in
set_option maxRecDepth 100000 in
theorem c_X5_askNothing (l : Launch) {cs : Nat → ClassId} {ad : Nat → Nat} {A : Nat → Prop} {D : va_G} (hJ : hp_J SB ad A)   {h : hp_H} {Q : hp_H → Prop} (hq : q_X5_askNothing h Q) : hp_Mv l yX5_askNothing cX5_askNothing 1 none rm_X5_askNothing [.ref (ad 50)] SB cs ad A D h Q := by
  refine hp_met (own := RX5) rfl (by decide) (Nat.le_of_ble_eq_true rfl) rfl (fun p e s m args below meth c Z E hZ hnm => ?_)
  refine hp_sub (lv' := [(0, .ref (ad 50))]) [0] rfl ?_
  unfold q_X5_askNothing at hq
  refine hp_aload_n E 0 dX5_askNothing_0 rfl rfl ?_
  refine hp_gR E g_RX5_18 fB_50_0 dX5_askNothing_1 ?_
  refine hp_gR E g_RX5_32 fB_1_3 dX5_askNothing_4 ?_
  refine hp_bipush E (nI 8) dX5_askNothing_7 (by decide) ?_
  refine hp_callVv' (rest := []) E 15 fB_15_0 vcl_1 (c_X1_dropUse l hJ hq) F_X1_dropUse m_RX5_38 ⟨rfl, rfl⟩ ⟨Nat.le_of_ble_eq_true rfl, Nat.le_of_ble_eq_true rfl⟩ ⟨Nat.zero_le _, Nat.zero_le _⟩ rfl rfl (Nat.le_of_ble_eq_true rfl) dX5_askNothing_9 (fun h1 hq => ?_)
  exact hp_vret E hq hZ dX5_askNothing_12
theorem dX1_addUse_0 : decode cX1_addUse 0 = .ok (.aload_n 0, 1) := by decide +kernel
theorem dX1_addUse_1 : decode cX1_addUse 1 = .ok (.getfield 27, 3) := by decide +kernel
theorem dX1_addUse_4 : decode cX1_addUse 4 = .ok (.iload_n 1, 1) := by decide +kernel
theorem dX1_addUse_5 : decode cX1_addUse 5 = .ok (.dup2, 1) := by decide +kernel
theorem dX1_addUse_6 : decode cX1_addUse 6 = .ok (.iaload, 1) := by decide +kernel
theorem dX1_addUse_7 : decode cX1_addUse 7 = .ok (.iload_n 2, 1) := by decide +kernel
theorem dX1_addUse_8 : decode cX1_addUse 8 = .ok (.ior, 1) := by decide +kernel
theorem dX1_addUse_9 : decode cX1_addUse 9 = .ok (.iastore, 1) := by decide +kernel
theorem dX1_addUse_10 : decode cX1_addUse 10 = .ok (.return_, 1) := by decide +kernel
set_option maxHeartbeats 4000000 in
set_option maxRecDepth 100000 in
theorem c_X1_addUse (l : Launch) {cs : Nat → ClassId} {ad : Nat → Nat} {A : Nat → Prop} {D : va_G} (hJ : hp_J SB ad A)   {h : hp_H} {a1 a2 : Int32} {Q : hp_H → Prop} (hq : q_X1_addUse h a1 a2 Q) : hp_Mv l yX1_addUse cX1_addUse 3 none rm_X1_addUse [.ref (ad 15), .int a1, .int a2] SB cs ad A D h Q := by
  refine hp_met (own := RX1) rfl (by decide) (Nat.le_of_ble_eq_true rfl) rfl (fun p e s m args below meth c Z E hZ hnm => ?_)
  refine hp_sub (lv' := [(0, .ref (ad 15)), (1, .int a1), (2, .int a2)]) [0, 1, 2] rfl ?_
  unfold q_X1_addUse at hq
  refine hp_aload_n E 0 dX1_addUse_0 rfl rfl ?_
  refine hp_gR E g_RX1_27 fB_15_7 dX1_addUse_1 ?_
  refine hp_iload_n E 1 dX1_addUse_4 rfl rfl ?_
  refine hp_dup2 E rfl rfl dX1_addUse_5 ?_
  refine hp_iald E 21 aB_21 hq.1 dX1_addUse_6 ?_
  replace hq := hq.2
  refine hp_iload_n E 2 dX1_addUse_7 rfl rfl ?_
  refine hp_ior E dX1_addUse_8 ?_
  have hin := hq.1
  replace hq := hq.2
  refine hp_iast E 21 aB_21 zB_21 hJ hin dX1_addUse_9 ?_
  refine hp_toph (fun h1 eh1 => ?_)
  replace hq := hq h1 eh1
  exact hp_vret E hq hZ dX1_addUse_10
theorem dX1_isMade_0 : decode cX1_isMade 0 = .ok (.iload_n 0, 1) := by decide +kernel
theorem dX1_isMade_1 : decode cX1_isMade 1 = .ok (.bipush 7, 2) := by decide +kernel
theorem dX1_isMade_3 : decode cX1_isMade 3 = .ok (.if_icmp .lt 7, 3) := by decide +kernel
theorem dX1_isMade_6 : decode cX1_isMade 6 = .ok (.iconst 1, 1) := by decide +kernel
theorem dX1_isMade_7 : decode cX1_isMade 7 = .ok (.goto 4, 3) := by decide +kernel
theorem dX1_isMade_10 : decode cX1_isMade 10 = .ok (.iconst 0, 1) := by decide +kernel
theorem dX1_isMade_11 : decode cX1_isMade 11 = .ok (.ireturn, 1) := by decide +kernel
set_option maxHeartbeats 4000000 in
set_option maxRecDepth 100000 in
theorem c_X1_isMade (l : Launch) {cs : Nat → ClassId} {ad : Nat → Nat} {A : Nat → Prop} {D : va_G} (hJ : hp_J SB ad A)   {h : hp_H} {a0 : Int32} {Q : Int32 → Prop} (hq : q_X1_isMade a0 Q) : hp_Mi l yX1_isMade cX1_isMade 1 (some .boolean) rm_X1_isMade [.int a0] SB cs ad A D h (fun r h' => Q r ∧ h' = h) := by
  refine hp_met (own := RX1) rfl (by decide) (Nat.le_of_ble_eq_true rfl) rfl (fun p e s m args below meth c Z E hZ hnm => ?_)
  refine hp_sub (lv' := [(0, .int a0)]) [0] rfl ?_
  unfold q_X1_isMade at hq
  refine hp_iload_n E 0 dX1_isMade_0 rfl rfl ?_
  refine hp_bipush E (nI 7) dX1_isMade_1 (by decide) ?_
  refine hp_icmp_lt E 10 dX1_isMade_3 (by decide) (fun c1 => ?_) (fun c1 => ?_)
  · replace hq := hq.1 c1
    refine hp_iconst E (nI 0) dX1_isMade_10 (by decide) ?_
    exact hp_zret E (by unfold hp_bz; decide) ⟨hq, rfl⟩ hZ dX1_isMade_11
  · replace hq := hq.2 c1
    refine hp_iconst E (nI 1) dX1_isMade_6 (by decide) ?_
    refine hp_goto E 11 dX1_isMade_7 (by decide) ?_
    exact hp_zret E (by unfold hp_bz; decide) ⟨hq, rfl⟩ hZ dX1_isMade_11
theorem dX1_isMadeOfTwo_0 : decode cX1_isMadeOfTwo 0 = .ok (.iload_n 0, 1) := by decide +kernel
theorem dX1_isMadeOfTwo_1 : decode cX1_isMadeOfTwo 1 = .ok (.bipush 7, 2) := by decide +kernel
theorem dX1_isMadeOfTwo_3 : decode cX1_isMadeOfTwo 3 = .ok (.if_icmp .lt 13, 3) := by decide +kernel
theorem dX1_isMadeOfTwo_6 : decode cX1_isMadeOfTwo 6 = .ok (.iload_n 0, 1) := by decide +kernel
theorem dX1_isMadeOfTwo_7 : decode cX1_isMadeOfTwo 7 = .ok (.bipush 14, 2) := by decide +kernel
theorem dX1_isMadeOfTwo_9 : decode cX1_isMadeOfTwo 9 = .ok (.if_icmp .ge 7, 3) := by decide +kernel
theorem dX1_isMadeOfTwo_12 : decode cX1_isMadeOfTwo 12 = .ok (.iconst 1, 1) := by decide +kernel
theorem dX1_isMadeOfTwo_13 : decode cX1_isMadeOfTwo 13 = .ok (.goto 4, 3) := by decide +kernel
theorem dX1_isMadeOfTwo_16 : decode cX1_isMadeOfTwo 16 = .ok (.iconst 0, 1) := by decide +kernel
theorem dX1_isMadeOfTwo_17 : decode cX1_isMadeOfTwo 17 = .ok (.ireturn, 1) := by decide +kernel
set_option maxHeartbeats 4000000 in
set_option maxRecDepth 100000 in
theorem c_X1_isMadeOfTwo (l : Launch) {cs : Nat → ClassId} {ad : Nat → Nat} {A : Nat → Prop} {D : va_G} (hJ : hp_J SB ad A)   {h : hp_H} {a0 : Int32} {Q : Int32 → Prop} (hq : q_X1_isMadeOfTwo a0 Q) : hp_Mi l yX1_isMadeOfTwo cX1_isMadeOfTwo 1 (some .boolean) rm_X1_isMadeOfTwo [.int a0] SB cs ad A D h (fun r h' => Q r ∧ h' = h) := by
  refine hp_met (own := RX1) rfl (by decide) (Nat.le_of_ble_eq_true rfl) rfl (fun p e s m args below meth c Z E hZ hnm => ?_)
  refine hp_sub (lv' := [(0, .int a0)]) [0] rfl ?_
  unfold q_X1_isMadeOfTwo at hq
  refine hp_iload_n E 0 dX1_isMadeOfTwo_0 rfl rfl ?_
  refine hp_bipush E (nI 7) dX1_isMadeOfTwo_1 (by decide) ?_
  refine hp_icmp_lt E 16 dX1_isMadeOfTwo_3 (by decide) (fun c1 => ?_) (fun c1 => ?_)
  · replace hq := hq.1 c1
    refine hp_iconst E (nI 0) dX1_isMadeOfTwo_16 (by decide) ?_
    exact hp_zret E (by unfold hp_bz; decide) ⟨hq, rfl⟩ hZ dX1_isMadeOfTwo_17
  · replace hq := hq.2 c1
    refine hp_iload_n E 0 dX1_isMadeOfTwo_6 rfl rfl ?_
    refine hp_bipush E (nI 14) dX1_isMadeOfTwo_7 (by decide) ?_
    refine hp_icmp_ge E 16 dX1_isMadeOfTwo_9 (by decide) (fun c2 => ?_) (fun c2 => ?_)
    · replace hq := hq.1 c2
      refine hp_iconst E (nI 0) dX1_isMadeOfTwo_16 (by decide) ?_
      exact hp_zret E (by unfold hp_bz; decide) ⟨hq, rfl⟩ hZ dX1_isMadeOfTwo_17
    · replace hq := hq.2 c2
      refine hp_iconst E (nI 1) dX1_isMadeOfTwo_12 (by decide) ?_
      refine hp_goto E 17 dX1_isMadeOfTwo_13 (by decide) ?_
      exact hp_zret E (by unfold hp_bz; decide) ⟨hq, rfl⟩ hZ dX1_isMadeOfTwo_17
theorem dX1_spreadUses_0 : decode cX1_spreadUses 0 = .ok (.aload_n 0, 1) := by decide +kernel
theorem dX1_spreadUses_1 : decode cX1_spreadUses 1 = .ok (.getfield 38, 3) := by decide +kernel
theorem dX1_spreadUses_4 : decode cX1_spreadUses 4 = .ok (.iconst 1, 1) := by decide +kernel
theorem dX1_spreadUses_5 : decode cX1_spreadUses 5 = .ok (.isub, 1) := by decide +kernel
theorem dX1_spreadUses_6 : decode cX1_spreadUses 6 = .ok (.istore_n 1, 1) := by decide +kernel
theorem dX1_spreadUses_7 : decode cX1_spreadUses 7 = .ok (.iload_n 1, 1) := by decide +kernel
theorem dX1_spreadUses_8 : decode cX1_spreadUses 8 = .ok (.ifCond .lt 73, 3) := by decide +kernel
theorem dX1_spreadUses_11 : decode cX1_spreadUses 11 = .ok (.aload_n 0, 1) := by decide +kernel
theorem dX1_spreadUses_12 : decode cX1_spreadUses 12 = .ok (.getfield 15, 3) := by decide +kernel
theorem dX1_spreadUses_15 : decode cX1_spreadUses 15 = .ok (.iload_n 1, 1) := by decide +kernel
theorem dX1_spreadUses_16 : decode cX1_spreadUses 16 = .ok (.iaload, 1) := by decide +kernel
theorem dX1_spreadUses_17 : decode cX1_spreadUses 17 = .ok (.invokestatic 46, 3) := by decide +kernel
theorem dX1_spreadUses_20 : decode cX1_spreadUses 20 = .ok (.ifCond .eq 23, 3) := by decide +kernel
theorem dX1_spreadUses_23 : decode cX1_spreadUses 23 = .ok (.aload_n 0, 1) := by decide +kernel
theorem dX1_spreadUses_24 : decode cX1_spreadUses 24 = .ok (.getfield 27, 3) := by decide +kernel
theorem dX1_spreadUses_27 : decode cX1_spreadUses 27 = .ok (.aload_n 0, 1) := by decide +kernel
theorem dX1_spreadUses_28 : decode cX1_spreadUses 28 = .ok (.getfield 18, 3) := by decide +kernel
theorem dX1_spreadUses_31 : decode cX1_spreadUses 31 = .ok (.iload_n 1, 1) := by decide +kernel
theorem dX1_spreadUses_32 : decode cX1_spreadUses 32 = .ok (.iaload, 1) := by decide +kernel
theorem dX1_spreadUses_33 : decode cX1_spreadUses 33 = .ok (.dup2, 1) := by decide +kernel
theorem dX1_spreadUses_34 : decode cX1_spreadUses 34 = .ok (.iaload, 1) := by decide +kernel
theorem dX1_spreadUses_35 : decode cX1_spreadUses 35 = .ok (.aload_n 0, 1) := by decide +kernel
theorem dX1_spreadUses_36 : decode cX1_spreadUses 36 = .ok (.getfield 27, 3) := by decide +kernel
theorem dX1_spreadUses_39 : decode cX1_spreadUses 39 = .ok (.iload_n 1, 1) := by decide +kernel
theorem dX1_spreadUses_40 : decode cX1_spreadUses 40 = .ok (.iaload, 1) := by decide +kernel
theorem dX1_spreadUses_41 : decode cX1_spreadUses 41 = .ok (.ior, 1) := by decide +kernel
theorem dX1_spreadUses_42 : decode cX1_spreadUses 42 = .ok (.iastore, 1) := by decide +kernel
theorem dX1_spreadUses_43 : decode cX1_spreadUses 43 = .ok (.aload_n 0, 1) := by decide +kernel
theorem dX1_spreadUses_44 : decode cX1_spreadUses 44 = .ok (.getfield 15, 3) := by decide +kernel
theorem dX1_spreadUses_47 : decode cX1_spreadUses 47 = .ok (.iload_n 1, 1) := by decide +kernel
theorem dX1_spreadUses_48 : decode cX1_spreadUses 48 = .ok (.iaload, 1) := by decide +kernel
theorem dX1_spreadUses_49 : decode cX1_spreadUses 49 = .ok (.invokestatic 50, 3) := by decide +kernel
theorem dX1_spreadUses_52 : decode cX1_spreadUses 52 = .ok (.ifCond .eq 23, 3) := by decide +kernel
theorem dX1_spreadUses_55 : decode cX1_spreadUses 55 = .ok (.aload_n 0, 1) := by decide +kernel
theorem dX1_spreadUses_56 : decode cX1_spreadUses 56 = .ok (.getfield 27, 3) := by decide +kernel
theorem dX1_spreadUses_59 : decode cX1_spreadUses 59 = .ok (.aload_n 0, 1) := by decide +kernel
theorem dX1_spreadUses_60 : decode cX1_spreadUses 60 = .ok (.getfield 21, 3) := by decide +kernel
theorem dX1_spreadUses_63 : decode cX1_spreadUses 63 = .ok (.iload_n 1, 1) := by decide +kernel
theorem dX1_spreadUses_64 : decode cX1_spreadUses 64 = .ok (.iaload, 1) := by decide +kernel
theorem dX1_spreadUses_65 : decode cX1_spreadUses 65 = .ok (.dup2, 1) := by decide +kernel
theorem dX1_spreadUses_66 : decode cX1_spreadUses 66 = .ok (.iaload, 1) := by decide +kernel
theorem dX1_spreadUses_67 : decode cX1_spreadUses 67 = .ok (.aload_n 0, 1) := by decide +kernel
theorem dX1_spreadUses_68 : decode cX1_spreadUses 68 = .ok (.getfield 27, 3) := by decide +kernel
theorem dX1_spreadUses_71 : decode cX1_spreadUses 71 = .ok (.iload_n 1, 1) := by decide +kernel
theorem dX1_spreadUses_72 : decode cX1_spreadUses 72 = .ok (.iaload, 1) := by decide +kernel
theorem dX1_spreadUses_73 : decode cX1_spreadUses 73 = .ok (.ior, 1) := by decide +kernel
theorem dX1_spreadUses_74 : decode cX1_spreadUses 74 = .ok (.iastore, 1) := by decide +kernel
theorem dX1_spreadUses_75 : decode cX1_spreadUses 75 = .ok (.iinc 1 (-1), 3) := by decide +kernel
theorem dX1_spreadUses_78 : decode cX1_spreadUses 78 = .ok (.goto (-71), 3) := by decide +kernel
theorem dX1_spreadUses_81 : decode cX1_spreadUses 81 = .ok (.return_, 1) := by decide +kernel
set_option maxHeartbeats 4000000 in
set_option maxRecDepth 100000 in
theorem c_X1_spreadUses (l : Launch) {cs : Nat → ClassId} {ad : Nat → Nat} {A : Nat → Prop} {D : va_G} (hJ : hp_J SB ad A)   {h : hp_H} {Q : hp_H → Prop} (hq : q_X1_spreadUses h Q) : hp_Mv l yX1_spreadUses cX1_spreadUses 2 none rm_X1_spreadUses [.ref (ad 15)] SB cs ad A D h Q := by
  refine hp_met (own := RX1) rfl (by decide) (Nat.le_of_ble_eq_true rfl) rfl (fun p e s m args below meth c Z E hZ hnm => ?_)
  refine hp_sub (lv' := [(0, .ref (ad 15))]) [0] rfl ?_
  unfold q_X1_spreadUses at hq
  refine hp_aload_n E 0 dX1_spreadUses_0 rfl rfl ?_
  refine hp_gI E g_RX1_38 fB_15_1 dX1_spreadUses_1 ?_
  refine hp_iconst E (nI 1) dX1_spreadUses_4 (by decide) ?_
  refine hp_isub E dX1_spreadUses_5 ?_
  refine hp_topi (fun v1 ev1 => ?_)
  replace hq := hq v1 ev1
  refine hp_istore_n (lv' := [(0, .ref (ad 15)), (1, .int v1)]) E dX1_spreadUses_6 rfl (by decide) rfl rfl ?_
  refine hq (fun v3 h4 => hp_G p l e rm_X1_spreadUses s m args below meth c SB cs ad A D 2 0 0 Z 7 [(0, .ref (ad 15)), (1, .int v3)] [] h4) (fun v3 h4 hB => ?_)
  obtain ⟨B2, hq, hB2⟩ := hB
  refine hp_iload_n E 1 dX1_spreadUses_7 rfl rfl ?_
  refine hp_if_lt E 81 dX1_spreadUses_8 (by decide) (fun c5 => ?_) (fun c5 => ?_)
  · replace hq := hq.1 c5
    exact hp_vret E hq hZ dX1_spreadUses_81
  · replace hq := hq.2 c5
    refine hp_aload_n E 0 dX1_spreadUses_11 rfl rfl ?_
    refine hp_gR E g_RX1_15 fB_15_3 dX1_spreadUses_12 ?_
    refine hp_iload_n E 1 dX1_spreadUses_15 rfl rfl ?_
    refine hp_iald E 17 aB_17 hq.1 dX1_spreadUses_16 ?_
    replace hq := hq.2
    refine hp_callSip (rest := []) E (c_X1_isMade l hJ hq) F_X1_isMade m_RX1_46 ⟨rfl, rfl⟩ ⟨Nat.le_of_ble_eq_true rfl, Nat.le_of_ble_eq_true rfl⟩ ⟨Nat.zero_le _, Nat.zero_le _⟩ rfl rfl (Nat.le_of_ble_eq_true rfl) dX1_spreadUses_17 (fun r6 hq => ?_)
    obtain ⟨K8, hq, hK8⟩ := hq
    have jK8 : ∀  (h9 : hp_H), K8 h9 → hp_G p l e rm_X1_spreadUses s m args below meth c SB cs ad A D 2 0 0 Z 43 [(0, .ref (ad 15)), (1, .int v3)] [] h9 := by
      intro h9 hq
      replace hq := hK8 h9 hq
      refine hp_aload_n E 0 dX1_spreadUses_43 rfl rfl ?_
      refine hp_gR E g_RX1_15 fB_15_3 dX1_spreadUses_44 ?_
      refine hp_iload_n E 1 dX1_spreadUses_47 rfl rfl ?_
      refine hp_iald E 17 aB_17 hq.1 dX1_spreadUses_48 ?_
      replace hq := hq.2
      refine hp_callSip (rest := []) E (c_X1_isMadeOfTwo l hJ hq) F_X1_isMadeOfTwo m_RX1_50 ⟨rfl, rfl⟩ ⟨Nat.le_of_ble_eq_true rfl, Nat.le_of_ble_eq_true rfl⟩ ⟨Nat.zero_le _, Nat.zero_le _⟩ rfl rfl (Nat.le_of_ble_eq_true rfl) dX1_spreadUses_49 (fun r11 hq => ?_)
      obtain ⟨K13, hq, hK13⟩ := hq
      have jK13 : ∀  (h14 : hp_H), K13 h14 → hp_G p l e rm_X1_spreadUses s m args below meth c SB cs ad A D 2 0 0 Z 75 [(0, .ref (ad 15)), (1, .int v3)] [] h14 := by
        intro h14 hq
        replace hq := hK13 h14 hq
        obtain ⟨v16, ev16⟩ : ∃ z : Int32, z = v3 + (-1) := ⟨_, rfl⟩
        replace hq := hq v16 ev16
        refine hp_iinc (lv' := [(0, .ref (ad 15)), (1, .int v16)]) E 1 v16 dX1_spreadUses_75 rfl (by rw [ev16]; rfl) (by decide) rfl rfl ?_
        refine hp_goto E 7 dX1_spreadUses_78 (by decide) ?_
        exact hB2 _ _ hq
      refine hp_if_eq E 75 dX1_spreadUses_52 (by decide) (fun c12 => ?_) (fun c12 => ?_)
      · replace hq := hq.1 c12
        exact jK13 _ hq
      · replace hq := hq.2 c12
        refine hp_aload_n E 0 dX1_spreadUses_55 rfl rfl ?_
        refine hp_gR E g_RX1_27 fB_15_7 dX1_spreadUses_56 ?_
        refine hp_aload_n E 0 dX1_spreadUses_59 rfl rfl ?_
        refine hp_gR E g_RX1_21 fB_15_5 dX1_spreadUses_60 ?_
        refine hp_iload_n E 1 dX1_spreadUses_63 rfl rfl ?_
        refine hp_iald E 19 aB_19 hq.1 dX1_spreadUses_64 ?_
        replace hq := hq.2
        refine hp_dup2 E rfl rfl dX1_spreadUses_65 ?_
        refine hp_iald E 21 aB_21 hq.1 dX1_spreadUses_66 ?_
        replace hq := hq.2
        refine hp_aload_n E 0 dX1_spreadUses_67 rfl rfl ?_
        refine hp_gR E g_RX1_27 fB_15_7 dX1_spreadUses_68 ?_
        refine hp_iload_n E 1 dX1_spreadUses_71 rfl rfl ?_
        refine hp_iald E 21 aB_21 hq.1 dX1_spreadUses_72 ?_
        replace hq := hq.2
        refine hp_ior E dX1_spreadUses_73 ?_
        have hin := hq.1
        replace hq := hq.2
        refine hp_iast E 21 aB_21 zB_21 hJ hin dX1_spreadUses_74 ?_
        refine hp_toph (fun h15 eh15 => ?_)
        replace hq := hq h15 eh15
        exact jK13 _ hq
    refine hp_if_eq E 43 dX1_spreadUses_20 (by decide) (fun c7 => ?_) (fun c7 => ?_)
    · replace hq := hq.1 c7
      exact jK8 _ hq
    · replace hq := hq.2 c7
      refine hp_aload_n E 0 dX1_spreadUses_23 rfl rfl ?_
      refine hp_gR E g_RX1_27 fB_15_7 dX1_spreadUses_24 ?_
      refine hp_aload_n E 0 dX1_spreadUses_27 rfl rfl ?_
      refine hp_gR E g_RX1_18 fB_15_4 dX1_spreadUses_28 ?_
      refine hp_iload_n E 1 dX1_spreadUses_31 rfl rfl ?_
      refine hp_iald E 18 aB_18 hq.1 dX1_spreadUses_32 ?_
      replace hq := hq.2
      refine hp_dup2 E rfl rfl dX1_spreadUses_33 ?_
      refine hp_iald E 21 aB_21 hq.1 dX1_spreadUses_34 ?_
      replace hq := hq.2
      refine hp_aload_n E 0 dX1_spreadUses_35 rfl rfl ?_
      refine hp_gR E g_RX1_27 fB_15_7 dX1_spreadUses_36 ?_
      refine hp_iload_n E 1 dX1_spreadUses_39 rfl rfl ?_
      refine hp_iald E 21 aB_21 hq.1 dX1_spreadUses_40 ?_
      replace hq := hq.2
      refine hp_ior E dX1_spreadUses_41 ?_
      have hin := hq.1
      replace hq := hq.2
      refine hp_iast E 21 aB_21 zB_21 hJ hin dX1_spreadUses_42 ?_
      refine hp_toph (fun h10 eh10 => ?_)
      replace hq := hq h10 eh10
      exact jK8 _ hq
theorem dX5_askToo_0 : decode cX5_askToo 0 = .ok (.aload_n 0, 1) := by decide +kernel
theorem dX5_askToo_1 : decode cX5_askToo 1 = .ok (.getfield 18, 3) := by decide +kernel
theorem dX5_askToo_4 : decode cX5_askToo 4 = .ok (.getfield 32, 3) := by decide +kernel
theorem dX5_askToo_7 : decode cX5_askToo 7 = .ok (.iload_n 1, 1) := by decide +kernel
theorem dX5_askToo_8 : decode cX5_askToo 8 = .ok (.bipush 8, 2) := by decide +kernel
theorem dX5_askToo_10 : decode cX5_askToo 10 = .ok (.invokevirtual 44, 3) := by decide +kernel
theorem dX5_askToo_13 : decode cX5_askToo 13 = .ok (.aload_n 0, 1) := by decide +kernel
theorem dX5_askToo_14 : decode cX5_askToo 14 = .ok (.getfield 18, 3) := by decide +kernel
theorem dX5_askToo_17 : decode cX5_askToo 17 = .ok (.getfield 32, 3) := by decide +kernel
theorem dX5_askToo_20 : decode cX5_askToo 20 = .ok (.invokevirtual 48, 3) := by decide +kernel
theorem dX5_askToo_23 : decode cX5_askToo 23 = .ok (.return_, 1) := by decide +kernel
set_option maxHeartbeats 4000000 in
set_option maxRecDepth 100000 in
theorem c_X5_askToo (l : Launch) {cs : Nat → ClassId} {ad : Nat → Nat} {A : Nat → Prop} {D : va_G} (hJ : hp_J SB ad A)   {h : hp_H} {a1 : Int32} {Q : hp_H → Prop} (hq : q_X5_askToo h a1 Q) : hp_Mv l yX5_askToo cX5_askToo 2 none rm_X5_askToo [.ref (ad 50), .int a1] SB cs ad A D h Q := by
  refine hp_met (own := RX5) rfl (by decide) (Nat.le_of_ble_eq_true rfl) rfl (fun p e s m args below meth c Z E hZ hnm => ?_)
  refine hp_sub (lv' := [(0, .ref (ad 50)), (1, .int a1)]) [0, 1] rfl ?_
  unfold q_X5_askToo at hq
  refine hp_aload_n E 0 dX5_askToo_0 rfl rfl ?_
  refine hp_gR E g_RX5_18 fB_50_0 dX5_askToo_1 ?_
  refine hp_gR E g_RX5_32 fB_1_3 dX5_askToo_4 ?_
  refine hp_iload_n E 1 dX5_askToo_7 rfl rfl ?_
  refine hp_bipush E (nI 8) dX5_askToo_8 (by decide) ?_
  refine hp_callVv' (rest := []) E 15 fB_15_0 vcl_1 (c_X1_addUse l hJ hq) F_X1_addUse m_RX5_44 ⟨rfl, rfl⟩ ⟨Nat.le_of_ble_eq_true rfl, Nat.le_of_ble_eq_true rfl⟩ ⟨Nat.zero_le _, Nat.zero_le _⟩ rfl rfl (Nat.le_of_ble_eq_true rfl) dX5_askToo_10 (fun h1 hq => ?_)
  refine hp_aload_n E 0 dX5_askToo_13 rfl rfl ?_
  refine hp_gR E g_RX5_18 fB_50_0 dX5_askToo_14 ?_
  refine hp_gR E g_RX5_32 fB_1_3 dX5_askToo_17 ?_
  refine hp_callVv' (rest := []) E 15 fB_15_0 vcl_1 (c_X1_spreadUses l hJ hq) F_X1_spreadUses m_RX5_48 ⟨rfl, rfl⟩ ⟨Nat.le_of_ble_eq_true rfl, Nat.le_of_ble_eq_true rfl⟩ ⟨Nat.zero_le _, Nat.zero_le _⟩ rfl rfl (Nat.le_of_ble_eq_true rfl) dX5_askToo_20 (fun h2 hq => ?_)
  exact hp_vret E hq hZ dX5_askToo_23
theorem dX2_load_0 : decode cX2_load 0 = .ok (.aload_n 0, 1) := by decide +kernel
theorem dX2_load_1 : decode cX2_load 1 = .ok (.getfield 45, 3) := by decide +kernel
theorem dX2_load_4 : decode cX2_load 4 = .ok (.iload_n 1, 1) := by decide +kernel
theorem dX2_load_5 : decode cX2_load 5 = .ok (.bipush 13, 2) := by decide +kernel
theorem dX2_load_7 : decode cX2_load 7 = .ok (.imul, 1) := by decide +kernel
theorem dX2_load_8 : decode cX2_load 8 = .ok (.aload_n 2, 1) := by decide +kernel
theorem dX2_load_9 : decode cX2_load 9 = .ok (.getfield 85, 3) := by decide +kernel
theorem dX2_load_12 : decode cX2_load 12 = .ok (.iconst 0, 1) := by decide +kernel
theorem dX2_load_13 : decode cX2_load 13 = .ok (.bipush 13, 2) := by decide +kernel
theorem dX2_load_15 : decode cX2_load 15 = .ok (.invokestatic 86, 3) := by decide +kernel
theorem dX2_load_18 : decode cX2_load 18 = .ok (.return_, 1) := by decide +kernel
set_option maxHeartbeats 4000000 in
set_option maxRecDepth 100000 in
theorem c_X2_load (l : Launch) {cs : Nat → ClassId} {ad : Nat → Nat} {A : Nat → Prop} {D : va_G} (hJ : hp_J SB ad A) {w_2 : Nat} {r_2 : Nat} (hr_2 : hp_sh SB r_2 7 0 (1, w_2, 0)) (hw_2 : SB[w_2]? = some (.inr (0, 13))) (hz_2 : w_2 ≠ hp_V) {h : hp_H} {a1 : Int32} {Q : hp_H → Prop} (hq : q_X2_load w_2 h a1 Q) : hp_Mv l yX2_load cX2_load 3 none rm_X2_load [.ref (ad 35), .int a1, .ref (ad r_2)] SB cs ad A D h Q := by
  refine hp_met (own := RX2) rfl (by decide) (Nat.le_of_ble_eq_true rfl) rfl (fun p e s m args below meth c Z E hZ hnm => ?_)
  refine hp_sub (lv' := [(0, .ref (ad 35)), (1, .int a1), (2, .ref (ad r_2))]) [0, 1, 2] rfl ?_
  unfold q_X2_load at hq
  refine hp_aload_n E 0 dX2_load_0 rfl rfl ?_
  refine hp_gR E g_RX2_45 fB_35_14 dX2_load_1 ?_
  refine hp_iload_n E 1 dX2_load_4 rfl rfl ?_
  refine hp_bipush E (nI 13) dX2_load_5 (by decide) ?_
  refine hp_imul E dX2_load_7 ?_
  refine hp_aload_n E 2 dX2_load_8 rfl rfl ?_
  refine hp_gR E g_RX2_85 hr_2 dX2_load_9 ?_
  refine hp_iconst E (nI 0) dX2_load_12 (by decide) ?_
  refine hp_bipush E (nI 13) dX2_load_13 (by decide) ?_
  obtain ⟨⟨g1, g2, g3, g4, g5⟩, hq⟩ := hq
  refine hp_copy E 42 w_2 aB_42 hw_2 hz_2 hJ m_RX2_86 mm_copy g1 g2 g3 g4 g5 (Nat.le_of_ble_eq_true rfl) (Nat.le_of_ble_eq_true rfl) dX2_load_15 ?_
  refine hp_toph (fun h1 eh1 => ?_)
  replace hq := hq h1 eh1
  exact hp_vret E hq hZ dX2_load_18
theorem dX5_rowOf_0 : decode cX5_rowOf 0 = .ok (.aload_n 0, 1) := by decide +kernel
theorem dX5_rowOf_1 : decode cX5_rowOf 1 = .ok (.getfield 22, 3) := by decide +kernel
theorem dX5_rowOf_4 : decode cX5_rowOf 4 = .ok (.iload_n 1, 1) := by decide +kernel
theorem dX5_rowOf_5 : decode cX5_rowOf 5 = .ok (.aload_n 0, 1) := by decide +kernel
theorem dX5_rowOf_6 : decode cX5_rowOf 6 = .ok (.getfield 12, 3) := by decide +kernel
theorem dX5_rowOf_9 : decode cX5_rowOf 9 = .ok (.invokevirtual 26, 3) := by decide +kernel
theorem dX5_rowOf_12 : decode cX5_rowOf 12 = .ok (.aload_n 0, 1) := by decide +kernel
theorem dX5_rowOf_13 : decode cX5_rowOf 13 = .ok (.getfield 12, 3) := by decide +kernel
theorem dX5_rowOf_16 : decode cX5_rowOf 16 = .ok (.areturn, 1) := by decide +kernel
set_option maxHeartbeats 4000000 in
set_option maxRecDepth 100000 in
theorem c_X5_rowOf (l : Launch) {cs : Nat → ClassId} {ad : Nat → Nat} {A : Nat → Prop} {D : va_G} (hJ : hp_J SB ad A)   {h : hp_H} {a1 : Int32} {Q : hp_H → Prop} (hq : q_X5_rowOf h a1 Q) : hp_Mr l yX5_rowOf cX5_rowOf 2 (some (.object "ProtocolBench$Row")) rm_X5_rowOf [.ref (ad 50), .int a1] SB cs ad A D 51 h Q := by
  refine hp_met (own := RX5) rfl (by decide) (Nat.le_of_ble_eq_true rfl) rfl (fun p e s m args below meth c Z E hZ hnm => ?_)
  refine hp_sub (lv' := [(0, .ref (ad 50)), (1, .int a1)]) [0, 1] rfl ?_
  unfold q_X5_rowOf at hq
  refine hp_aload_n E 0 dX5_rowOf_0 rfl rfl ?_
  refine hp_gR E g_RX5_22 fB_50_1 dX5_rowOf_1 ?_
  refine hp_iload_n E 1 dX5_rowOf_4 rfl rfl ?_
  refine hp_aload_n E 0 dX5_rowOf_5 rfl rfl ?_
  refine hp_gR E g_RX5_12 fB_50_2 dX5_rowOf_6 ?_
  refine hp_callVv' (rest := []) E 35 fB_35_0 vcl_2 (c_X2_load l hJ fB_51_0 aB_52 zB_52 hq) F_X2_load m_RX5_26 ⟨rfl, rfl⟩ ⟨Nat.le_of_ble_eq_true rfl, Nat.le_of_ble_eq_true rfl⟩ ⟨Nat.zero_le _, Nat.zero_le _⟩ rfl rfl (Nat.le_of_ble_eq_true rfl) dX5_rowOf_9 (fun h1 hq => ?_)
  refine hp_aload_n E 0 dX5_rowOf_12 rfl rfl ?_
  refine hp_gR E g_RX5_12 fB_50_2 dX5_rowOf_13 ?_
  exact hp_aret (r := 51) E hq hZ dX5_rowOf_16
theorem dX1_ofParts_0 : decode cX1_ofParts 0 = .ok (.iload_n 0, 1) := by decide +kernel
theorem dX1_ofParts_1 : decode cX1_ofParts 1 = .ok (.tableswitch 105 7 13 #[43, 47, 51, 55, 66, 77, 91], 43) := by decide +kernel
theorem dX1_ofParts_44 : decode cX1_ofParts 44 = .ok (.iload_n 1, 1) := by decide +kernel
theorem dX1_ofParts_45 : decode cX1_ofParts 45 = .ok (.iload_n 2, 1) := by decide +kernel
theorem dX1_ofParts_46 : decode cX1_ofParts 46 = .ok (.iadd, 1) := by decide +kernel
theorem dX1_ofParts_47 : decode cX1_ofParts 47 = .ok (.ireturn, 1) := by decide +kernel
theorem dX1_ofParts_48 : decode cX1_ofParts 48 = .ok (.iload_n 1, 1) := by decide +kernel
theorem dX1_ofParts_49 : decode cX1_ofParts 49 = .ok (.iload_n 2, 1) := by decide +kernel
theorem dX1_ofParts_50 : decode cX1_ofParts 50 = .ok (.isub, 1) := by decide +kernel
theorem dX1_ofParts_51 : decode cX1_ofParts 51 = .ok (.ireturn, 1) := by decide +kernel
theorem dX1_ofParts_52 : decode cX1_ofParts 52 = .ok (.iload_n 1, 1) := by decide +kernel
theorem dX1_ofParts_53 : decode cX1_ofParts 53 = .ok (.iload_n 2, 1) := by decide +kernel
theorem dX1_ofParts_54 : decode cX1_ofParts 54 = .ok (.imul, 1) := by decide +kernel
theorem dX1_ofParts_55 : decode cX1_ofParts 55 = .ok (.ireturn, 1) := by decide +kernel
theorem dX1_ofParts_56 : decode cX1_ofParts 56 = .ok (.iload_n 1, 1) := by decide +kernel
theorem dX1_ofParts_57 : decode cX1_ofParts 57 = .ok (.iload_n 2, 1) := by decide +kernel
theorem dX1_ofParts_58 : decode cX1_ofParts 58 = .ok (.if_icmp .ne 7, 3) := by decide +kernel
theorem dX1_ofParts_61 : decode cX1_ofParts 61 = .ok (.iconst 1, 1) := by decide +kernel
theorem dX1_ofParts_62 : decode cX1_ofParts 62 = .ok (.goto 4, 3) := by decide +kernel
theorem dX1_ofParts_65 : decode cX1_ofParts 65 = .ok (.iconst 0, 1) := by decide +kernel
theorem dX1_ofParts_66 : decode cX1_ofParts 66 = .ok (.ireturn, 1) := by decide +kernel
theorem dX1_ofParts_67 : decode cX1_ofParts 67 = .ok (.iload_n 1, 1) := by decide +kernel
theorem dX1_ofParts_68 : decode cX1_ofParts 68 = .ok (.iload_n 2, 1) := by decide +kernel
theorem dX1_ofParts_69 : decode cX1_ofParts 69 = .ok (.if_icmp .ge 7, 3) := by decide +kernel
theorem dX1_ofParts_72 : decode cX1_ofParts 72 = .ok (.iconst 1, 1) := by decide +kernel
theorem dX1_ofParts_73 : decode cX1_ofParts 73 = .ok (.goto 4, 3) := by decide +kernel
theorem dX1_ofParts_76 : decode cX1_ofParts 76 = .ok (.iconst 0, 1) := by decide +kernel
theorem dX1_ofParts_77 : decode cX1_ofParts 77 = .ok (.ireturn, 1) := by decide +kernel
theorem dX1_ofParts_78 : decode cX1_ofParts 78 = .ok (.iload_n 1, 1) := by decide +kernel
theorem dX1_ofParts_79 : decode cX1_ofParts 79 = .ok (.ifCond .eq 11, 3) := by decide +kernel
theorem dX1_ofParts_82 : decode cX1_ofParts 82 = .ok (.iload_n 2, 1) := by decide +kernel
theorem dX1_ofParts_83 : decode cX1_ofParts 83 = .ok (.ifCond .eq 7, 3) := by decide +kernel
theorem dX1_ofParts_86 : decode cX1_ofParts 86 = .ok (.iconst 1, 1) := by decide +kernel
theorem dX1_ofParts_87 : decode cX1_ofParts 87 = .ok (.goto 4, 3) := by decide +kernel
theorem dX1_ofParts_90 : decode cX1_ofParts 90 = .ok (.iconst 0, 1) := by decide +kernel
theorem dX1_ofParts_91 : decode cX1_ofParts 91 = .ok (.ireturn, 1) := by decide +kernel
theorem dX1_ofParts_92 : decode cX1_ofParts 92 = .ok (.iload_n 1, 1) := by decide +kernel
theorem dX1_ofParts_93 : decode cX1_ofParts 93 = .ok (.ifCond .ne 7, 3) := by decide +kernel
theorem dX1_ofParts_96 : decode cX1_ofParts 96 = .ok (.iload_n 2, 1) := by decide +kernel
theorem dX1_ofParts_97 : decode cX1_ofParts 97 = .ok (.ifCond .eq 7, 3) := by decide +kernel
theorem dX1_ofParts_100 : decode cX1_ofParts 100 = .ok (.iconst 1, 1) := by decide +kernel
theorem dX1_ofParts_101 : decode cX1_ofParts 101 = .ok (.goto 4, 3) := by decide +kernel
theorem dX1_ofParts_104 : decode cX1_ofParts 104 = .ok (.iconst 0, 1) := by decide +kernel
theorem dX1_ofParts_105 : decode cX1_ofParts 105 = .ok (.ireturn, 1) := by decide +kernel
theorem dX1_ofParts_106 : decode cX1_ofParts 106 = .ok (.iload_n 1, 1) := by decide +kernel
theorem dX1_ofParts_107 : decode cX1_ofParts 107 = .ok (.ifCond .ne 7, 3) := by decide +kernel
theorem dX1_ofParts_110 : decode cX1_ofParts 110 = .ok (.iconst 1, 1) := by decide +kernel
theorem dX1_ofParts_111 : decode cX1_ofParts 111 = .ok (.goto 4, 3) := by decide +kernel
theorem dX1_ofParts_114 : decode cX1_ofParts 114 = .ok (.iconst 0, 1) := by decide +kernel
theorem dX1_ofParts_115 : decode cX1_ofParts 115 = .ok (.ireturn, 1) := by decide +kernel
set_option maxHeartbeats 4000000 in
set_option maxRecDepth 100000 in
theorem c_X1_ofParts (l : Launch) {cs : Nat → ClassId} {ad : Nat → Nat} {A : Nat → Prop} {D : va_G} (hJ : hp_J SB ad A)   {h : hp_H} {a0 a1 a2 : Int32} {Q : Int32 → Prop} (hq : q_X1_ofParts a0 a1 a2 Q) : hp_Mi l yX1_ofParts cX1_ofParts 3 (some .int) rm_X1_ofParts [.int a0, .int a1, .int a2] SB cs ad A D h (fun r h' => Q r ∧ h' = h) := by
  refine hp_met (own := RX1) rfl (by decide) (Nat.le_of_ble_eq_true rfl) rfl (fun p e s m args below meth c Z E hZ hnm => ?_)
  refine hp_sub (lv' := [(0, .int a0), (1, .int a1), (2, .int a2)]) [0, 1, 2] rfl ?_
  unfold q_X1_ofParts at hq
  refine hp_iload_n E 0 dX1_ofParts_0 rfl rfl ?_
  by_cases c8 : a0 = (nI 7)
  · replace hq := hq.1 (c8)
    refine hp_tswV (off := 43) E (nI 7) 44 dX1_ofParts_1 c8 (by decide) (by decide) (by decide) (by decide) ?_
    refine hp_iload_n E 1 dX1_ofParts_44 rfl rfl ?_
    refine hp_iload_n E 2 dX1_ofParts_45 rfl rfl ?_
    refine hp_iadd E dX1_ofParts_46 ?_
    exact hp_iret E ⟨hq, rfl⟩ hZ dX1_ofParts_47
  by_cases c9 : a0 = (nI 8)
  · replace hq := hq.2.1 (c9)
    refine hp_tswV (off := 47) E (nI 8) 48 dX1_ofParts_1 c9 (by decide) (by decide) (by decide) (by decide) ?_
    refine hp_iload_n E 1 dX1_ofParts_48 rfl rfl ?_
    refine hp_iload_n E 2 dX1_ofParts_49 rfl rfl ?_
    refine hp_isub E dX1_ofParts_50 ?_
    exact hp_iret E ⟨hq, rfl⟩ hZ dX1_ofParts_51
  by_cases c10 : a0 = (nI 9)
  · replace hq := hq.2.2.1 (c10)
    refine hp_tswV (off := 51) E (nI 9) 52 dX1_ofParts_1 c10 (by decide) (by decide) (by decide) (by decide) ?_
    refine hp_iload_n E 1 dX1_ofParts_52 rfl rfl ?_
    refine hp_iload_n E 2 dX1_ofParts_53 rfl rfl ?_
    refine hp_imul E dX1_ofParts_54 ?_
    exact hp_iret E ⟨hq, rfl⟩ hZ dX1_ofParts_55
  by_cases c11 : a0 = (nI 10)
  · replace hq := hq.2.2.2.1 (c11)
    refine hp_tswV (off := 55) E (nI 10) 56 dX1_ofParts_1 c11 (by decide) (by decide) (by decide) (by decide) ?_
    refine hp_iload_n E 1 dX1_ofParts_56 rfl rfl ?_
    refine hp_iload_n E 2 dX1_ofParts_57 rfl rfl ?_
    refine hp_icmp_ne E 65 dX1_ofParts_58 (by decide) (fun c1 => ?_) (fun c1 => ?_)
    · replace hq := hq.2 c1
      refine hp_iconst E (nI 0) dX1_ofParts_65 (by decide) ?_
      exact hp_iret E ⟨hq, rfl⟩ hZ dX1_ofParts_66
    · replace hq := hq.1 c1
      refine hp_iconst E (nI 1) dX1_ofParts_61 (by decide) ?_
      refine hp_goto E 66 dX1_ofParts_62 (by decide) ?_
      exact hp_iret E ⟨hq, rfl⟩ hZ dX1_ofParts_66
  by_cases c12 : a0 = (nI 11)
  · replace hq := hq.2.2.2.2.1 (c12)
    refine hp_tswV (off := 66) E (nI 11) 67 dX1_ofParts_1 c12 (by decide) (by decide) (by decide) (by decide) ?_
    refine hp_iload_n E 1 dX1_ofParts_67 rfl rfl ?_
    refine hp_iload_n E 2 dX1_ofParts_68 rfl rfl ?_
    refine hp_icmp_ge E 76 dX1_ofParts_69 (by decide) (fun c2 => ?_) (fun c2 => ?_)
    · replace hq := hq.1 c2
      refine hp_iconst E (nI 0) dX1_ofParts_76 (by decide) ?_
      exact hp_iret E ⟨hq, rfl⟩ hZ dX1_ofParts_77
    · replace hq := hq.2 c2
      refine hp_iconst E (nI 1) dX1_ofParts_72 (by decide) ?_
      refine hp_goto E 77 dX1_ofParts_73 (by decide) ?_
      exact hp_iret E ⟨hq, rfl⟩ hZ dX1_ofParts_77
  by_cases c13 : a0 = (nI 12)
  · replace hq := hq.2.2.2.2.2.1 (c13)
    refine hp_tswV (off := 77) E (nI 12) 78 dX1_ofParts_1 c13 (by decide) (by decide) (by decide) (by decide) ?_
    refine hp_iload_n E 1 dX1_ofParts_78 rfl rfl ?_
    refine hp_if_eq E 90 dX1_ofParts_79 (by decide) (fun c3 => ?_) (fun c3 => ?_)
    · replace hq := hq.1 c3
      refine hp_iconst E (nI 0) dX1_ofParts_90 (by decide) ?_
      exact hp_iret E ⟨hq, rfl⟩ hZ dX1_ofParts_91
    · replace hq := hq.2 c3
      refine hp_iload_n E 2 dX1_ofParts_82 rfl rfl ?_
      refine hp_if_eq E 90 dX1_ofParts_83 (by decide) (fun c4 => ?_) (fun c4 => ?_)
      · replace hq := hq.1 c4
        refine hp_iconst E (nI 0) dX1_ofParts_90 (by decide) ?_
        exact hp_iret E ⟨hq, rfl⟩ hZ dX1_ofParts_91
      · replace hq := hq.2 c4
        refine hp_iconst E (nI 1) dX1_ofParts_86 (by decide) ?_
        refine hp_goto E 91 dX1_ofParts_87 (by decide) ?_
        exact hp_iret E ⟨hq, rfl⟩ hZ dX1_ofParts_91
  by_cases c14 : a0 = (nI 13)
  · replace hq := hq.2.2.2.2.2.2.1 (c14)
    refine hp_tswV (off := 91) E (nI 13) 92 dX1_ofParts_1 c14 (by decide) (by decide) (by decide) (by decide) ?_
    refine hp_iload_n E 1 dX1_ofParts_92 rfl rfl ?_
    refine hp_if_ne E 100 dX1_ofParts_93 (by decide) (fun c5 => ?_) (fun c5 => ?_)
    · replace hq := hq.2 c5
      refine hp_iconst E (nI 1) dX1_ofParts_100 (by decide) ?_
      refine hp_goto E 105 dX1_ofParts_101 (by decide) ?_
      exact hp_iret E ⟨hq, rfl⟩ hZ dX1_ofParts_105
    · replace hq := hq.1 c5
      refine hp_iload_n E 2 dX1_ofParts_96 rfl rfl ?_
      refine hp_if_eq E 104 dX1_ofParts_97 (by decide) (fun c6 => ?_) (fun c6 => ?_)
      · replace hq := hq.1 c6
        refine hp_iconst E (nI 0) dX1_ofParts_104 (by decide) ?_
        exact hp_iret E ⟨hq, rfl⟩ hZ dX1_ofParts_105
      · replace hq := hq.2 c6
        refine hp_iconst E (nI 1) dX1_ofParts_100 (by decide) ?_
        refine hp_goto E 105 dX1_ofParts_101 (by decide) ?_
        exact hp_iret E ⟨hq, rfl⟩ hZ dX1_ofParts_105
  replace hq := hq.2.2.2.2.2.2.2 ⟨c8, c9, c10, c11, c12, c13, c14⟩
  refine hp_tswD E 106 dX1_ofParts_1 (hp_out (fun i h1 h2 => ?_)) (by decide) ?_
  · rcases (show i = 7 ∨ i = 8 ∨ i = 9 ∨ i = 10 ∨ i = 11 ∨ i = 12 ∨ i = 13 by omega) with rfl | rfl | rfl | rfl | rfl | rfl | rfl
    · exact hp_nat c8 (by decide)
    · exact hp_nat c9 (by decide)
    · exact hp_nat c10 (by decide)
    · exact hp_nat c11 (by decide)
    · exact hp_nat c12 (by decide)
    · exact hp_nat c13 (by decide)
    · exact hp_nat c14 (by decide)
  · refine hp_iload_n E 1 dX1_ofParts_106 rfl rfl ?_
    refine hp_if_ne E 114 dX1_ofParts_107 (by decide) (fun c7 => ?_) (fun c7 => ?_)
    · replace hq := hq.2 c7
      refine hp_iconst E (nI 0) dX1_ofParts_114 (by decide) ?_
      exact hp_iret E ⟨hq, rfl⟩ hZ dX1_ofParts_115
    · replace hq := hq.1 c7
      refine hp_iconst E (nI 1) dX1_ofParts_110 (by decide) ?_
      refine hp_goto E 115 dX1_ofParts_111 (by decide) ?_
      exact hp_iret E ⟨hq, rfl⟩ hZ dX1_ofParts_115
theorem dX7_sharedValue_0 : decode cX7_sharedValue 0 = .ok (.aload_n 0, 1) := by decide +kernel
theorem dX7_sharedValue_1 : decode cX7_sharedValue 1 = .ok (.getfield 11, 3) := by decide +kernel
theorem dX7_sharedValue_4 : decode cX7_sharedValue 4 = .ok (.iconst 0, 1) := by decide +kernel
theorem dX7_sharedValue_5 : decode cX7_sharedValue 5 = .ok (.iaload, 1) := by decide +kernel
theorem dX7_sharedValue_6 : decode cX7_sharedValue 6 = .ok (.iconst 4, 1) := by decide +kernel
theorem dX7_sharedValue_7 : decode cX7_sharedValue 7 = .ok (.iload_n 1, 1) := by decide +kernel
theorem dX7_sharedValue_8 : decode cX7_sharedValue 8 = .ok (.imul, 1) := by decide +kernel
theorem dX7_sharedValue_9 : decode cX7_sharedValue 9 = .ok (.iushr, 1) := by decide +kernel
theorem dX7_sharedValue_10 : decode cX7_sharedValue 10 = .ok (.bipush 15, 2) := by decide +kernel
theorem dX7_sharedValue_12 : decode cX7_sharedValue 12 = .ok (.iand, 1) := by decide +kernel
theorem dX7_sharedValue_13 : decode cX7_sharedValue 13 = .ok (.ireturn, 1) := by decide +kernel
set_option maxHeartbeats 4000000 in
set_option maxRecDepth 100000 in
theorem c_X7_sharedValue (l : Launch) {cs : Nat → ClassId} {ad : Nat → Nat} {A : Nat → Prop} {D : va_G} (hJ : hp_J SB ad A) {w : Nat} {r : Nat} (hr : hp_sh SB r 7 0 (1, w, 0)) (hw : SB[w]? = some (.inr (0, 13))) (hz : w ≠ hp_V) {h : hp_H} {a1 : Int32} {Q : Int32 → Prop} (hq : q_X7_sharedValue w h a1 Q) : hp_Mi l yX7_sharedValue cX7_sharedValue 2 (some .int) rm_X7_sharedValue [.ref (ad r), .int a1] SB cs ad A D h (fun r h' => Q r ∧ h' = h) := by
  refine hp_met (own := RX7) rfl (by decide) (Nat.le_of_ble_eq_true rfl) rfl (fun p e s m args below meth c Z E hZ hnm => ?_)
  refine hp_sub (lv' := [(0, .ref (ad r)), (1, .int a1)]) [0, 1] rfl ?_
  unfold q_X7_sharedValue at hq
  refine hp_aload_n E 0 dX7_sharedValue_0 rfl rfl ?_
  refine hp_gR E g_RX7_11 hr dX7_sharedValue_1 ?_
  refine hp_iconst E (nI 0) dX7_sharedValue_4 (by decide) ?_
  refine hp_iald E w hw hq.1 dX7_sharedValue_5 ?_
  replace hq := hq.2
  refine hp_iconst E (nI 4) dX7_sharedValue_6 (by decide) ?_
  refine hp_iload_n E 1 dX7_sharedValue_7 rfl rfl ?_
  refine hp_imul E dX7_sharedValue_8 ?_
  refine hp_iushr E dX7_sharedValue_9 ?_
  refine hp_bipush E (nI 15) dX7_sharedValue_10 (by decide) ?_
  refine hp_iand E dX7_sharedValue_12 ?_
  exact hp_iret E ⟨hq, rfl⟩ hZ dX7_sharedValue_13
theorem dX7_ownValue_0 : decode cX7_ownValue 0 = .ok (.bipush 8, 2) := by decide +kernel
theorem dX7_ownValue_2 : decode cX7_ownValue 2 = .ok (.iconst 4, 1) := by decide +kernel
theorem dX7_ownValue_3 : decode cX7_ownValue 3 = .ok (.iload_n 3, 1) := by decide +kernel
theorem dX7_ownValue_4 : decode cX7_ownValue 4 = .ok (.imul, 1) := by decide +kernel
theorem dX7_ownValue_5 : decode cX7_ownValue 5 = .ok (.isub, 1) := by decide +kernel
theorem dX7_ownValue_6 : decode cX7_ownValue 6 = .ok (.istore 4, 2) := by decide +kernel
theorem dX7_ownValue_8 : decode cX7_ownValue 8 = .ok (.aload_n 0, 1) := by decide +kernel
theorem dX7_ownValue_9 : decode cX7_ownValue 9 = .ok (.getfield 11, 3) := by decide +kernel
theorem dX7_ownValue_12 : decode cX7_ownValue 12 = .ok (.iconst 1, 1) := by decide +kernel
theorem dX7_ownValue_13 : decode cX7_ownValue 13 = .ok (.iload_n 1, 1) := by decide +kernel
theorem dX7_ownValue_14 : decode cX7_ownValue 14 = .ok (.iconst 3, 1) := by decide +kernel
theorem dX7_ownValue_15 : decode cX7_ownValue 15 = .ok (.imul, 1) := by decide +kernel
theorem dX7_ownValue_16 : decode cX7_ownValue 16 = .ok (.iadd, 1) := by decide +kernel
theorem dX7_ownValue_17 : decode cX7_ownValue 17 = .ok (.iload_n 2, 1) := by decide +kernel
theorem dX7_ownValue_18 : decode cX7_ownValue 18 = .ok (.iadd, 1) := by decide +kernel
theorem dX7_ownValue_19 : decode cX7_ownValue 19 = .ok (.iaload, 1) := by decide +kernel
theorem dX7_ownValue_20 : decode cX7_ownValue 20 = .ok (.iload 4, 2) := by decide +kernel
theorem dX7_ownValue_22 : decode cX7_ownValue 22 = .ok (.iushr, 1) := by decide +kernel
theorem dX7_ownValue_23 : decode cX7_ownValue 23 = .ok (.bipush 15, 2) := by decide +kernel
theorem dX7_ownValue_25 : decode cX7_ownValue 25 = .ok (.iand, 1) := by decide +kernel
theorem dX7_ownValue_26 : decode cX7_ownValue 26 = .ok (.ireturn, 1) := by decide +kernel
set_option maxHeartbeats 4000000 in
set_option maxRecDepth 100000 in
theorem c_X7_ownValue (l : Launch) {cs : Nat → ClassId} {ad : Nat → Nat} {A : Nat → Prop} {D : va_G} (hJ : hp_J SB ad A) {w : Nat} {r : Nat} (hr : hp_sh SB r 7 0 (1, w, 0)) (hw : SB[w]? = some (.inr (0, 13))) (hz : w ≠ hp_V) {h : hp_H} {a1 a2 a3 : Int32} {Q : Int32 → Prop} (hq : q_X7_ownValue w h a1 a2 a3 Q) : hp_Mi l yX7_ownValue cX7_ownValue 5 (some .int) rm_X7_ownValue [.ref (ad r), .int a1, .int a2, .int a3] SB cs ad A D h (fun r h' => Q r ∧ h' = h) := by
  refine hp_met (own := RX7) rfl (by decide) (Nat.le_of_ble_eq_true rfl) rfl (fun p e s m args below meth c Z E hZ hnm => ?_)
  refine hp_sub (lv' := [(0, .ref (ad r)), (1, .int a1), (2, .int a2), (3, .int a3)]) [0, 1, 2, 3] rfl ?_
  unfold q_X7_ownValue at hq
  refine hp_bipush E (nI 8) dX7_ownValue_0 (by decide) ?_
  refine hp_iconst E (nI 4) dX7_ownValue_2 (by decide) ?_
  refine hp_iload_n E 3 dX7_ownValue_3 rfl rfl ?_
  refine hp_imul E dX7_ownValue_4 ?_
  refine hp_isub E dX7_ownValue_5 ?_
  refine hp_topi (fun v1 ev1 => ?_)
  replace hq := hq v1 ev1
  refine hp_istore (lv' := [(0, .ref (ad r)), (1, .int a1), (2, .int a2), (3, .int a3), (4, .int v1)]) E dX7_ownValue_6 (by decide) rfl rfl ?_
  refine hp_aload_n E 0 dX7_ownValue_8 rfl rfl ?_
  refine hp_gR E g_RX7_11 hr dX7_ownValue_9 ?_
  refine hp_iconst E (nI 1) dX7_ownValue_12 (by decide) ?_
  refine hp_iload_n E 1 dX7_ownValue_13 rfl rfl ?_
  refine hp_iconst E (nI 3) dX7_ownValue_14 (by decide) ?_
  refine hp_imul E dX7_ownValue_15 ?_
  refine hp_iadd E dX7_ownValue_16 ?_
  refine hp_iload_n E 2 dX7_ownValue_17 rfl rfl ?_
  refine hp_iadd E dX7_ownValue_18 ?_
  refine hp_iald E w hw hq.1 dX7_ownValue_19 ?_
  replace hq := hq.2
  refine hp_iload E 4 dX7_ownValue_20 rfl ?_
  refine hp_iushr E dX7_ownValue_22 ?_
  refine hp_bipush E (nI 15) dX7_ownValue_23 (by decide) ?_
  refine hp_iand E dX7_ownValue_25 ?_
  exact hp_iret E ⟨hq, rfl⟩ hZ dX7_ownValue_26
theorem dX7_howManyAt_0 : decode cX7_howManyAt 0 = .ok (.iconst 0, 1) := by decide +kernel
theorem dX7_howManyAt_1 : decode cX7_howManyAt 1 = .ok (.istore 4, 2) := by decide +kernel
theorem dX7_howManyAt_3 : decode cX7_howManyAt 3 = .ok (.iconst 1, 1) := by decide +kernel
theorem dX7_howManyAt_4 : decode cX7_howManyAt 4 = .ok (.iload_n 1, 1) := by decide +kernel
theorem dX7_howManyAt_5 : decode cX7_howManyAt 5 = .ok (.iconst 3, 1) := by decide +kernel
theorem dX7_howManyAt_6 : decode cX7_howManyAt 6 = .ok (.imul, 1) := by decide +kernel
theorem dX7_howManyAt_7 : decode cX7_howManyAt 7 = .ok (.iadd, 1) := by decide +kernel
theorem dX7_howManyAt_8 : decode cX7_howManyAt 8 = .ok (.istore 5, 2) := by decide +kernel
theorem dX7_howManyAt_10 : decode cX7_howManyAt 10 = .ok (.iload 5, 2) := by decide +kernel
theorem dX7_howManyAt_12 : decode cX7_howManyAt 12 = .ok (.istore 6, 2) := by decide +kernel
theorem dX7_howManyAt_14 : decode cX7_howManyAt 14 = .ok (.iload 6, 2) := by decide +kernel
theorem dX7_howManyAt_16 : decode cX7_howManyAt 16 = .ok (.iload 5, 2) := by decide +kernel
theorem dX7_howManyAt_18 : decode cX7_howManyAt 18 = .ok (.iload_n 2, 1) := by decide +kernel
theorem dX7_howManyAt_19 : decode cX7_howManyAt 19 = .ok (.iadd, 1) := by decide +kernel
theorem dX7_howManyAt_20 : decode cX7_howManyAt 20 = .ok (.if_icmp .ge 26, 3) := by decide +kernel
theorem dX7_howManyAt_23 : decode cX7_howManyAt 23 = .ok (.aload_n 0, 1) := by decide +kernel
theorem dX7_howManyAt_24 : decode cX7_howManyAt 24 = .ok (.getfield 11, 3) := by decide +kernel
theorem dX7_howManyAt_27 : decode cX7_howManyAt 27 = .ok (.iload 6, 2) := by decide +kernel
theorem dX7_howManyAt_29 : decode cX7_howManyAt 29 = .ok (.iaload, 1) := by decide +kernel
theorem dX7_howManyAt_30 : decode cX7_howManyAt 30 = .ok (.bipush 12, 2) := by decide +kernel
theorem dX7_howManyAt_32 : decode cX7_howManyAt 32 = .ok (.iushr, 1) := by decide +kernel
theorem dX7_howManyAt_33 : decode cX7_howManyAt 33 = .ok (.iload_n 3, 1) := by decide +kernel
theorem dX7_howManyAt_34 : decode cX7_howManyAt 34 = .ok (.if_icmp .ne 6, 3) := by decide +kernel
theorem dX7_howManyAt_37 : decode cX7_howManyAt 37 = .ok (.iinc 4 1, 3) := by decide +kernel
theorem dX7_howManyAt_40 : decode cX7_howManyAt 40 = .ok (.iinc 6 1, 3) := by decide +kernel
theorem dX7_howManyAt_43 : decode cX7_howManyAt 43 = .ok (.goto (-29), 3) := by decide +kernel
theorem dX7_howManyAt_46 : decode cX7_howManyAt 46 = .ok (.iload 4, 2) := by decide +kernel
theorem dX7_howManyAt_48 : decode cX7_howManyAt 48 = .ok (.ireturn, 1) := by decide +kernel
set_option maxHeartbeats 4000000 in
set_option maxRecDepth 100000 in
theorem c_X7_howManyAt (l : Launch) {cs : Nat → ClassId} {ad : Nat → Nat} {A : Nat → Prop} {D : va_G} (hJ : hp_J SB ad A) {w : Nat} {r : Nat} (hr : hp_sh SB r 7 0 (1, w, 0)) (hw : SB[w]? = some (.inr (0, 13))) (hz : w ≠ hp_V) {h : hp_H} {a1 a2 a3 : Int32} {Q : Int32 → Prop} (hq : q_X7_howManyAt w h a1 a2 a3 Q) : hp_Mi l yX7_howManyAt cX7_howManyAt 7 (some .int) rm_X7_howManyAt [.ref (ad r), .int a1, .int a2, .int a3] SB cs ad A D h (fun r h' => Q r ∧ h' = h) := by
  refine hp_met (own := RX7) rfl (by decide) (Nat.le_of_ble_eq_true rfl) rfl (fun p e s m args below meth c Z E hZ hnm => ?_)
  refine hp_sub (lv' := [(0, .ref (ad r)), (1, .int a1), (2, .int a2), (3, .int a3)]) [0, 1, 2, 3] rfl ?_
  unfold q_X7_howManyAt at hq
  refine hp_iconst E (nI 0) dX7_howManyAt_0 (by decide) ?_
  refine hp_istore (lv' := [(0, .ref (ad r)), (1, .int a1), (2, .int a2), (3, .int a3), (4, .int (nI 0))]) E dX7_howManyAt_1 (by decide) rfl rfl ?_
  refine hp_iconst E (nI 1) dX7_howManyAt_3 (by decide) ?_
  refine hp_iload_n E 1 dX7_howManyAt_4 rfl rfl ?_
  refine hp_iconst E (nI 3) dX7_howManyAt_5 (by decide) ?_
  refine hp_imul E dX7_howManyAt_6 ?_
  refine hp_iadd E dX7_howManyAt_7 ?_
  refine hp_topi (fun v1 ev1 => ?_)
  replace hq := hq v1 ev1
  refine hp_istore (lv' := [(0, .ref (ad r)), (1, .int a1), (2, .int a2), (3, .int a3), (4, .int (nI 0)), (5, .int v1)]) E dX7_howManyAt_8 (by decide) rfl rfl ?_
  refine hp_iload E 5 dX7_howManyAt_10 rfl ?_
  refine hp_istore (lv' := [(0, .ref (ad r)), (1, .int a1), (2, .int a2), (3, .int a3), (4, .int (nI 0)), (5, .int v1), (6, .int v1)]) E dX7_howManyAt_12 (by decide) rfl rfl ?_
  refine hp_sub (lv' := [(0, .ref (ad r)), (2, .int a2), (3, .int a3), (4, .int (nI 0)), (5, .int v1), (6, .int v1)]) [0, 2, 3, 4, 5, 6] rfl ?_
  refine hq (fun v3 v4 => hp_G p l e rm_X7_howManyAt s m args below meth c SB cs ad A D 7 0 0 Z 14 [(0, .ref (ad r)), (2, .int a2), (3, .int a3), (4, .int v3), (5, .int v1), (6, .int v4)] [] h) (fun v3 v4 hB => ?_)
  obtain ⟨B2, hq, hB2⟩ := hB
  refine hp_iload E 5 dX7_howManyAt_14 rfl ?_
  refine hp_iload E 4 dX7_howManyAt_16 rfl ?_
  refine hp_iload_n E 1 dX7_howManyAt_18 rfl rfl ?_
  refine hp_iadd E dX7_howManyAt_19 ?_
  refine hp_icmp_ge E 46 dX7_howManyAt_20 (by decide) (fun c5 => ?_) (fun c5 => ?_)
  · replace hq := hq.1 c5
    refine hp_iload E 3 dX7_howManyAt_46 rfl ?_
    exact hp_iret E ⟨hq, rfl⟩ hZ dX7_howManyAt_48
  · replace hq := hq.2 c5
    refine hp_aload_n E 0 dX7_howManyAt_23 rfl rfl ?_
    refine hp_gR E g_RX7_11 hr dX7_howManyAt_24 ?_
    refine hp_iload E 5 dX7_howManyAt_27 rfl ?_
    refine hp_iald E w hw hq.1 dX7_howManyAt_29 ?_
    replace hq := hq.2
    refine hp_bipush E (nI 12) dX7_howManyAt_30 (by decide) ?_
    refine hp_iushr E dX7_howManyAt_32 ?_
    refine hp_iload_n E 2 dX7_howManyAt_33 rfl rfl ?_
    obtain ⟨K7, hq, hK7⟩ := hq
    have jK7 : ∀ (v8 : Int32), K7 v8 → hp_G p l e rm_X7_howManyAt s m args below meth c SB cs ad A D 7 0 0 Z 40 [(0, .ref (ad r)), (2, .int a2), (3, .int a3), (4, .int v8), (5, .int v1), (6, .int v4)] [] h := by
      intro v8 hq
      replace hq := hK7 v8 hq
      obtain ⟨v10, ev10⟩ : ∃ z : Int32, z = v4 + (nI 1) := ⟨_, rfl⟩
      replace hq := hq v10 ev10
      refine hp_iinc (lv' := [(0, .ref (ad r)), (2, .int a2), (3, .int a3), (4, .int v8), (5, .int v1), (6, .int v10)]) E 5 v10 dX7_howManyAt_40 rfl (by rw [ev10]; rfl) (by decide) rfl rfl ?_
      refine hp_goto E 14 dX7_howManyAt_43 (by decide) ?_
      exact hB2 _ _ hq
    refine hp_icmp_ne E 40 dX7_howManyAt_34 (by decide) (fun c6 => ?_) (fun c6 => ?_)
    · replace hq := hq.2 c6
      exact jK7 _ hq
    · replace hq := hq.1 c6
      obtain ⟨v9, ev9⟩ : ∃ z : Int32, z = v3 + (nI 1) := ⟨_, rfl⟩
      replace hq := hq v9 ev9
      refine hp_iinc (lv' := [(0, .ref (ad r)), (2, .int a2), (3, .int a3), (4, .int v9), (5, .int v1), (6, .int v4)]) E 3 v9 dX7_howManyAt_37 rfl (by rw [ev9]; rfl) (by decide) rfl rfl ?_
      exact jK7 _ hq
theorem dX7_held_0 : decode cX7_held 0 = .ok (.aload_n 0, 1) := by decide +kernel
theorem dX7_held_1 : decode cX7_held 1 = .ok (.getfield 11, 3) := by decide +kernel
theorem dX7_held_4 : decode cX7_held 4 = .ok (.bipush 10, 2) := by decide +kernel
theorem dX7_held_6 : decode cX7_held 6 = .ok (.iload_n 1, 1) := by decide +kernel
theorem dX7_held_7 : decode cX7_held 7 = .ok (.iadd, 1) := by decide +kernel
theorem dX7_held_8 : decode cX7_held 8 = .ok (.iaload, 1) := by decide +kernel
theorem dX7_held_9 : decode cX7_held 9 = .ok (.bipush 12, 2) := by decide +kernel
theorem dX7_held_11 : decode cX7_held 11 = .ok (.iushr, 1) := by decide +kernel
theorem dX7_held_12 : decode cX7_held 12 = .ok (.ireturn, 1) := by decide +kernel
set_option maxHeartbeats 4000000 in
set_option maxRecDepth 100000 in
theorem c_X7_held (l : Launch) {cs : Nat → ClassId} {ad : Nat → Nat} {A : Nat → Prop} {D : va_G} (hJ : hp_J SB ad A) {w : Nat} {r : Nat} (hr : hp_sh SB r 7 0 (1, w, 0)) (hw : SB[w]? = some (.inr (0, 13))) (hz : w ≠ hp_V) {h : hp_H} {a1 : Int32} {Q : Int32 → Prop} (hq : q_X7_held w h a1 Q) : hp_Mi l yX7_held cX7_held 2 (some .int) rm_X7_held [.ref (ad r), .int a1] SB cs ad A D h (fun r h' => Q r ∧ h' = h) := by
  refine hp_met (own := RX7) rfl (by decide) (Nat.le_of_ble_eq_true rfl) rfl (fun p e s m args below meth c Z E hZ hnm => ?_)
  refine hp_sub (lv' := [(0, .ref (ad r)), (1, .int a1)]) [0, 1] rfl ?_
  unfold q_X7_held at hq
  refine hp_aload_n E 0 dX7_held_0 rfl rfl ?_
  refine hp_gR E g_RX7_11 hr dX7_held_1 ?_
  refine hp_bipush E (nI 10) dX7_held_4 (by decide) ?_
  refine hp_iload_n E 1 dX7_held_6 rfl rfl ?_
  refine hp_iadd E dX7_held_7 ?_
  refine hp_iald E w hw hq.1 dX7_held_8 ?_
  replace hq := hq.2
  refine hp_bipush E (nI 12) dX7_held_9 (by decide) ?_
  refine hp_iushr E dX7_held_11 ?_
  exact hp_iret E ⟨hq, rfl⟩ hZ dX7_held_12
theorem dX1_ofRow_0 : decode cX1_ofRow 0 = .ok (.aload_n 0, 1) := by decide +kernel
theorem dX1_ofRow_1 : decode cX1_ofRow 1 = .ok (.getfield 15, 3) := by decide +kernel
theorem dX1_ofRow_4 : decode cX1_ofRow 4 = .ok (.iload_n 1, 1) := by decide +kernel
theorem dX1_ofRow_5 : decode cX1_ofRow 5 = .ok (.iaload, 1) := by decide +kernel
theorem dX1_ofRow_6 : decode cX1_ofRow 6 = .ok (.tableswitch 115 0 5 #[38, 45, 56, 70, 73, 104], 38) := by decide +kernel
theorem dX1_ofRow_44 : decode cX1_ofRow 44 = .ok (.aload_n 0, 1) := by decide +kernel
theorem dX1_ofRow_45 : decode cX1_ofRow 45 = .ok (.getfield 18, 3) := by decide +kernel
theorem dX1_ofRow_48 : decode cX1_ofRow 48 = .ok (.iload_n 1, 1) := by decide +kernel
theorem dX1_ofRow_49 : decode cX1_ofRow 49 = .ok (.iaload, 1) := by decide +kernel
theorem dX1_ofRow_50 : decode cX1_ofRow 50 = .ok (.ireturn, 1) := by decide +kernel
theorem dX1_ofRow_51 : decode cX1_ofRow 51 = .ok (.aload_n 2, 1) := by decide +kernel
theorem dX1_ofRow_52 : decode cX1_ofRow 52 = .ok (.aload_n 0, 1) := by decide +kernel
theorem dX1_ofRow_53 : decode cX1_ofRow 53 = .ok (.getfield 18, 3) := by decide +kernel
theorem dX1_ofRow_56 : decode cX1_ofRow 56 = .ok (.iload_n 1, 1) := by decide +kernel
theorem dX1_ofRow_57 : decode cX1_ofRow 57 = .ok (.iaload, 1) := by decide +kernel
theorem dX1_ofRow_58 : decode cX1_ofRow 58 = .ok (.invokevirtual 61, 3) := by decide +kernel
theorem dX1_ofRow_61 : decode cX1_ofRow 61 = .ok (.ireturn, 1) := by decide +kernel
theorem dX1_ofRow_62 : decode cX1_ofRow 62 = .ok (.aload_n 2, 1) := by decide +kernel
theorem dX1_ofRow_63 : decode cX1_ofRow 63 = .ok (.iload_n 3, 1) := by decide +kernel
theorem dX1_ofRow_64 : decode cX1_ofRow 64 = .ok (.iload 4, 2) := by decide +kernel
theorem dX1_ofRow_66 : decode cX1_ofRow 66 = .ok (.aload_n 0, 1) := by decide +kernel
theorem dX1_ofRow_67 : decode cX1_ofRow 67 = .ok (.getfield 18, 3) := by decide +kernel
theorem dX1_ofRow_70 : decode cX1_ofRow 70 = .ok (.iload_n 1, 1) := by decide +kernel
theorem dX1_ofRow_71 : decode cX1_ofRow 71 = .ok (.iaload, 1) := by decide +kernel
theorem dX1_ofRow_72 : decode cX1_ofRow 72 = .ok (.invokevirtual 67, 3) := by decide +kernel
theorem dX1_ofRow_75 : decode cX1_ofRow 75 = .ok (.ireturn, 1) := by decide +kernel
theorem dX1_ofRow_76 : decode cX1_ofRow 76 = .ok (.iload 4, 2) := by decide +kernel
theorem dX1_ofRow_78 : decode cX1_ofRow 78 = .ok (.ireturn, 1) := by decide +kernel
theorem dX1_ofRow_79 : decode cX1_ofRow 79 = .ok (.aload_n 2, 1) := by decide +kernel
theorem dX1_ofRow_80 : decode cX1_ofRow 80 = .ok (.aload_n 0, 1) := by decide +kernel
theorem dX1_ofRow_81 : decode cX1_ofRow 81 = .ok (.getfield 18, 3) := by decide +kernel
theorem dX1_ofRow_84 : decode cX1_ofRow 84 = .ok (.iload_n 1, 1) := by decide +kernel
theorem dX1_ofRow_85 : decode cX1_ofRow 85 = .ok (.iaload, 1) := by decide +kernel
theorem dX1_ofRow_86 : decode cX1_ofRow 86 = .ok (.aload_n 0, 1) := by decide +kernel
theorem dX1_ofRow_87 : decode cX1_ofRow 87 = .ok (.getfield 34, 3) := by decide +kernel
theorem dX1_ofRow_90 : decode cX1_ofRow 90 = .ok (.getfield 70, 3) := by decide +kernel
theorem dX1_ofRow_93 : decode cX1_ofRow 93 = .ok (.aload_n 0, 1) := by decide +kernel
theorem dX1_ofRow_94 : decode cX1_ofRow 94 = .ok (.getfield 18, 3) := by decide +kernel
theorem dX1_ofRow_97 : decode cX1_ofRow 97 = .ok (.iload_n 1, 1) := by decide +kernel
theorem dX1_ofRow_98 : decode cX1_ofRow 98 = .ok (.iaload, 1) := by decide +kernel
theorem dX1_ofRow_99 : decode cX1_ofRow 99 = .ok (.iaload, 1) := by decide +kernel
theorem dX1_ofRow_100 : decode cX1_ofRow 100 = .ok (.aload_n 0, 1) := by decide +kernel
theorem dX1_ofRow_101 : decode cX1_ofRow 101 = .ok (.getfield 21, 3) := by decide +kernel
theorem dX1_ofRow_104 : decode cX1_ofRow 104 = .ok (.iload_n 1, 1) := by decide +kernel
theorem dX1_ofRow_105 : decode cX1_ofRow 105 = .ok (.iaload, 1) := by decide +kernel
theorem dX1_ofRow_106 : decode cX1_ofRow 106 = .ok (.invokevirtual 75, 3) := by decide +kernel
theorem dX1_ofRow_109 : decode cX1_ofRow 109 = .ok (.ireturn, 1) := by decide +kernel
theorem dX1_ofRow_110 : decode cX1_ofRow 110 = .ok (.aload_n 2, 1) := by decide +kernel
theorem dX1_ofRow_111 : decode cX1_ofRow 111 = .ok (.aload_n 0, 1) := by decide +kernel
theorem dX1_ofRow_112 : decode cX1_ofRow 112 = .ok (.getfield 18, 3) := by decide +kernel
theorem dX1_ofRow_115 : decode cX1_ofRow 115 = .ok (.iload_n 1, 1) := by decide +kernel
theorem dX1_ofRow_116 : decode cX1_ofRow 116 = .ok (.iaload, 1) := by decide +kernel
theorem dX1_ofRow_117 : decode cX1_ofRow 117 = .ok (.invokevirtual 78, 3) := by decide +kernel
theorem dX1_ofRow_120 : decode cX1_ofRow 120 = .ok (.ireturn, 1) := by decide +kernel
theorem dX1_ofRow_121 : decode cX1_ofRow 121 = .ok (.aload_n 2, 1) := by decide +kernel
theorem dX1_ofRow_122 : decode cX1_ofRow 122 = .ok (.aload_n 0, 1) := by decide +kernel
theorem dX1_ofRow_123 : decode cX1_ofRow 123 = .ok (.getfield 18, 3) := by decide +kernel
theorem dX1_ofRow_126 : decode cX1_ofRow 126 = .ok (.iload_n 1, 1) := by decide +kernel
theorem dX1_ofRow_127 : decode cX1_ofRow 127 = .ok (.iaload, 1) := by decide +kernel
theorem dX1_ofRow_128 : decode cX1_ofRow 128 = .ok (.aload_n 0, 1) := by decide +kernel
theorem dX1_ofRow_129 : decode cX1_ofRow 129 = .ok (.getfield 21, 3) := by decide +kernel
theorem dX1_ofRow_132 : decode cX1_ofRow 132 = .ok (.iload_n 1, 1) := by decide +kernel
theorem dX1_ofRow_133 : decode cX1_ofRow 133 = .ok (.iaload, 1) := by decide +kernel
theorem dX1_ofRow_134 : decode cX1_ofRow 134 = .ok (.aload_n 0, 1) := by decide +kernel
theorem dX1_ofRow_135 : decode cX1_ofRow 135 = .ok (.getfield 24, 3) := by decide +kernel
theorem dX1_ofRow_138 : decode cX1_ofRow 138 = .ok (.iload_n 1, 1) := by decide +kernel
theorem dX1_ofRow_139 : decode cX1_ofRow 139 = .ok (.iaload, 1) := by decide +kernel
theorem dX1_ofRow_140 : decode cX1_ofRow 140 = .ok (.invokevirtual 67, 3) := by decide +kernel
theorem dX1_ofRow_143 : decode cX1_ofRow 143 = .ok (.ireturn, 1) := by decide +kernel
set_option maxHeartbeats 4000000 in
set_option maxRecDepth 100000 in
theorem c_X1_ofRow (l : Launch) {cs : Nat → ClassId} {ad : Nat → Nat} {A : Nat → Prop} {D : va_G} (hJ : hp_J SB ad A) {w_2 : Nat} {r_2 : Nat} (hr_2 : hp_sh SB r_2 7 0 (1, w_2, 0)) (hw_2 : SB[w_2]? = some (.inr (0, 13))) (hz_2 : w_2 ≠ hp_V) {h : hp_H} {a1 a3 a4 : Int32} {Q : Int32 → Prop} (hq : q_X1_ofRow w_2 h a1 a3 a4 Q) : hp_Mi l yX1_ofRow cX1_ofRow 5 (some .int) rm_X1_ofRow [.ref (ad 15), .int a1, .ref (ad r_2), .int a3, .int a4] SB cs ad A D h (fun r h' => Q r ∧ h' = h) := by
  refine hp_met (own := RX1) rfl (by decide) (Nat.le_of_ble_eq_true rfl) rfl (fun p e s m args below meth c Z E hZ hnm => ?_)
  refine hp_sub (lv' := [(0, .ref (ad 15)), (1, .int a1), (2, .ref (ad r_2)), (3, .int a3), (4, .int a4)]) [0, 1, 2, 3, 4] rfl ?_
  unfold q_X1_ofRow at hq
  refine hp_aload_n E 0 dX1_ofRow_0 rfl rfl ?_
  refine hp_gR E g_RX1_15 fB_15_3 dX1_ofRow_1 ?_
  refine hp_iload_n E 1 dX1_ofRow_4 rfl rfl ?_
  refine hp_iald E 17 aB_17 hq.1 dX1_ofRow_5 ?_
  replace hq := hq.2
  refine hp_topi (fun v1 ev1 => ?_)
  replace hq := hq v1 ev1
  by_cases c7 : v1 = (nI 0)
  · replace hq := hq.1 (c7)
    refine hp_tswV (off := 38) E (nI 0) 44 dX1_ofRow_6 c7 (by decide) (by decide) (by decide) (by decide) ?_
    refine hp_aload_n E 0 dX1_ofRow_44 rfl rfl ?_
    refine hp_gR E g_RX1_18 fB_15_4 dX1_ofRow_45 ?_
    refine hp_iload_n E 1 dX1_ofRow_48 rfl rfl ?_
    refine hp_iald E 18 aB_18 hq.1 dX1_ofRow_49 ?_
    replace hq := hq.2
    exact hp_iret E ⟨hq, rfl⟩ hZ dX1_ofRow_50
  by_cases c8 : v1 = (nI 1)
  · replace hq := hq.2.1 (c8)
    refine hp_tswV (off := 45) E (nI 1) 51 dX1_ofRow_6 c8 (by decide) (by decide) (by decide) (by decide) ?_
    refine hp_aload_n E 2 dX1_ofRow_51 rfl rfl ?_
    refine hp_aload_n E 0 dX1_ofRow_52 rfl rfl ?_
    refine hp_gR E g_RX1_18 fB_15_4 dX1_ofRow_53 ?_
    refine hp_iload_n E 1 dX1_ofRow_56 rfl rfl ?_
    refine hp_iald E 18 aB_18 hq.1 dX1_ofRow_57 ?_
    replace hq := hq.2
    refine hp_callVip (rest := []) E r_2 hr_2 vcl_7 (c_X7_sharedValue l hJ hr_2 hw_2 hz_2 hq) F_X7_sharedValue m_RX1_61 ⟨rfl, rfl⟩ ⟨Nat.le_of_ble_eq_true rfl, Nat.le_of_ble_eq_true rfl⟩ ⟨Nat.zero_le _, Nat.zero_le _⟩ rfl rfl (Nat.le_of_ble_eq_true rfl) dX1_ofRow_58 (fun r2 hq => ?_)
    exact hp_iret E ⟨hq, rfl⟩ hZ dX1_ofRow_61
  by_cases c9 : v1 = (nI 2)
  · replace hq := hq.2.2.1 (c9)
    refine hp_tswV (off := 56) E (nI 2) 62 dX1_ofRow_6 c9 (by decide) (by decide) (by decide) (by decide) ?_
    refine hp_aload_n E 2 dX1_ofRow_62 rfl rfl ?_
    refine hp_iload_n E 3 dX1_ofRow_63 rfl rfl ?_
    refine hp_iload E 4 dX1_ofRow_64 rfl ?_
    refine hp_aload_n E 0 dX1_ofRow_66 rfl rfl ?_
    refine hp_gR E g_RX1_18 fB_15_4 dX1_ofRow_67 ?_
    refine hp_iload_n E 1 dX1_ofRow_70 rfl rfl ?_
    refine hp_iald E 18 aB_18 hq.1 dX1_ofRow_71 ?_
    replace hq := hq.2
    refine hp_callVip (rest := []) E r_2 hr_2 vcl_7 (c_X7_ownValue l hJ hr_2 hw_2 hz_2 hq) F_X7_ownValue m_RX1_67 ⟨rfl, rfl⟩ ⟨Nat.le_of_ble_eq_true rfl, Nat.le_of_ble_eq_true rfl⟩ ⟨Nat.zero_le _, Nat.zero_le _⟩ rfl rfl (Nat.le_of_ble_eq_true rfl) dX1_ofRow_72 (fun r3 hq => ?_)
    exact hp_iret E ⟨hq, rfl⟩ hZ dX1_ofRow_75
  by_cases c10 : v1 = (nI 3)
  · replace hq := hq.2.2.2.1 (c10)
    refine hp_tswV (off := 70) E (nI 3) 76 dX1_ofRow_6 c10 (by decide) (by decide) (by decide) (by decide) ?_
    refine hp_iload E 4 dX1_ofRow_76 rfl ?_
    exact hp_iret E ⟨hq, rfl⟩ hZ dX1_ofRow_78
  by_cases c11 : v1 = (nI 4)
  · replace hq := hq.2.2.2.2.1 (c11)
    refine hp_tswV (off := 73) E (nI 4) 79 dX1_ofRow_6 c11 (by decide) (by decide) (by decide) (by decide) ?_
    refine hp_aload_n E 2 dX1_ofRow_79 rfl rfl ?_
    refine hp_aload_n E 0 dX1_ofRow_80 rfl rfl ?_
    refine hp_gR E g_RX1_18 fB_15_4 dX1_ofRow_81 ?_
    refine hp_iload_n E 1 dX1_ofRow_84 rfl rfl ?_
    refine hp_iald E 18 aB_18 hq.1 dX1_ofRow_85 ?_
    replace hq := hq.2
    refine hp_aload_n E 0 dX1_ofRow_86 rfl rfl ?_
    refine hp_gR E g_RX1_34 fB_15_2 dX1_ofRow_87 ?_
    refine hp_gR E g_RX1_70 fB_12_0 dX1_ofRow_90 ?_
    refine hp_aload_n E 0 dX1_ofRow_93 rfl rfl ?_
    refine hp_gR E g_RX1_18 fB_15_4 dX1_ofRow_94 ?_
    refine hp_iload_n E 1 dX1_ofRow_97 rfl rfl ?_
    refine hp_iald E 18 aB_18 hq.1 dX1_ofRow_98 ?_
    replace hq := hq.2
    refine hp_iald E 13 aB_13 hq.1 dX1_ofRow_99 ?_
    replace hq := hq.2
    refine hp_aload_n E 0 dX1_ofRow_100 rfl rfl ?_
    refine hp_gR E g_RX1_21 fB_15_5 dX1_ofRow_101 ?_
    refine hp_iload_n E 1 dX1_ofRow_104 rfl rfl ?_
    refine hp_iald E 19 aB_19 hq.1 dX1_ofRow_105 ?_
    replace hq := hq.2
    refine hp_callVip (rest := []) E r_2 hr_2 vcl_7 (c_X7_howManyAt l hJ hr_2 hw_2 hz_2 hq) F_X7_howManyAt m_RX1_75 ⟨rfl, rfl⟩ ⟨Nat.le_of_ble_eq_true rfl, Nat.le_of_ble_eq_true rfl⟩ ⟨Nat.zero_le _, Nat.zero_le _⟩ rfl rfl (Nat.le_of_ble_eq_true rfl) dX1_ofRow_106 (fun r4 hq => ?_)
    exact hp_iret E ⟨hq, rfl⟩ hZ dX1_ofRow_109
  by_cases c12 : v1 = (nI 5)
  · replace hq := hq.2.2.2.2.2.1 (c12)
    refine hp_tswV (off := 104) E (nI 5) 110 dX1_ofRow_6 c12 (by decide) (by decide) (by decide) (by decide) ?_
    refine hp_aload_n E 2 dX1_ofRow_110 rfl rfl ?_
    refine hp_aload_n E 0 dX1_ofRow_111 rfl rfl ?_
    refine hp_gR E g_RX1_18 fB_15_4 dX1_ofRow_112 ?_
    refine hp_iload_n E 1 dX1_ofRow_115 rfl rfl ?_
    refine hp_iald E 18 aB_18 hq.1 dX1_ofRow_116 ?_
    replace hq := hq.2
    refine hp_callVip (rest := []) E r_2 hr_2 vcl_7 (c_X7_held l hJ hr_2 hw_2 hz_2 hq) F_X7_held m_RX1_78 ⟨rfl, rfl⟩ ⟨Nat.le_of_ble_eq_true rfl, Nat.le_of_ble_eq_true rfl⟩ ⟨Nat.zero_le _, Nat.zero_le _⟩ rfl rfl (Nat.le_of_ble_eq_true rfl) dX1_ofRow_117 (fun r5 hq => ?_)
    exact hp_iret E ⟨hq, rfl⟩ hZ dX1_ofRow_120
  replace hq := hq.2.2.2.2.2.2 ⟨c7, c8, c9, c10, c11, c12⟩
  refine hp_tswD E 121 dX1_ofRow_6 (hp_out (fun i h1 h2 => ?_)) (by decide) ?_
  · rcases (show i = 0 ∨ i = 1 ∨ i = 2 ∨ i = 3 ∨ i = 4 ∨ i = 5 by omega) with rfl | rfl | rfl | rfl | rfl | rfl
    · exact hp_nat c7 (by decide)
    · exact hp_nat c8 (by decide)
    · exact hp_nat c9 (by decide)
    · exact hp_nat c10 (by decide)
    · exact hp_nat c11 (by decide)
    · exact hp_nat c12 (by decide)
  · refine hp_aload_n E 2 dX1_ofRow_121 rfl rfl ?_
    refine hp_aload_n E 0 dX1_ofRow_122 rfl rfl ?_
    refine hp_gR E g_RX1_18 fB_15_4 dX1_ofRow_123 ?_
    refine hp_iload_n E 1 dX1_ofRow_126 rfl rfl ?_
    refine hp_iald E 18 aB_18 hq.1 dX1_ofRow_127 ?_
    replace hq := hq.2
    refine hp_aload_n E 0 dX1_ofRow_128 rfl rfl ?_
    refine hp_gR E g_RX1_21 fB_15_5 dX1_ofRow_129 ?_
    refine hp_iload_n E 1 dX1_ofRow_132 rfl rfl ?_
    refine hp_iald E 19 aB_19 hq.1 dX1_ofRow_133 ?_
    replace hq := hq.2
    refine hp_aload_n E 0 dX1_ofRow_134 rfl rfl ?_
    refine hp_gR E g_RX1_24 fB_15_6 dX1_ofRow_135 ?_
    refine hp_iload_n E 1 dX1_ofRow_138 rfl rfl ?_
    refine hp_iald E 20 aB_20 hq.1 dX1_ofRow_139 ?_
    replace hq := hq.2
    refine hp_callVip (rest := []) E r_2 hr_2 vcl_7 (c_X7_ownValue l hJ hr_2 hw_2 hz_2 hq) F_X7_ownValue m_RX1_67 ⟨rfl, rfl⟩ ⟨Nat.le_of_ble_eq_true rfl, Nat.le_of_ble_eq_true rfl⟩ ⟨Nat.zero_le _, Nat.zero_le _⟩ rfl rfl (Nat.le_of_ble_eq_true rfl) dX1_ofRow_140 (fun r6 hq => ?_)
    exact hp_iret E ⟨hq, rfl⟩ hZ dX1_ofRow_143
theorem dX1_reckon_0 : decode cX1_reckon 0 = .ok (.iconst 0, 1) := by decide +kernel
theorem dX1_reckon_1 : decode cX1_reckon 1 = .ok (.istore 5, 2) := by decide +kernel
theorem dX1_reckon_3 : decode cX1_reckon 3 = .ok (.iload 5, 2) := by decide +kernel
theorem dX1_reckon_5 : decode cX1_reckon 5 = .ok (.aload_n 0, 1) := by decide +kernel
theorem dX1_reckon_6 : decode cX1_reckon 6 = .ok (.getfield 38, 3) := by decide +kernel
theorem dX1_reckon_9 : decode cX1_reckon 9 = .ok (.if_icmp .ge 115, 3) := by decide +kernel
theorem dX1_reckon_12 : decode cX1_reckon 12 = .ok (.aload_n 0, 1) := by decide +kernel
theorem dX1_reckon_13 : decode cX1_reckon 13 = .ok (.getfield 27, 3) := by decide +kernel
theorem dX1_reckon_16 : decode cX1_reckon 16 = .ok (.iload 5, 2) := by decide +kernel
theorem dX1_reckon_18 : decode cX1_reckon 18 = .ok (.iaload, 1) := by decide +kernel
theorem dX1_reckon_19 : decode cX1_reckon 19 = .ok (.iload 4, 2) := by decide +kernel
theorem dX1_reckon_21 : decode cX1_reckon 21 = .ok (.iand, 1) := by decide +kernel
theorem dX1_reckon_22 : decode cX1_reckon 22 = .ok (.ifCond .ne 6, 3) := by decide +kernel
theorem dX1_reckon_25 : decode cX1_reckon 25 = .ok (.goto 93, 3) := by decide +kernel
theorem dX1_reckon_28 : decode cX1_reckon 28 = .ok (.aload_n 0, 1) := by decide +kernel
theorem dX1_reckon_29 : decode cX1_reckon 29 = .ok (.getfield 15, 3) := by decide +kernel
theorem dX1_reckon_32 : decode cX1_reckon 32 = .ok (.iload 5, 2) := by decide +kernel
theorem dX1_reckon_34 : decode cX1_reckon 34 = .ok (.iaload, 1) := by decide +kernel
theorem dX1_reckon_35 : decode cX1_reckon 35 = .ok (.invokestatic 46, 3) := by decide +kernel
theorem dX1_reckon_38 : decode cX1_reckon 38 = .ok (.ifCond .eq 64, 3) := by decide +kernel
theorem dX1_reckon_41 : decode cX1_reckon 41 = .ok (.aload_n 0, 1) := by decide +kernel
theorem dX1_reckon_42 : decode cX1_reckon 42 = .ok (.getfield 9, 3) := by decide +kernel
theorem dX1_reckon_45 : decode cX1_reckon 45 = .ok (.iload 5, 2) := by decide +kernel
theorem dX1_reckon_47 : decode cX1_reckon 47 = .ok (.aload_n 0, 1) := by decide +kernel
theorem dX1_reckon_48 : decode cX1_reckon 48 = .ok (.getfield 15, 3) := by decide +kernel
theorem dX1_reckon_51 : decode cX1_reckon 51 = .ok (.iload 5, 2) := by decide +kernel
theorem dX1_reckon_53 : decode cX1_reckon 53 = .ok (.iaload, 1) := by decide +kernel
theorem dX1_reckon_54 : decode cX1_reckon 54 = .ok (.aload_n 0, 1) := by decide +kernel
theorem dX1_reckon_55 : decode cX1_reckon 55 = .ok (.getfield 9, 3) := by decide +kernel
theorem dX1_reckon_58 : decode cX1_reckon 58 = .ok (.aload_n 0, 1) := by decide +kernel
theorem dX1_reckon_59 : decode cX1_reckon 59 = .ok (.getfield 18, 3) := by decide +kernel
theorem dX1_reckon_62 : decode cX1_reckon 62 = .ok (.iload 5, 2) := by decide +kernel
theorem dX1_reckon_64 : decode cX1_reckon 64 = .ok (.iaload, 1) := by decide +kernel
theorem dX1_reckon_65 : decode cX1_reckon 65 = .ok (.iaload, 1) := by decide +kernel
theorem dX1_reckon_66 : decode cX1_reckon 66 = .ok (.aload_n 0, 1) := by decide +kernel
theorem dX1_reckon_67 : decode cX1_reckon 67 = .ok (.getfield 15, 3) := by decide +kernel
theorem dX1_reckon_70 : decode cX1_reckon 70 = .ok (.iload 5, 2) := by decide +kernel
theorem dX1_reckon_72 : decode cX1_reckon 72 = .ok (.iaload, 1) := by decide +kernel
theorem dX1_reckon_73 : decode cX1_reckon 73 = .ok (.invokestatic 50, 3) := by decide +kernel
theorem dX1_reckon_76 : decode cX1_reckon 76 = .ok (.ifCond .eq 18, 3) := by decide +kernel
theorem dX1_reckon_79 : decode cX1_reckon 79 = .ok (.aload_n 0, 1) := by decide +kernel
theorem dX1_reckon_80 : decode cX1_reckon 80 = .ok (.getfield 9, 3) := by decide +kernel
theorem dX1_reckon_83 : decode cX1_reckon 83 = .ok (.aload_n 0, 1) := by decide +kernel
theorem dX1_reckon_84 : decode cX1_reckon 84 = .ok (.getfield 21, 3) := by decide +kernel
theorem dX1_reckon_87 : decode cX1_reckon 87 = .ok (.iload 5, 2) := by decide +kernel
theorem dX1_reckon_89 : decode cX1_reckon 89 = .ok (.iaload, 1) := by decide +kernel
theorem dX1_reckon_90 : decode cX1_reckon 90 = .ok (.iaload, 1) := by decide +kernel
theorem dX1_reckon_91 : decode cX1_reckon 91 = .ok (.goto 4, 3) := by decide +kernel
theorem dX1_reckon_94 : decode cX1_reckon 94 = .ok (.iconst 0, 1) := by decide +kernel
theorem dX1_reckon_95 : decode cX1_reckon 95 = .ok (.invokestatic 53, 3) := by decide +kernel
theorem dX1_reckon_98 : decode cX1_reckon 98 = .ok (.iastore, 1) := by decide +kernel
theorem dX1_reckon_99 : decode cX1_reckon 99 = .ok (.goto 19, 3) := by decide +kernel
theorem dX1_reckon_102 : decode cX1_reckon 102 = .ok (.aload_n 0, 1) := by decide +kernel
theorem dX1_reckon_103 : decode cX1_reckon 103 = .ok (.getfield 9, 3) := by decide +kernel
theorem dX1_reckon_106 : decode cX1_reckon 106 = .ok (.iload 5, 2) := by decide +kernel
theorem dX1_reckon_108 : decode cX1_reckon 108 = .ok (.aload_n 0, 1) := by decide +kernel
theorem dX1_reckon_109 : decode cX1_reckon 109 = .ok (.iload 5, 2) := by decide +kernel
theorem dX1_reckon_111 : decode cX1_reckon 111 = .ok (.aload_n 1, 1) := by decide +kernel
theorem dX1_reckon_112 : decode cX1_reckon 112 = .ok (.iload_n 2, 1) := by decide +kernel
theorem dX1_reckon_113 : decode cX1_reckon 113 = .ok (.iload_n 3, 1) := by decide +kernel
theorem dX1_reckon_114 : decode cX1_reckon 114 = .ok (.invokevirtual 57, 3) := by decide +kernel
theorem dX1_reckon_117 : decode cX1_reckon 117 = .ok (.iastore, 1) := by decide +kernel
theorem dX1_reckon_118 : decode cX1_reckon 118 = .ok (.iinc 5 1, 3) := by decide +kernel
theorem dX1_reckon_121 : decode cX1_reckon 121 = .ok (.goto (-118), 3) := by decide +kernel
theorem dX1_reckon_124 : decode cX1_reckon 124 = .ok (.return_, 1) := by decide +kernel
set_option maxHeartbeats 4000000 in
set_option maxRecDepth 100000 in
theorem c_X1_reckon (l : Launch) {cs : Nat → ClassId} {ad : Nat → Nat} {A : Nat → Prop} {D : va_G} (hJ : hp_J SB ad A) {w_1 : Nat} {r_1 : Nat} (hr_1 : hp_sh SB r_1 7 0 (1, w_1, 0)) (hw_1 : SB[w_1]? = some (.inr (0, 13))) (hz_1 : w_1 ≠ hp_V) {h : hp_H} {a2 a3 a4 : Int32} {Q : hp_H → Prop} (hq : q_X1_reckon w_1 h a2 a3 a4 Q) : hp_Mv l yX1_reckon cX1_reckon 6 none rm_X1_reckon [.ref (ad 15), .ref (ad r_1), .int a2, .int a3, .int a4] SB cs ad A D h Q := by
  refine hp_met (own := RX1) rfl (by decide) (Nat.le_of_ble_eq_true rfl) rfl (fun p e s m args below meth c Z E hZ hnm => ?_)
  refine hp_sub (lv' := [(0, .ref (ad 15)), (1, .ref (ad r_1)), (2, .int a2), (3, .int a3), (4, .int a4)]) [0, 1, 2, 3, 4] rfl ?_
  unfold q_X1_reckon at hq
  refine hp_iconst E (nI 0) dX1_reckon_0 (by decide) ?_
  refine hp_istore (lv' := [(0, .ref (ad 15)), (1, .ref (ad r_1)), (2, .int a2), (3, .int a3), (4, .int a4), (5, .int (nI 0))]) E dX1_reckon_1 (by decide) rfl rfl ?_
  refine hq (fun v2 h3 => hp_G p l e rm_X1_reckon s m args below meth c SB cs ad A D 6 0 0 Z 3 [(0, .ref (ad 15)), (1, .ref (ad r_1)), (2, .int a2), (3, .int a3), (4, .int a4), (5, .int v2)] [] h3) (fun v2 h3 hB => ?_)
  obtain ⟨B1, hq, hB1⟩ := hB
  refine hp_iload E 5 dX1_reckon_3 rfl ?_
  refine hp_aload_n E 0 dX1_reckon_5 rfl rfl ?_
  refine hp_gI E g_RX1_38 fB_15_1 dX1_reckon_6 ?_
  refine hp_icmp_ge E 124 dX1_reckon_9 (by decide) (fun c4 => ?_) (fun c4 => ?_)
  · replace hq := hq.1 c4
    exact hp_vret E hq hZ dX1_reckon_124
  · replace hq := hq.2 c4
    refine hp_aload_n E 0 dX1_reckon_12 rfl rfl ?_
    refine hp_gR E g_RX1_27 fB_15_7 dX1_reckon_13 ?_
    refine hp_iload E 5 dX1_reckon_16 rfl ?_
    refine hp_iald E 21 aB_21 hq.1 dX1_reckon_18 ?_
    replace hq := hq.2
    refine hp_iload E 4 dX1_reckon_19 rfl ?_
    refine hp_iand E dX1_reckon_21 ?_
    obtain ⟨K6, hq, hK6⟩ := hq
    have jK6 : ∀  (h7 : hp_H), K6 h7 → hp_G p l e rm_X1_reckon s m args below meth c SB cs ad A D 6 0 0 Z 118 [(0, .ref (ad 15)), (1, .ref (ad r_1)), (2, .int a2), (3, .int a3), (4, .int a4), (5, .int v2)] [] h7 := by
      intro h7 hq
      replace hq := hK6 h7 hq
      obtain ⟨v18, ev18⟩ : ∃ z : Int32, z = v2 + (nI 1) := ⟨_, rfl⟩
      replace hq := hq v18 ev18
      refine hp_iinc (lv' := [(0, .ref (ad 15)), (1, .ref (ad r_1)), (2, .int a2), (3, .int a3), (4, .int a4), (5, .int v18)]) E 5 v18 dX1_reckon_118 rfl (by rw [ev18]; rfl) (by decide) rfl rfl ?_
      refine hp_goto E 3 dX1_reckon_121 (by decide) ?_
      exact hB1 _ _ hq
    refine hp_if_ne E 28 dX1_reckon_22 (by decide) (fun c5 => ?_) (fun c5 => ?_)
    · replace hq := hq.2 c5
      refine hp_aload_n E 0 dX1_reckon_28 rfl rfl ?_
      refine hp_gR E g_RX1_15 fB_15_3 dX1_reckon_29 ?_
      refine hp_iload E 5 dX1_reckon_32 rfl ?_
      refine hp_iald E 17 aB_17 hq.1 dX1_reckon_34 ?_
      replace hq := hq.2
      refine hp_callSip (rest := []) E (c_X1_isMade l hJ hq) F_X1_isMade m_RX1_46 ⟨rfl, rfl⟩ ⟨Nat.le_of_ble_eq_true rfl, Nat.le_of_ble_eq_true rfl⟩ ⟨Nat.zero_le _, Nat.zero_le _⟩ rfl rfl (Nat.le_of_ble_eq_true rfl) dX1_reckon_35 (fun r8 hq => ?_)
      refine hp_if_eq E 102 dX1_reckon_38 (by decide) (fun c9 => ?_) (fun c9 => ?_)
      · replace hq := hq.1 c9
        refine hp_aload_n E 0 dX1_reckon_102 rfl rfl ?_
        refine hp_gR E g_RX1_9 fB_15_0 dX1_reckon_103 ?_
        refine hp_iload E 5 dX1_reckon_106 rfl ?_
        refine hp_aload_n E 0 dX1_reckon_108 rfl rfl ?_
        refine hp_iload E 5 dX1_reckon_109 rfl ?_
        refine hp_aload_n E 1 dX1_reckon_111 rfl rfl ?_
        refine hp_iload_n E 2 dX1_reckon_112 rfl rfl ?_
        refine hp_iload_n E 3 dX1_reckon_113 rfl rfl ?_
        refine hp_callVip (rest := [.int v2, .ref (ad 16)]) E 15 fB_15_0 vcl_1 (c_X1_ofRow l hJ hr_1 hw_1 hz_1 hq) F_X1_ofRow m_RX1_57 ⟨rfl, rfl⟩ ⟨Nat.le_of_ble_eq_true rfl, Nat.le_of_ble_eq_true rfl⟩ ⟨Nat.zero_le _, Nat.zero_le _⟩ rfl rfl (Nat.le_of_ble_eq_true rfl) dX1_reckon_114 (fun r10 hq => ?_)
        have hin := hq.1
        replace hq := hq.2
        refine hp_iast E 16 aB_16 zB_16 hJ hin dX1_reckon_117 ?_
        refine hp_toph (fun h11 eh11 => ?_)
        replace hq := hq h11 eh11
        exact jK6 _ hq
      · replace hq := hq.2 c9
        refine hp_aload_n E 0 dX1_reckon_41 rfl rfl ?_
        refine hp_gR E g_RX1_9 fB_15_0 dX1_reckon_42 ?_
        refine hp_iload E 5 dX1_reckon_45 rfl ?_
        refine hp_aload_n E 0 dX1_reckon_47 rfl rfl ?_
        refine hp_gR E g_RX1_15 fB_15_3 dX1_reckon_48 ?_
        refine hp_iload E 5 dX1_reckon_51 rfl ?_
        refine hp_iald E 17 aB_17 hq.1 dX1_reckon_53 ?_
        replace hq := hq.2
        refine hp_aload_n E 0 dX1_reckon_54 rfl rfl ?_
        refine hp_gR E g_RX1_9 fB_15_0 dX1_reckon_55 ?_
        refine hp_aload_n E 0 dX1_reckon_58 rfl rfl ?_
        refine hp_gR E g_RX1_18 fB_15_4 dX1_reckon_59 ?_
        refine hp_iload E 5 dX1_reckon_62 rfl ?_
        refine hp_iald E 18 aB_18 hq.1 dX1_reckon_64 ?_
        replace hq := hq.2
        refine hp_iald E 16 aB_16 hq.1 dX1_reckon_65 ?_
        replace hq := hq.2
        refine hp_aload_n E 0 dX1_reckon_66 rfl rfl ?_
        refine hp_gR E g_RX1_15 fB_15_3 dX1_reckon_67 ?_
        refine hp_iload E 5 dX1_reckon_70 rfl ?_
        refine hp_iald E 17 aB_17 hq.1 dX1_reckon_72 ?_
        replace hq := hq.2
        refine hp_callSip (rest := [.int (h3 16 (h3 18 v2.toNatClampNeg).toNatClampNeg), .int (h3 17 v2.toNatClampNeg), .int v2, .ref (ad 16)]) E (c_X1_isMadeOfTwo l hJ hq) F_X1_isMadeOfTwo m_RX1_50 ⟨rfl, rfl⟩ ⟨Nat.le_of_ble_eq_true rfl, Nat.le_of_ble_eq_true rfl⟩ ⟨Nat.zero_le _, Nat.zero_le _⟩ rfl rfl (Nat.le_of_ble_eq_true rfl) dX1_reckon_73 (fun r12 hq => ?_)
        obtain ⟨K14, hq, hK14⟩ := hq
        have jK14 : ∀ (v15 : Int32), K14 v15 → hp_G p l e rm_X1_reckon s m args below meth c SB cs ad A D 6 0 0 Z 95 [(0, .ref (ad 15)), (1, .ref (ad r_1)), (2, .int a2), (3, .int a3), (4, .int a4), (5, .int v2)] [.int v15, .int (h3 16 (h3 18 v2.toNatClampNeg).toNatClampNeg), .int (h3 17 v2.toNatClampNeg), .int v2, .ref (ad 16)] h3 := by
          intro v15 hq
          replace hq := hK14 v15 hq
          refine hp_callSip (rest := [.int v2, .ref (ad 16)]) E (c_X1_ofParts l hJ hq) F_X1_ofParts m_RX1_53 ⟨rfl, rfl⟩ ⟨Nat.le_of_ble_eq_true rfl, Nat.le_of_ble_eq_true rfl⟩ ⟨Nat.zero_le _, Nat.zero_le _⟩ rfl rfl (Nat.le_of_ble_eq_true rfl) dX1_reckon_95 (fun r16 hq => ?_)
          have hin := hq.1
          replace hq := hq.2
          refine hp_iast E 16 aB_16 zB_16 hJ hin dX1_reckon_98 ?_
          refine hp_toph (fun h17 eh17 => ?_)
          replace hq := hq h17 eh17
          refine hp_goto E 118 dX1_reckon_99 (by decide) ?_
          exact jK6 _ hq
        refine hp_if_eq E 94 dX1_reckon_76 (by decide) (fun c13 => ?_) (fun c13 => ?_)
        · replace hq := hq.1 c13
          refine hp_iconst E (nI 0) dX1_reckon_94 (by decide) ?_
          exact jK14 _ hq
        · replace hq := hq.2 c13
          refine hp_aload_n E 0 dX1_reckon_79 rfl rfl ?_
          refine hp_gR E g_RX1_9 fB_15_0 dX1_reckon_80 ?_
          refine hp_aload_n E 0 dX1_reckon_83 rfl rfl ?_
          refine hp_gR E g_RX1_21 fB_15_5 dX1_reckon_84 ?_
          refine hp_iload E 5 dX1_reckon_87 rfl ?_
          refine hp_iald E 19 aB_19 hq.1 dX1_reckon_89 ?_
          replace hq := hq.2
          refine hp_iald E 16 aB_16 hq.1 dX1_reckon_90 ?_
          replace hq := hq.2
          refine hp_goto E 95 dX1_reckon_91 (by decide) ?_
          exact jK14 _ hq
    · replace hq := hq.1 c5
      refine hp_goto E 118 dX1_reckon_25 (by decide) ?_
      exact jK6 _ hq
theorem dX5_lookAt_0 : decode cX5_lookAt 0 = .ok (.aload_n 0, 1) := by decide +kernel
theorem dX5_lookAt_1 : decode cX5_lookAt 1 = .ok (.getfield 18, 3) := by decide +kernel
theorem dX5_lookAt_4 : decode cX5_lookAt 4 = .ok (.getfield 32, 3) := by decide +kernel
theorem dX5_lookAt_7 : decode cX5_lookAt 7 = .ok (.aload_n 0, 1) := by decide +kernel
theorem dX5_lookAt_8 : decode cX5_lookAt 8 = .ok (.iload_n 1, 1) := by decide +kernel
theorem dX5_lookAt_9 : decode cX5_lookAt 9 = .ok (.invokevirtual 57, 3) := by decide +kernel
theorem dX5_lookAt_12 : decode cX5_lookAt 12 = .ok (.iconst 0, 1) := by decide +kernel
theorem dX5_lookAt_13 : decode cX5_lookAt 13 = .ok (.iconst 0, 1) := by decide +kernel
theorem dX5_lookAt_14 : decode cX5_lookAt 14 = .ok (.bipush 8, 2) := by decide +kernel
theorem dX5_lookAt_16 : decode cX5_lookAt 16 = .ok (.invokevirtual 61, 3) := by decide +kernel
theorem dX5_lookAt_19 : decode cX5_lookAt 19 = .ok (.return_, 1) := by decide +kernel
set_option maxHeartbeats 4000000 in
set_option maxRecDepth 100000 in
theorem c_X5_lookAt (l : Launch) {cs : Nat → ClassId} {ad : Nat → Nat} {A : Nat → Prop} {D : va_G} (hJ : hp_J SB ad A)   {h : hp_H} {a1 : Int32} {Q : hp_H → Prop} (hq : q_X5_lookAt h a1 Q) : hp_Mv l yX5_lookAt cX5_lookAt 2 none rm_X5_lookAt [.ref (ad 50), .int a1] SB cs ad A D h Q := by
  refine hp_met (own := RX5) rfl (by decide) (Nat.le_of_ble_eq_true rfl) rfl (fun p e s m args below meth c Z E hZ hnm => ?_)
  refine hp_sub (lv' := [(0, .ref (ad 50)), (1, .int a1)]) [0, 1] rfl ?_
  unfold q_X5_lookAt at hq
  refine hp_aload_n E 0 dX5_lookAt_0 rfl rfl ?_
  refine hp_gR E g_RX5_18 fB_50_0 dX5_lookAt_1 ?_
  refine hp_gR E g_RX5_32 fB_1_3 dX5_lookAt_4 ?_
  refine hp_aload_n E 0 dX5_lookAt_7 rfl rfl ?_
  refine hp_iload_n E 1 dX5_lookAt_8 rfl rfl ?_
  refine hp_callVr' (rest := [.ref (ad 15)]) E 50 fB_50_0 vcl_5 (c_X5_rowOf l hJ hq) F_X5_rowOf m_RX5_57 ⟨rfl, rfl⟩ ⟨Nat.le_of_ble_eq_true rfl, Nat.le_of_ble_eq_true rfl⟩ ⟨Nat.zero_le _, Nat.zero_le _⟩ rfl rfl (Nat.le_of_ble_eq_true rfl) dX5_lookAt_9 (fun h1 hq => ?_)
  refine hp_iconst E (nI 0) dX5_lookAt_12 (by decide) ?_
  refine hp_iconst E (nI 0) dX5_lookAt_13 (by decide) ?_
  refine hp_bipush E (nI 8) dX5_lookAt_14 (by decide) ?_
  refine hp_callVv' (rest := []) E 15 fB_15_0 vcl_1 (c_X1_reckon l hJ fB_51_0 aB_52 zB_52 hq) F_X1_reckon m_RX5_61 ⟨rfl, rfl⟩ ⟨Nat.le_of_ble_eq_true rfl, Nat.le_of_ble_eq_true rfl⟩ ⟨Nat.zero_le _, Nat.zero_le _⟩ rfl rfl (Nat.le_of_ble_eq_true rfl) dX5_lookAt_16 (fun h2 hq => ?_)
  exact hp_vret E hq hZ dX5_lookAt_19
theorem dX5_answer_0 : decode cX5_answer 0 = .ok (.aload_n 0, 1) := by decide +kernel
theorem dX5_answer_1 : decode cX5_answer 1 = .ok (.getfield 18, 3) := by decide +kernel
theorem dX5_answer_4 : decode cX5_answer 4 = .ok (.getfield 32, 3) := by decide +kernel
theorem dX5_answer_7 : decode cX5_answer 7 = .ok (.getfield 65, 3) := by decide +kernel
theorem dX5_answer_10 : decode cX5_answer 10 = .ok (.iload_n 1, 1) := by decide +kernel
theorem dX5_answer_11 : decode cX5_answer 11 = .ok (.iaload, 1) := by decide +kernel
theorem dX5_answer_12 : decode cX5_answer 12 = .ok (.ireturn, 1) := by decide +kernel
set_option maxHeartbeats 4000000 in
set_option maxRecDepth 100000 in
theorem c_X5_answer (l : Launch) {cs : Nat → ClassId} {ad : Nat → Nat} {A : Nat → Prop} {D : va_G} (hJ : hp_J SB ad A)   {h : hp_H} {a1 : Int32} {Q : Int32 → Prop} (hq : q_X5_answer h a1 Q) : hp_Mi l yX5_answer cX5_answer 2 (some .int) rm_X5_answer [.ref (ad 50), .int a1] SB cs ad A D h (fun r h' => Q r ∧ h' = h) := by
  refine hp_met (own := RX5) rfl (by decide) (Nat.le_of_ble_eq_true rfl) rfl (fun p e s m args below meth c Z E hZ hnm => ?_)
  refine hp_sub (lv' := [(0, .ref (ad 50)), (1, .int a1)]) [0, 1] rfl ?_
  unfold q_X5_answer at hq
  refine hp_aload_n E 0 dX5_answer_0 rfl rfl ?_
  refine hp_gR E g_RX5_18 fB_50_0 dX5_answer_1 ?_
  refine hp_gR E g_RX5_32 fB_1_3 dX5_answer_4 ?_
  refine hp_gR E g_RX5_65 fB_15_0 dX5_answer_7 ?_
  refine hp_iload_n E 1 dX5_answer_10 rfl rfl ?_
  refine hp_iald E 16 aB_16 hq.1 dX5_answer_11 ?_
  replace hq := hq.2
  exact hp_iret E ⟨hq, rfl⟩ hZ dX5_answer_12
theorem dX0_keyByObserved_0 : decode cX0_keyByObserved 0 = .ok (.aload_n 0, 1) := by decide +kernel
theorem dX0_keyByObserved_1 : decode cX0_keyByObserved 1 = .ok (.getfield 37, 3) := by decide +kernel
theorem dX0_keyByObserved_4 : decode cX0_keyByObserved 4 = .ok (.invokevirtual 68, 3) := by decide +kernel
theorem dX0_keyByObserved_7 : decode cX0_keyByObserved 7 = .ok (.iconst 0, 1) := by decide +kernel
theorem dX0_keyByObserved_8 : decode cX0_keyByObserved 8 = .ok (.istore_n 1, 1) := by decide +kernel
theorem dX0_keyByObserved_9 : decode cX0_keyByObserved 9 = .ok (.iload_n 1, 1) := by decide +kernel
theorem dX0_keyByObserved_10 : decode cX0_keyByObserved 10 = .ok (.aload_n 0, 1) := by decide +kernel
theorem dX0_keyByObserved_11 : decode cX0_keyByObserved 11 = .ok (.getfield 41, 3) := by decide +kernel
theorem dX0_keyByObserved_14 : decode cX0_keyByObserved 14 = .ok (.if_icmp .ge 22, 3) := by decide +kernel
theorem dX0_keyByObserved_17 : decode cX0_keyByObserved 17 = .ok (.aload_n 0, 1) := by decide +kernel
theorem dX0_keyByObserved_18 : decode cX0_keyByObserved 18 = .ok (.getfield 37, 3) := by decide +kernel
theorem dX0_keyByObserved_21 : decode cX0_keyByObserved 21 = .ok (.aload_n 0, 1) := by decide +kernel
theorem dX0_keyByObserved_22 : decode cX0_keyByObserved 22 = .ok (.getfield 15, 3) := by decide +kernel
theorem dX0_keyByObserved_25 : decode cX0_keyByObserved 25 = .ok (.iload_n 1, 1) := by decide +kernel
theorem dX0_keyByObserved_26 : decode cX0_keyByObserved 26 = .ok (.iaload, 1) := by decide +kernel
theorem dX0_keyByObserved_27 : decode cX0_keyByObserved 27 = .ok (.invokevirtual 73, 3) := by decide +kernel
theorem dX0_keyByObserved_30 : decode cX0_keyByObserved 30 = .ok (.iinc 1 1, 3) := by decide +kernel
theorem dX0_keyByObserved_33 : decode cX0_keyByObserved 33 = .ok (.goto (-24), 3) := by decide +kernel
theorem dX0_keyByObserved_36 : decode cX0_keyByObserved 36 = .ok (.iconst 0, 1) := by decide +kernel
theorem dX0_keyByObserved_37 : decode cX0_keyByObserved 37 = .ok (.istore_n 1, 1) := by decide +kernel
theorem dX0_keyByObserved_38 : decode cX0_keyByObserved 38 = .ok (.iload_n 1, 1) := by decide +kernel
theorem dX0_keyByObserved_39 : decode cX0_keyByObserved 39 = .ok (.aload_n 0, 1) := by decide +kernel
theorem dX0_keyByObserved_40 : decode cX0_keyByObserved 40 = .ok (.getfield 33, 3) := by decide +kernel
theorem dX0_keyByObserved_43 : decode cX0_keyByObserved 43 = .ok (.getfield 76, 3) := by decide +kernel
theorem dX0_keyByObserved_46 : decode cX0_keyByObserved 46 = .ok (.if_icmp .ge 57, 3) := by decide +kernel
theorem dX0_keyByObserved_49 : decode cX0_keyByObserved 49 = .ok (.aload_n 0, 1) := by decide +kernel
theorem dX0_keyByObserved_50 : decode cX0_keyByObserved 50 = .ok (.getfield 37, 3) := by decide +kernel
theorem dX0_keyByObserved_53 : decode cX0_keyByObserved 53 = .ok (.iload_n 1, 1) := by decide +kernel
theorem dX0_keyByObserved_54 : decode cX0_keyByObserved 54 = .ok (.invokevirtual 81, 3) := by decide +kernel
theorem dX0_keyByObserved_57 : decode cX0_keyByObserved 57 = .ok (.iconst 0, 1) := by decide +kernel
theorem dX0_keyByObserved_58 : decode cX0_keyByObserved 58 = .ok (.istore_n 2, 1) := by decide +kernel
theorem dX0_keyByObserved_59 : decode cX0_keyByObserved 59 = .ok (.iload_n 2, 1) := by decide +kernel
theorem dX0_keyByObserved_60 : decode cX0_keyByObserved 60 = .ok (.aload_n 0, 1) := by decide +kernel
theorem dX0_keyByObserved_61 : decode cX0_keyByObserved 61 = .ok (.getfield 41, 3) := by decide +kernel
theorem dX0_keyByObserved_64 : decode cX0_keyByObserved 64 = .ok (.if_icmp .ge 33, 3) := by decide +kernel
theorem dX0_keyByObserved_67 : decode cX0_keyByObserved 67 = .ok (.aload_n 0, 1) := by decide +kernel
theorem dX0_keyByObserved_68 : decode cX0_keyByObserved 68 = .ok (.getfield 18, 3) := by decide +kernel
theorem dX0_keyByObserved_71 : decode cX0_keyByObserved 71 = .ok (.iload_n 1, 1) := by decide +kernel
theorem dX0_keyByObserved_72 : decode cX0_keyByObserved 72 = .ok (.bipush 13, 2) := by decide +kernel
theorem dX0_keyByObserved_74 : decode cX0_keyByObserved 74 = .ok (.imul, 1) := by decide +kernel
theorem dX0_keyByObserved_75 : decode cX0_keyByObserved 75 = .ok (.iload_n 2, 1) := by decide +kernel
theorem dX0_keyByObserved_76 : decode cX0_keyByObserved 76 = .ok (.iadd, 1) := by decide +kernel
theorem dX0_keyByObserved_77 : decode cX0_keyByObserved 77 = .ok (.aload_n 0, 1) := by decide +kernel
theorem dX0_keyByObserved_78 : decode cX0_keyByObserved 78 = .ok (.getfield 37, 3) := by decide +kernel
theorem dX0_keyByObserved_81 : decode cX0_keyByObserved 81 = .ok (.aload_n 0, 1) := by decide +kernel
theorem dX0_keyByObserved_82 : decode cX0_keyByObserved 82 = .ok (.getfield 15, 3) := by decide +kernel
theorem dX0_keyByObserved_85 : decode cX0_keyByObserved 85 = .ok (.iload_n 2, 1) := by decide +kernel
theorem dX0_keyByObserved_86 : decode cX0_keyByObserved 86 = .ok (.iaload, 1) := by decide +kernel
theorem dX0_keyByObserved_87 : decode cX0_keyByObserved 87 = .ok (.invokevirtual 84, 3) := by decide +kernel
theorem dX0_keyByObserved_90 : decode cX0_keyByObserved 90 = .ok (.iastore, 1) := by decide +kernel
theorem dX0_keyByObserved_91 : decode cX0_keyByObserved 91 = .ok (.iinc 2 1, 3) := by decide +kernel
theorem dX0_keyByObserved_94 : decode cX0_keyByObserved 94 = .ok (.goto (-35), 3) := by decide +kernel
theorem dX0_keyByObserved_97 : decode cX0_keyByObserved 97 = .ok (.iinc 1 1, 3) := by decide +kernel
theorem dX0_keyByObserved_100 : decode cX0_keyByObserved 100 = .ok (.goto (-62), 3) := by decide +kernel
theorem dX0_keyByObserved_103 : decode cX0_keyByObserved 103 = .ok (.return_, 1) := by decide +kernel
set_option maxHeartbeats 4000000 in
set_option maxRecDepth 100000 in
theorem c_X0_keyByObserved (l : Launch) {cs : Nat → ClassId} {ad : Nat → Nat} {A : Nat → Prop} {D : va_G} (hJ : hp_J SB ad A)   {h : hp_H} {Q : hp_H → Prop} (hq : q_X0_keyByObserved h Q) : hp_Mv l yX0_keyByObserved cX0_keyByObserved 3 none rm_X0_keyByObserved [.ref (ad 64)] SB cs ad A D h Q := by
  refine hp_met (own := RX0) rfl (by decide) (Nat.le_of_ble_eq_true rfl) rfl (fun p e s m args below meth c Z E hZ hnm => ?_)
  refine hp_sub (lv' := [(0, .ref (ad 64))]) [0] rfl ?_
  unfold q_X0_keyByObserved at hq
  refine hp_aload_n E 0 dX0_keyByObserved_0 rfl rfl ?_
  refine hp_gR E g_RX0_37 fB_64_4 dX0_keyByObserved_1 ?_
  refine hp_callVv' (rest := []) E 50 fB_50_0 vcl_5 (c_X5_askNothing l hJ hq) F_X5_askNothing m_RX0_68 ⟨rfl, rfl⟩ ⟨Nat.le_of_ble_eq_true rfl, Nat.le_of_ble_eq_true rfl⟩ ⟨Nat.zero_le _, Nat.zero_le _⟩ rfl rfl (Nat.le_of_ble_eq_true rfl) dX0_keyByObserved_4 (fun h1 hq => ?_)
  refine hp_iconst E (nI 0) dX0_keyByObserved_7 (by decide) ?_
  refine hp_istore_n (lv' := [(0, .ref (ad 64)), (1, .int (nI 0))]) E dX0_keyByObserved_8 rfl (by decide) rfl rfl ?_
  refine hq (fun v3 h4 => hp_G p l e rm_X0_keyByObserved s m args below meth c SB cs ad A D 3 0 0 Z 9 [(0, .ref (ad 64)), (1, .int v3)] [] h4) (fun v3 h4 hB => ?_)
  obtain ⟨B2, hq, hB2⟩ := hB
  refine hp_iload_n E 1 dX0_keyByObserved_9 rfl rfl ?_
  refine hp_aload_n E 0 dX0_keyByObserved_10 rfl rfl ?_
  refine hp_gI E g_RX0_41 fB_64_0 dX0_keyByObserved_11 ?_
  refine hp_icmp_ge E 36 dX0_keyByObserved_14 (by decide) (fun c5 => ?_) (fun c5 => ?_)
  · replace hq := hq.1 c5
    refine hp_iconst E (nI 0) dX0_keyByObserved_36 (by decide) ?_
    refine hp_istore_n (lv' := [(0, .ref (ad 64)), (1, .int (nI 0))]) E dX0_keyByObserved_37 rfl (by decide) rfl rfl ?_
    refine hq (fun v7 h8 => hp_G p l e rm_X0_keyByObserved s m args below meth c SB cs ad A D 3 0 0 Z 38 [(0, .ref (ad 64)), (1, .int v7)] [] h8) (fun v7 h8 hB => ?_)
    obtain ⟨B6, hq, hB6⟩ := hB
    refine hp_iload_n E 1 dX0_keyByObserved_38 rfl rfl ?_
    refine hp_aload_n E 0 dX0_keyByObserved_39 rfl rfl ?_
    refine hp_gR E g_RX0_33 fB_64_3 dX0_keyByObserved_40 ?_
    refine hp_gI E g_RX0_76 fB_35_2 dX0_keyByObserved_43 ?_
    refine hp_icmp_ge E 103 dX0_keyByObserved_46 (by decide) (fun c9 => ?_) (fun c9 => ?_)
    · replace hq := hq.1 c9
      exact hp_vret E hq hZ dX0_keyByObserved_103
    · replace hq := hq.2 c9
      refine hp_aload_n E 0 dX0_keyByObserved_49 rfl rfl ?_
      refine hp_gR E g_RX0_37 fB_64_4 dX0_keyByObserved_50 ?_
      refine hp_iload_n E 1 dX0_keyByObserved_53 rfl rfl ?_
      refine hp_callVv' (rest := []) E 50 fB_50_0 vcl_5 (c_X5_lookAt l hJ hq) F_X5_lookAt m_RX0_81 ⟨rfl, rfl⟩ ⟨Nat.le_of_ble_eq_true rfl, Nat.le_of_ble_eq_true rfl⟩ ⟨Nat.zero_le _, Nat.zero_le _⟩ rfl rfl (Nat.le_of_ble_eq_true rfl) dX0_keyByObserved_54 (fun h10 hq => ?_)
      refine hp_iconst E (nI 0) dX0_keyByObserved_57 (by decide) ?_
      refine hp_istore_n (lv' := [(0, .ref (ad 64)), (1, .int v7), (2, .int (nI 0))]) E dX0_keyByObserved_58 rfl (by decide) rfl rfl ?_
      refine hq (fun v12 h13 => hp_G p l e rm_X0_keyByObserved s m args below meth c SB cs ad A D 3 0 0 Z 59 [(0, .ref (ad 64)), (1, .int v7), (2, .int v12)] [] h13) (fun v12 h13 hB => ?_)
      obtain ⟨B11, hq, hB11⟩ := hB
      refine hp_iload_n E 2 dX0_keyByObserved_59 rfl rfl ?_
      refine hp_aload_n E 0 dX0_keyByObserved_60 rfl rfl ?_
      refine hp_gI E g_RX0_41 fB_64_0 dX0_keyByObserved_61 ?_
      refine hp_icmp_ge E 97 dX0_keyByObserved_64 (by decide) (fun c14 => ?_) (fun c14 => ?_)
      · replace hq := hq.1 c14
        obtain ⟨v15, ev15⟩ : ∃ z : Int32, z = v7 + (nI 1) := ⟨_, rfl⟩
        replace hq := hq v15 ev15
        refine hp_iinc (lv' := [(0, .ref (ad 64)), (1, .int v15), (2, .int v12)]) E 1 v15 dX0_keyByObserved_97 rfl (by rw [ev15]; rfl) (by decide) rfl rfl ?_
        refine hp_goto E 38 dX0_keyByObserved_100 (by decide) ?_
        refine hp_sub (lv' := [(0, .ref (ad 64)), (1, .int v15)]) [0, 1] rfl ?_
        exact hB6 _ _ hq
      · replace hq := hq.2 c14
        refine hp_aload_n E 0 dX0_keyByObserved_67 rfl rfl ?_
        refine hp_gR E g_RX0_18 fB_64_6 dX0_keyByObserved_68 ?_
        refine hp_iload_n E 1 dX0_keyByObserved_71 rfl rfl ?_
        refine hp_bipush E (nI 13) dX0_keyByObserved_72 (by decide) ?_
        refine hp_imul E dX0_keyByObserved_74 ?_
        refine hp_iload_n E 2 dX0_keyByObserved_75 rfl rfl ?_
        refine hp_iadd E dX0_keyByObserved_76 ?_
        refine hp_aload_n E 0 dX0_keyByObserved_77 rfl rfl ?_
        refine hp_gR E g_RX0_37 fB_64_4 dX0_keyByObserved_78 ?_
        refine hp_aload_n E 0 dX0_keyByObserved_81 rfl rfl ?_
        refine hp_gR E g_RX0_15 fB_64_5 dX0_keyByObserved_82 ?_
        refine hp_iload_n E 2 dX0_keyByObserved_85 rfl rfl ?_
        refine hp_iald E 66 aB_66 hq.1 dX0_keyByObserved_86 ?_
        replace hq := hq.2
        refine hp_callVip (rest := [.int ((v7 * (nI 13)) + v12), .ref (ad 67)]) E 50 fB_50_0 vcl_5 (c_X5_answer l hJ hq) F_X5_answer m_RX0_84 ⟨rfl, rfl⟩ ⟨Nat.le_of_ble_eq_true rfl, Nat.le_of_ble_eq_true rfl⟩ ⟨Nat.zero_le _, Nat.zero_le _⟩ rfl rfl (Nat.le_of_ble_eq_true rfl) dX0_keyByObserved_87 (fun r16 hq => ?_)
        have hin := hq.1
        replace hq := hq.2
        refine hp_iast E 67 aB_67 zB_67 hJ hin dX0_keyByObserved_90 ?_
        refine hp_toph (fun h17 eh17 => ?_)
        replace hq := hq h17 eh17
        obtain ⟨v18, ev18⟩ : ∃ z : Int32, z = v12 + (nI 1) := ⟨_, rfl⟩
        replace hq := hq v18 ev18
        refine hp_iinc (lv' := [(0, .ref (ad 64)), (1, .int v7), (2, .int v18)]) E 2 v18 dX0_keyByObserved_91 rfl (by rw [ev18]; rfl) (by decide) rfl rfl ?_
        refine hp_goto E 59 dX0_keyByObserved_94 (by decide) ?_
        exact hB11 _ _ hq
  · replace hq := hq.2 c5
    refine hp_aload_n E 0 dX0_keyByObserved_17 rfl rfl ?_
    refine hp_gR E g_RX0_37 fB_64_4 dX0_keyByObserved_18 ?_
    refine hp_aload_n E 0 dX0_keyByObserved_21 rfl rfl ?_
    refine hp_gR E g_RX0_15 fB_64_5 dX0_keyByObserved_22 ?_
    refine hp_iload_n E 1 dX0_keyByObserved_25 rfl rfl ?_
    refine hp_iald E 66 aB_66 hq.1 dX0_keyByObserved_26 ?_
    replace hq := hq.2
    refine hp_callVv' (rest := []) E 50 fB_50_0 vcl_5 (c_X5_askToo l hJ hq) F_X5_askToo m_RX0_73 ⟨rfl, rfl⟩ ⟨Nat.le_of_ble_eq_true rfl, Nat.le_of_ble_eq_true rfl⟩ ⟨Nat.zero_le _, Nat.zero_le _⟩ rfl rfl (Nat.le_of_ble_eq_true rfl) dX0_keyByObserved_27 (fun h19 hq => ?_)
    obtain ⟨v20, ev20⟩ : ∃ z : Int32, z = v3 + (nI 1) := ⟨_, rfl⟩
    replace hq := hq v20 ev20
    refine hp_iinc (lv' := [(0, .ref (ad 64)), (1, .int v20)]) E 1 v20 dX0_keyByObserved_30 rfl (by rw [ev20]; rfl) (by decide) rfl rfl ?_
    refine hp_goto E 9 dX0_keyByObserved_33 (by decide) ?_
    exact hB2 _ _ hq
theorem dX0_haveSameKeys_0 : decode cX0_haveSameKeys 0 = .ok (.iconst 0, 1) := by decide +kernel
theorem dX0_haveSameKeys_1 : decode cX0_haveSameKeys 1 = .ok (.istore 4, 2) := by decide +kernel
theorem dX0_haveSameKeys_3 : decode cX0_haveSameKeys 3 = .ok (.iload 4, 2) := by decide +kernel
theorem dX0_haveSameKeys_5 : decode cX0_haveSameKeys 5 = .ok (.iload_n 3, 1) := by decide +kernel
theorem dX0_haveSameKeys_6 : decode cX0_haveSameKeys 6 = .ok (.if_icmp .ge 38, 3) := by decide +kernel
theorem dX0_haveSameKeys_9 : decode cX0_haveSameKeys 9 = .ok (.aload_n 0, 1) := by decide +kernel
theorem dX0_haveSameKeys_10 : decode cX0_haveSameKeys 10 = .ok (.getfield 18, 3) := by decide +kernel
theorem dX0_haveSameKeys_13 : decode cX0_haveSameKeys 13 = .ok (.iload_n 1, 1) := by decide +kernel
theorem dX0_haveSameKeys_14 : decode cX0_haveSameKeys 14 = .ok (.bipush 13, 2) := by decide +kernel
theorem dX0_haveSameKeys_16 : decode cX0_haveSameKeys 16 = .ok (.imul, 1) := by decide +kernel
theorem dX0_haveSameKeys_17 : decode cX0_haveSameKeys 17 = .ok (.iload 4, 2) := by decide +kernel
theorem dX0_haveSameKeys_19 : decode cX0_haveSameKeys 19 = .ok (.iadd, 1) := by decide +kernel
theorem dX0_haveSameKeys_20 : decode cX0_haveSameKeys 20 = .ok (.iaload, 1) := by decide +kernel
theorem dX0_haveSameKeys_21 : decode cX0_haveSameKeys 21 = .ok (.aload_n 0, 1) := by decide +kernel
theorem dX0_haveSameKeys_22 : decode cX0_haveSameKeys 22 = .ok (.getfield 18, 3) := by decide +kernel
theorem dX0_haveSameKeys_25 : decode cX0_haveSameKeys 25 = .ok (.iload_n 2, 1) := by decide +kernel
theorem dX0_haveSameKeys_26 : decode cX0_haveSameKeys 26 = .ok (.bipush 13, 2) := by decide +kernel
theorem dX0_haveSameKeys_28 : decode cX0_haveSameKeys 28 = .ok (.imul, 1) := by decide +kernel
theorem dX0_haveSameKeys_29 : decode cX0_haveSameKeys 29 = .ok (.iload 4, 2) := by decide +kernel
theorem dX0_haveSameKeys_31 : decode cX0_haveSameKeys 31 = .ok (.iadd, 1) := by decide +kernel
theorem dX0_haveSameKeys_32 : decode cX0_haveSameKeys 32 = .ok (.iaload, 1) := by decide +kernel
theorem dX0_haveSameKeys_33 : decode cX0_haveSameKeys 33 = .ok (.if_icmp .eq 5, 3) := by decide +kernel
theorem dX0_haveSameKeys_36 : decode cX0_haveSameKeys 36 = .ok (.iconst 0, 1) := by decide +kernel
theorem dX0_haveSameKeys_37 : decode cX0_haveSameKeys 37 = .ok (.ireturn, 1) := by decide +kernel
theorem dX0_haveSameKeys_38 : decode cX0_haveSameKeys 38 = .ok (.iinc 4 1, 3) := by decide +kernel
theorem dX0_haveSameKeys_41 : decode cX0_haveSameKeys 41 = .ok (.goto (-38), 3) := by decide +kernel
theorem dX0_haveSameKeys_44 : decode cX0_haveSameKeys 44 = .ok (.iconst 1, 1) := by decide +kernel
theorem dX0_haveSameKeys_45 : decode cX0_haveSameKeys 45 = .ok (.ireturn, 1) := by decide +kernel
set_option maxHeartbeats 4000000 in
set_option maxRecDepth 100000 in
theorem c_X0_haveSameKeys (l : Launch) {cs : Nat → ClassId} {ad : Nat → Nat} {A : Nat → Prop} {D : va_G} (hJ : hp_J SB ad A)   {h : hp_H} {a1 a2 a3 : Int32} {Q : Int32 → Prop} (hq : q_X0_haveSameKeys h a1 a2 a3 Q) : hp_Mi l yX0_haveSameKeys cX0_haveSameKeys 5 (some .boolean) rm_X0_haveSameKeys [.ref (ad 64), .int a1, .int a2, .int a3] SB cs ad A D h (fun r h' => Q r ∧ h' = h) := by
  refine hp_met (own := RX0) rfl (by decide) (Nat.le_of_ble_eq_true rfl) rfl (fun p e s m args below meth c Z E hZ hnm => ?_)
  refine hp_sub (lv' := [(0, .ref (ad 64)), (1, .int a1), (2, .int a2), (3, .int a3)]) [0, 1, 2, 3] rfl ?_
  unfold q_X0_haveSameKeys at hq
  refine hp_iconst E (nI 0) dX0_haveSameKeys_0 (by decide) ?_
  refine hp_istore (lv' := [(0, .ref (ad 64)), (1, .int a1), (2, .int a2), (3, .int a3), (4, .int (nI 0))]) E dX0_haveSameKeys_1 (by decide) rfl rfl ?_
  refine hq (fun v2 => hp_G p l e rm_X0_haveSameKeys s m args below meth c SB cs ad A D 5 0 0 Z 3 [(0, .ref (ad 64)), (1, .int a1), (2, .int a2), (3, .int a3), (4, .int v2)] [] h) (fun v2 hB => ?_)
  obtain ⟨B1, hq, hB1⟩ := hB
  refine hp_iload E 4 dX0_haveSameKeys_3 rfl ?_
  refine hp_iload_n E 3 dX0_haveSameKeys_5 rfl rfl ?_
  refine hp_icmp_ge E 44 dX0_haveSameKeys_6 (by decide) (fun c3 => ?_) (fun c3 => ?_)
  · replace hq := hq.1 c3
    refine hp_iconst E (nI 1) dX0_haveSameKeys_44 (by decide) ?_
    exact hp_zret E (by unfold hp_bz; decide) ⟨hq, rfl⟩ hZ dX0_haveSameKeys_45
  · replace hq := hq.2 c3
    refine hp_aload_n E 0 dX0_haveSameKeys_9 rfl rfl ?_
    refine hp_gR E g_RX0_18 fB_64_6 dX0_haveSameKeys_10 ?_
    refine hp_iload_n E 1 dX0_haveSameKeys_13 rfl rfl ?_
    refine hp_bipush E (nI 13) dX0_haveSameKeys_14 (by decide) ?_
    refine hp_imul E dX0_haveSameKeys_16 ?_
    refine hp_iload E 4 dX0_haveSameKeys_17 rfl ?_
    refine hp_iadd E dX0_haveSameKeys_19 ?_
    refine hp_iald E 67 aB_67 hq.1 dX0_haveSameKeys_20 ?_
    replace hq := hq.2
    refine hp_aload_n E 0 dX0_haveSameKeys_21 rfl rfl ?_
    refine hp_gR E g_RX0_18 fB_64_6 dX0_haveSameKeys_22 ?_
    refine hp_iload_n E 2 dX0_haveSameKeys_25 rfl rfl ?_
    refine hp_bipush E (nI 13) dX0_haveSameKeys_26 (by decide) ?_
    refine hp_imul E dX0_haveSameKeys_28 ?_
    refine hp_iload E 4 dX0_haveSameKeys_29 rfl ?_
    refine hp_iadd E dX0_haveSameKeys_31 ?_
    refine hp_iald E 67 aB_67 hq.1 dX0_haveSameKeys_32 ?_
    replace hq := hq.2
    refine hp_icmp_eq E 38 dX0_haveSameKeys_33 (by decide) (fun c4 => ?_) (fun c4 => ?_)
    · replace hq := hq.1 c4
      obtain ⟨v5, ev5⟩ : ∃ z : Int32, z = v2 + (nI 1) := ⟨_, rfl⟩
      replace hq := hq v5 ev5
      refine hp_iinc (lv' := [(0, .ref (ad 64)), (1, .int a1), (2, .int a2), (3, .int a3), (4, .int v5)]) E 4 v5 dX0_haveSameKeys_38 rfl (by rw [ev5]; rfl) (by decide) rfl rfl ?_
      refine hp_goto E 3 dX0_haveSameKeys_41 (by decide) ?_
      exact hB1 _ hq
    · replace hq := hq.2 c4
      refine hp_iconst E (nI 0) dX0_haveSameKeys_36 (by decide) ?_
      exact hp_zret E (by unfold hp_bz; decide) ⟨hq, rfl⟩ hZ dX0_haveSameKeys_37
theorem dX0_newPartLike_0 : decode cX0_newPartLike 0 = .ok (.aload_n 0, 1) := by decide +kernel
theorem dX0_newPartLike_1 : decode cX0_newPartLike 1 = .ok (.getfield 24, 3) := by decide +kernel
theorem dX0_newPartLike_4 : decode cX0_newPartLike 4 = .ok (.aload_n 0, 1) := by decide +kernel
theorem dX0_newPartLike_5 : decode cX0_newPartLike 5 = .ok (.getfield 11, 3) := by decide +kernel
theorem dX0_newPartLike_8 : decode cX0_newPartLike 8 = .ok (.iload_n 1, 1) := by decide +kernel
theorem dX0_newPartLike_9 : decode cX0_newPartLike 9 = .ok (.iaload, 1) := by decide +kernel
theorem dX0_newPartLike_10 : decode cX0_newPartLike 10 = .ok (.iaload, 1) := by decide +kernel
theorem dX0_newPartLike_11 : decode cX0_newPartLike 11 = .ok (.istore_n 3, 1) := by decide +kernel
theorem dX0_newPartLike_12 : decode cX0_newPartLike 12 = .ok (.iconst 0, 1) := by decide +kernel
theorem dX0_newPartLike_13 : decode cX0_newPartLike 13 = .ok (.istore 4, 2) := by decide +kernel
theorem dX0_newPartLike_15 : decode cX0_newPartLike 15 = .ok (.iload 4, 2) := by decide +kernel
theorem dX0_newPartLike_17 : decode cX0_newPartLike 17 = .ok (.sipush 400, 3) := by decide +kernel
theorem dX0_newPartLike_20 : decode cX0_newPartLike 20 = .ok (.if_icmp .ge 38, 3) := by decide +kernel
theorem dX0_newPartLike_23 : decode cX0_newPartLike 23 = .ok (.iload_n 3, 1) := by decide +kernel
theorem dX0_newPartLike_24 : decode cX0_newPartLike 24 = .ok (.iconst (-1), 1) := by decide +kernel
theorem dX0_newPartLike_25 : decode cX0_newPartLike 25 = .ok (.if_icmp .eq 33, 3) := by decide +kernel
theorem dX0_newPartLike_28 : decode cX0_newPartLike 28 = .ok (.aload_n 0, 1) := by decide +kernel
theorem dX0_newPartLike_29 : decode cX0_newPartLike 29 = .ok (.iload_n 1, 1) := by decide +kernel
theorem dX0_newPartLike_30 : decode cX0_newPartLike 30 = .ok (.aload_n 0, 1) := by decide +kernel
theorem dX0_newPartLike_31 : decode cX0_newPartLike 31 = .ok (.getfield 30, 3) := by decide +kernel
theorem dX0_newPartLike_34 : decode cX0_newPartLike 34 = .ok (.iload_n 3, 1) := by decide +kernel
theorem dX0_newPartLike_35 : decode cX0_newPartLike 35 = .ok (.iaload, 1) := by decide +kernel
theorem dX0_newPartLike_36 : decode cX0_newPartLike 36 = .ok (.iload_n 2, 1) := by decide +kernel
theorem dX0_newPartLike_37 : decode cX0_newPartLike 37 = .ok (.invokevirtual 104, 3) := by decide +kernel
theorem dX0_newPartLike_40 : decode cX0_newPartLike 40 = .ok (.ifCond .eq 5, 3) := by decide +kernel
theorem dX0_newPartLike_43 : decode cX0_newPartLike 43 = .ok (.iload_n 3, 1) := by decide +kernel
theorem dX0_newPartLike_44 : decode cX0_newPartLike 44 = .ok (.ireturn, 1) := by decide +kernel
theorem dX0_newPartLike_45 : decode cX0_newPartLike 45 = .ok (.aload_n 0, 1) := by decide +kernel
theorem dX0_newPartLike_46 : decode cX0_newPartLike 46 = .ok (.getfield 27, 3) := by decide +kernel
theorem dX0_newPartLike_49 : decode cX0_newPartLike 49 = .ok (.iload_n 3, 1) := by decide +kernel
theorem dX0_newPartLike_50 : decode cX0_newPartLike 50 = .ok (.iaload, 1) := by decide +kernel
theorem dX0_newPartLike_51 : decode cX0_newPartLike 51 = .ok (.istore_n 3, 1) := by decide +kernel
theorem dX0_newPartLike_52 : decode cX0_newPartLike 52 = .ok (.iinc 4 1, 3) := by decide +kernel
theorem dX0_newPartLike_55 : decode cX0_newPartLike 55 = .ok (.goto (-40), 3) := by decide +kernel
theorem dX0_newPartLike_58 : decode cX0_newPartLike 58 = .ok (.iconst (-1), 1) := by decide +kernel
theorem dX0_newPartLike_59 : decode cX0_newPartLike 59 = .ok (.ireturn, 1) := by decide +kernel
set_option maxHeartbeats 4000000 in
set_option maxRecDepth 100000 in
theorem c_X0_newPartLike (l : Launch) {cs : Nat → ClassId} {ad : Nat → Nat} {A : Nat → Prop} {D : va_G} (hJ : hp_J SB ad A)   {h : hp_H} {a1 a2 : Int32} {Q : Int32 → Prop} (hq : q_X0_newPartLike h a1 a2 Q) : hp_Mi l yX0_newPartLike cX0_newPartLike 5 (some .int) rm_X0_newPartLike [.ref (ad 64), .int a1, .int a2] SB cs ad A D h (fun r h' => Q r ∧ h' = h) := by
  refine hp_met (own := RX0) rfl (by decide) (Nat.le_of_ble_eq_true rfl) rfl (fun p e s m args below meth c Z E hZ hnm => ?_)
  refine hp_sub (lv' := [(0, .ref (ad 64)), (1, .int a1), (2, .int a2)]) [0, 1, 2] rfl ?_
  unfold q_X0_newPartLike at hq
  refine hp_aload_n E 0 dX0_newPartLike_0 rfl rfl ?_
  refine hp_gR E g_RX0_24 fB_64_8 dX0_newPartLike_1 ?_
  refine hp_aload_n E 0 dX0_newPartLike_4 rfl rfl ?_
  refine hp_gM E g_RX0_11 fB_64_2 dX0_newPartLike_5 ?_
  refine hp_topw (fun w1 ew1 => ?_)
  replace hq := hq w1 ew1
  have ow1 := hq.1
  replace hq := hq.2
  refine hp_iload_n E 1 dX0_newPartLike_8 rfl rfl ?_
  refine hp_iald E w1 (pw_a ow1) hq.1 dX0_newPartLike_9 ?_
  replace hq := hq.2
  refine hp_iald E 69 aB_69 hq.1 dX0_newPartLike_10 ?_
  replace hq := hq.2
  refine hp_topi (fun v2 ev2 => ?_)
  replace hq := hq v2 ev2
  refine hp_istore_n (lv' := [(0, .ref (ad 64)), (1, .int a1), (2, .int a2), (3, .int v2)]) E dX0_newPartLike_11 rfl (by decide) rfl rfl ?_
  refine hp_iconst E (nI 0) dX0_newPartLike_12 (by decide) ?_
  refine hp_istore (lv' := [(0, .ref (ad 64)), (1, .int a1), (2, .int a2), (3, .int v2), (4, .int (nI 0))]) E dX0_newPartLike_13 (by decide) rfl rfl ?_
  refine hq (fun v4 v5 => hp_G p l e rm_X0_newPartLike s m args below meth c SB cs ad A D 5 0 0 Z 15 [(0, .ref (ad 64)), (1, .int a1), (2, .int a2), (3, .int v4), (4, .int v5)] [] h) (fun v4 v5 hB => ?_)
  obtain ⟨B3, hq, hB3⟩ := hB
  refine hp_iload E 4 dX0_newPartLike_15 rfl ?_
  refine hp_sipush E (nI 400) dX0_newPartLike_17 (by decide) ?_
  refine hp_icmp_ge E 58 dX0_newPartLike_20 (by decide) (fun c6 => ?_) (fun c6 => ?_)
  · replace hq := hq.1 c6
    refine hp_iconst E (-1) dX0_newPartLike_58 (by decide) ?_
    exact hp_iret E ⟨hq, rfl⟩ hZ dX0_newPartLike_59
  · replace hq := hq.2 c6
    refine hp_iload_n E 3 dX0_newPartLike_23 rfl rfl ?_
    refine hp_iconst E (-1) dX0_newPartLike_24 (by decide) ?_
    refine hp_icmp_eq E 58 dX0_newPartLike_25 (by decide) (fun c7 => ?_) (fun c7 => ?_)
    · replace hq := hq.1 c7
      refine hp_iconst E (-1) dX0_newPartLike_58 (by decide) ?_
      exact hp_iret E ⟨hq, rfl⟩ hZ dX0_newPartLike_59
    · replace hq := hq.2 c7
      refine hp_aload_n E 0 dX0_newPartLike_28 rfl rfl ?_
      refine hp_iload_n E 1 dX0_newPartLike_29 rfl rfl ?_
      refine hp_aload_n E 0 dX0_newPartLike_30 rfl rfl ?_
      refine hp_gR E g_RX0_30 fB_64_10 dX0_newPartLike_31 ?_
      refine hp_iload_n E 3 dX0_newPartLike_34 rfl rfl ?_
      refine hp_iald E 71 aB_71 hq.1 dX0_newPartLike_35 ?_
      replace hq := hq.2
      refine hp_iload_n E 2 dX0_newPartLike_36 rfl rfl ?_
      refine hp_callVip (rest := []) E 64 fB_64_0 vcl_0 (c_X0_haveSameKeys l hJ hq) F_X0_haveSameKeys m_RX0_104 ⟨rfl, rfl⟩ ⟨Nat.le_of_ble_eq_true rfl, Nat.le_of_ble_eq_true rfl⟩ ⟨Nat.zero_le _, Nat.zero_le _⟩ rfl rfl (Nat.le_of_ble_eq_true rfl) dX0_newPartLike_37 (fun r8 hq => ?_)
      refine hp_if_eq E 45 dX0_newPartLike_40 (by decide) (fun c9 => ?_) (fun c9 => ?_)
      · replace hq := hq.1 c9
        refine hp_aload_n E 0 dX0_newPartLike_45 rfl rfl ?_
        refine hp_gR E g_RX0_27 fB_64_9 dX0_newPartLike_46 ?_
        refine hp_iload_n E 3 dX0_newPartLike_49 rfl rfl ?_
        refine hp_iald E 70 aB_70 hq.1 dX0_newPartLike_50 ?_
        replace hq := hq.2
        refine hp_topi (fun v10 ev10 => ?_)
        replace hq := hq v10 ev10
        refine hp_istore_n (lv' := [(0, .ref (ad 64)), (1, .int a1), (2, .int a2), (3, .int v10), (4, .int v5)]) E dX0_newPartLike_51 rfl (by decide) rfl rfl ?_
        obtain ⟨v11, ev11⟩ : ∃ z : Int32, z = v5 + (nI 1) := ⟨_, rfl⟩
        replace hq := hq v11 ev11
        refine hp_iinc (lv' := [(0, .ref (ad 64)), (1, .int a1), (2, .int a2), (3, .int v10), (4, .int v11)]) E 4 v11 dX0_newPartLike_52 rfl (by rw [ev11]; rfl) (by decide) rfl rfl ?_
        refine hp_goto E 15 dX0_newPartLike_55 (by decide) ?_
        exact hB3 _ _ hq
      · replace hq := hq.2 c9
        refine hp_iload_n E 3 dX0_newPartLike_43 rfl rfl ?_
        exact hp_iret E ⟨hq, rfl⟩ hZ dX0_newPartLike_44
theorem dX0_openPart_0 : decode cX0_openPart 0 = .ok (.aload_n 0, 1) := by decide +kernel
theorem dX0_openPart_1 : decode cX0_openPart 1 = .ok (.dup, 1) := by decide +kernel
theorem dX0_openPart_2 : decode cX0_openPart 2 = .ok (.getfield 55, 3) := by decide +kernel
theorem dX0_openPart_5 : decode cX0_openPart 5 = .ok (.dup_x1, 1) := by decide +kernel
theorem dX0_openPart_6 : decode cX0_openPart 6 = .ok (.iconst 1, 1) := by decide +kernel
theorem dX0_openPart_7 : decode cX0_openPart 7 = .ok (.iadd, 1) := by decide +kernel
theorem dX0_openPart_8 : decode cX0_openPart 8 = .ok (.putfield 55, 3) := by decide +kernel
theorem dX0_openPart_11 : decode cX0_openPart 11 = .ok (.istore_n 2, 1) := by decide +kernel
theorem dX0_openPart_12 : decode cX0_openPart 12 = .ok (.aload_n 0, 1) := by decide +kernel
theorem dX0_openPart_13 : decode cX0_openPart 13 = .ok (.getfield 30, 3) := by decide +kernel
theorem dX0_openPart_16 : decode cX0_openPart 16 = .ok (.iload_n 2, 1) := by decide +kernel
theorem dX0_openPart_17 : decode cX0_openPart 17 = .ok (.iload_n 1, 1) := by decide +kernel
theorem dX0_openPart_18 : decode cX0_openPart 18 = .ok (.iastore, 1) := by decide +kernel
theorem dX0_openPart_19 : decode cX0_openPart 19 = .ok (.aload_n 0, 1) := by decide +kernel
theorem dX0_openPart_20 : decode cX0_openPart 20 = .ok (.getfield 27, 3) := by decide +kernel
theorem dX0_openPart_23 : decode cX0_openPart 23 = .ok (.iload_n 2, 1) := by decide +kernel
theorem dX0_openPart_24 : decode cX0_openPart 24 = .ok (.aload_n 0, 1) := by decide +kernel
theorem dX0_openPart_25 : decode cX0_openPart 25 = .ok (.getfield 24, 3) := by decide +kernel
theorem dX0_openPart_28 : decode cX0_openPart 28 = .ok (.aload_n 0, 1) := by decide +kernel
theorem dX0_openPart_29 : decode cX0_openPart 29 = .ok (.getfield 11, 3) := by decide +kernel
theorem dX0_openPart_32 : decode cX0_openPart 32 = .ok (.iload_n 1, 1) := by decide +kernel
theorem dX0_openPart_33 : decode cX0_openPart 33 = .ok (.iaload, 1) := by decide +kernel
theorem dX0_openPart_34 : decode cX0_openPart 34 = .ok (.iaload, 1) := by decide +kernel
theorem dX0_openPart_35 : decode cX0_openPart 35 = .ok (.iastore, 1) := by decide +kernel
theorem dX0_openPart_36 : decode cX0_openPart 36 = .ok (.aload_n 0, 1) := by decide +kernel
theorem dX0_openPart_37 : decode cX0_openPart 37 = .ok (.getfield 24, 3) := by decide +kernel
theorem dX0_openPart_40 : decode cX0_openPart 40 = .ok (.aload_n 0, 1) := by decide +kernel
theorem dX0_openPart_41 : decode cX0_openPart 41 = .ok (.getfield 11, 3) := by decide +kernel
theorem dX0_openPart_44 : decode cX0_openPart 44 = .ok (.iload_n 1, 1) := by decide +kernel
theorem dX0_openPart_45 : decode cX0_openPart 45 = .ok (.iaload, 1) := by decide +kernel
theorem dX0_openPart_46 : decode cX0_openPart 46 = .ok (.iload_n 2, 1) := by decide +kernel
theorem dX0_openPart_47 : decode cX0_openPart 47 = .ok (.iastore, 1) := by decide +kernel
theorem dX0_openPart_48 : decode cX0_openPart 48 = .ok (.iload_n 2, 1) := by decide +kernel
theorem dX0_openPart_49 : decode cX0_openPart 49 = .ok (.ireturn, 1) := by decide +kernel
set_option maxHeartbeats 4000000 in
set_option maxRecDepth 100000 in
theorem c_X0_openPart (l : Launch) {cs : Nat → ClassId} {ad : Nat → Nat} {A : Nat → Prop} {D : va_G} (hJ : hp_J SB ad A)   {h : hp_H} {a1 : Int32} {Q : Int32 → hp_H → Prop} (hq : q_X0_openPart h a1 Q) : hp_Mi l yX0_openPart cX0_openPart 3 (some .int) rm_X0_openPart [.ref (ad 64), .int a1] SB cs ad A D h Q := by
  refine hp_met (own := RX0) rfl (by decide) (Nat.le_of_ble_eq_true rfl) rfl (fun p e s m args below meth c Z E hZ hnm => ?_)
  refine hp_sub (lv' := [(0, .ref (ad 64)), (1, .int a1)]) [0, 1] rfl ?_
  unfold q_X0_openPart at hq
  refine hp_aload_n E 0 dX0_openPart_0 rfl rfl ?_
  refine hp_dup E rfl dX0_openPart_1 ?_
  refine hp_gI E g_RX0_55 fB_64_1 dX0_openPart_2 ?_
  refine hp_topi (fun v1 ev1 => ?_)
  replace hq := hq v1 ev1
  refine hp_dup_x1 E rfl rfl dX0_openPart_5 ?_
  refine hp_iconst E (nI 1) dX0_openPart_6 (by decide) ?_
  refine hp_iadd E dX0_openPart_7 ?_
  refine hp_pI E p_RX0_55 fB_64_1 (by decide) hJ dX0_openPart_8 ?_
  refine hp_toph (fun h2 eh2 => ?_)
  replace hq := hq h2 eh2
  refine hp_istore_n (lv' := [(0, .ref (ad 64)), (1, .int a1), (2, .int v1)]) E dX0_openPart_11 rfl (by decide) rfl rfl ?_
  refine hp_aload_n E 0 dX0_openPart_12 rfl rfl ?_
  refine hp_gR E g_RX0_30 fB_64_10 dX0_openPart_13 ?_
  refine hp_iload_n E 2 dX0_openPart_16 rfl rfl ?_
  refine hp_iload_n E 1 dX0_openPart_17 rfl rfl ?_
  have hin := hq.1
  replace hq := hq.2
  refine hp_iast E 71 aB_71 zB_71 hJ hin dX0_openPart_18 ?_
  refine hp_toph (fun h3 eh3 => ?_)
  replace hq := hq h3 eh3
  refine hp_aload_n E 0 dX0_openPart_19 rfl rfl ?_
  refine hp_gR E g_RX0_27 fB_64_9 dX0_openPart_20 ?_
  refine hp_iload_n E 2 dX0_openPart_23 rfl rfl ?_
  refine hp_aload_n E 0 dX0_openPart_24 rfl rfl ?_
  refine hp_gR E g_RX0_24 fB_64_8 dX0_openPart_25 ?_
  refine hp_aload_n E 0 dX0_openPart_28 rfl rfl ?_
  refine hp_gM E g_RX0_11 fB_64_2 dX0_openPart_29 ?_
  refine hp_topw (fun w4 ew4 => ?_)
  replace hq := hq w4 ew4
  have ow4 := hq.1
  replace hq := hq.2
  refine hp_iload_n E 1 dX0_openPart_32 rfl rfl ?_
  refine hp_iald E w4 (pw_a ow4) hq.1 dX0_openPart_33 ?_
  replace hq := hq.2
  refine hp_iald E 69 aB_69 hq.1 dX0_openPart_34 ?_
  replace hq := hq.2
  have hin := hq.1
  replace hq := hq.2
  refine hp_iast E 70 aB_70 zB_70 hJ hin dX0_openPart_35 ?_
  refine hp_toph (fun h5 eh5 => ?_)
  replace hq := hq h5 eh5
  refine hp_aload_n E 0 dX0_openPart_36 rfl rfl ?_
  refine hp_gR E g_RX0_24 fB_64_8 dX0_openPart_37 ?_
  refine hp_aload_n E 0 dX0_openPart_40 rfl rfl ?_
  refine hp_gM E g_RX0_11 fB_64_2 dX0_openPart_41 ?_
  refine hp_topw (fun w6 ew6 => ?_)
  replace hq := hq w6 ew6
  have ow6 := hq.1
  replace hq := hq.2
  refine hp_iload_n E 1 dX0_openPart_44 rfl rfl ?_
  refine hp_iald E w6 (pw_a ow6) hq.1 dX0_openPart_45 ?_
  replace hq := hq.2
  refine hp_iload_n E 2 dX0_openPart_46 rfl rfl ?_
  have hin := hq.1
  replace hq := hq.2
  refine hp_iast E 69 aB_69 zB_69 hJ hin dX0_openPart_47 ?_
  refine hp_toph (fun h7 eh7 => ?_)
  replace hq := hq h7 eh7
  refine hp_iload_n E 2 dX0_openPart_48 rfl rfl ?_
  exact hp_iret E hq hZ dX0_openPart_49
theorem dX0_split_0 : decode cX0_split 0 = .ok (.aload_n 0, 1) := by decide +kernel
theorem dX0_split_1 : decode cX0_split 1 = .ok (.getfield 24, 3) := by decide +kernel
theorem dX0_split_4 : decode cX0_split 4 = .ok (.iconst (-1), 1) := by decide +kernel
theorem dX0_split_5 : decode cX0_split 5 = .ok (.invokestatic 49, 3) := by decide +kernel
theorem dX0_split_8 : decode cX0_split 8 = .ok (.aload_n 0, 1) := by decide +kernel
theorem dX0_split_9 : decode cX0_split 9 = .ok (.iconst 0, 1) := by decide +kernel
theorem dX0_split_10 : decode cX0_split 10 = .ok (.putfield 55, 3) := by decide +kernel
theorem dX0_split_13 : decode cX0_split 13 = .ok (.iconst 0, 1) := by decide +kernel
theorem dX0_split_14 : decode cX0_split 14 = .ok (.istore_n 2, 1) := by decide +kernel
theorem dX0_split_15 : decode cX0_split 15 = .ok (.iload_n 2, 1) := by decide +kernel
theorem dX0_split_16 : decode cX0_split 16 = .ok (.aload_n 0, 1) := by decide +kernel
theorem dX0_split_17 : decode cX0_split 17 = .ok (.getfield 33, 3) := by decide +kernel
theorem dX0_split_20 : decode cX0_split 20 = .ok (.getfield 76, 3) := by decide +kernel
theorem dX0_split_23 : decode cX0_split 23 = .ok (.if_icmp .ge 36, 3) := by decide +kernel
theorem dX0_split_26 : decode cX0_split 26 = .ok (.aload_n 0, 1) := by decide +kernel
theorem dX0_split_27 : decode cX0_split 27 = .ok (.iload_n 2, 1) := by decide +kernel
theorem dX0_split_28 : decode cX0_split 28 = .ok (.iload_n 1, 1) := by decide +kernel
theorem dX0_split_29 : decode cX0_split 29 = .ok (.invokevirtual 97, 3) := by decide +kernel
theorem dX0_split_32 : decode cX0_split 32 = .ok (.istore_n 3, 1) := by decide +kernel
theorem dX0_split_33 : decode cX0_split 33 = .ok (.aload_n 0, 1) := by decide +kernel
theorem dX0_split_34 : decode cX0_split 34 = .ok (.getfield 21, 3) := by decide +kernel
theorem dX0_split_37 : decode cX0_split 37 = .ok (.iload_n 2, 1) := by decide +kernel
theorem dX0_split_38 : decode cX0_split 38 = .ok (.iload_n 3, 1) := by decide +kernel
theorem dX0_split_39 : decode cX0_split 39 = .ok (.iconst (-1), 1) := by decide +kernel
theorem dX0_split_40 : decode cX0_split 40 = .ok (.if_icmp .ne 11, 3) := by decide +kernel
theorem dX0_split_43 : decode cX0_split 43 = .ok (.aload_n 0, 1) := by decide +kernel
theorem dX0_split_44 : decode cX0_split 44 = .ok (.iload_n 2, 1) := by decide +kernel
theorem dX0_split_45 : decode cX0_split 45 = .ok (.invokevirtual 101, 3) := by decide +kernel
theorem dX0_split_48 : decode cX0_split 48 = .ok (.goto 4, 3) := by decide +kernel
theorem dX0_split_51 : decode cX0_split 51 = .ok (.iload_n 3, 1) := by decide +kernel
theorem dX0_split_52 : decode cX0_split 52 = .ok (.iastore, 1) := by decide +kernel
theorem dX0_split_53 : decode cX0_split 53 = .ok (.iinc 2 1, 3) := by decide +kernel
theorem dX0_split_56 : decode cX0_split 56 = .ok (.goto (-41), 3) := by decide +kernel
theorem dX0_split_59 : decode cX0_split 59 = .ok (.aload_n 0, 1) := by decide +kernel
theorem dX0_split_60 : decode cX0_split 60 = .ok (.getfield 11, 3) := by decide +kernel
theorem dX0_split_63 : decode cX0_split 63 = .ok (.astore_n 2, 1) := by decide +kernel
theorem dX0_split_64 : decode cX0_split 64 = .ok (.aload_n 0, 1) := by decide +kernel
theorem dX0_split_65 : decode cX0_split 65 = .ok (.aload_n 0, 1) := by decide +kernel
theorem dX0_split_66 : decode cX0_split 66 = .ok (.getfield 21, 3) := by decide +kernel
theorem dX0_split_69 : decode cX0_split 69 = .ok (.putfield 11, 3) := by decide +kernel
theorem dX0_split_72 : decode cX0_split 72 = .ok (.aload_n 0, 1) := by decide +kernel
theorem dX0_split_73 : decode cX0_split 73 = .ok (.aload_n 2, 1) := by decide +kernel
theorem dX0_split_74 : decode cX0_split 74 = .ok (.putfield 21, 3) := by decide +kernel
theorem dX0_split_77 : decode cX0_split 77 = .ok (.return_, 1) := by decide +kernel
set_option maxHeartbeats 4000000 in
set_option maxRecDepth 100000 in
theorem c_X0_split (l : Launch) {cs : Nat → ClassId} {ad : Nat → Nat} {A : Nat → Prop} {D : va_G} (hJ : hp_J SB ad A)   {h : hp_H} {a1 : Int32} {Q : hp_H → Prop} (hq : q_X0_split h a1 Q) : hp_Mv l yX0_split cX0_split 4 none rm_X0_split [.ref (ad 64), .int a1] SB cs ad A D h Q := by
  refine hp_met (own := RX0) rfl (by decide) (Nat.le_of_ble_eq_true rfl) rfl (fun p e s m args below meth c Z E hZ hnm => ?_)
  refine hp_sub (lv' := [(0, .ref (ad 64)), (1, .int a1)]) [0, 1] rfl ?_
  unfold q_X0_split at hq
  refine hp_aload_n E 0 dX0_split_0 rfl rfl ?_
  refine hp_gR E g_RX0_24 fB_64_8 dX0_split_1 ?_
  refine hp_iconst E (-1) dX0_split_4 (by decide) ?_
  refine hp_callSv (rest := []) E (c_J7_fill_53178 l hJ aB_69 zB_69 hq) F_J7_fill_53178 m_RX0_49 ⟨rfl, rfl⟩ ⟨Nat.le_of_ble_eq_true rfl, Nat.le_of_ble_eq_true rfl⟩ ⟨Nat.zero_le _, Nat.zero_le _⟩ rfl rfl (Nat.le_of_ble_eq_true rfl) dX0_split_5 (fun h1 hq => ?_)
  refine hp_aload_n E 0 dX0_split_8 rfl rfl ?_
  refine hp_iconst E (nI 0) dX0_split_9 (by decide) ?_
  refine hp_pI E p_RX0_55 fB_64_1 (by decide) hJ dX0_split_10 ?_
  refine hp_toph (fun h2 eh2 => ?_)
  replace hq := hq h2 eh2
  refine hp_iconst E (nI 0) dX0_split_13 (by decide) ?_
  refine hp_istore_n (lv' := [(0, .ref (ad 64)), (1, .int a1), (2, .int (nI 0))]) E dX0_split_14 rfl (by decide) rfl rfl ?_
  refine hq (fun v4 h5 => hp_G p l e rm_X0_split s m args below meth c SB cs ad A D 4 0 0 Z 15 [(0, .ref (ad 64)), (1, .int a1), (2, .int v4)] [] h5) (fun v4 h5 hB => ?_)
  obtain ⟨B3, hq, hB3⟩ := hB
  refine hp_iload_n E 2 dX0_split_15 rfl rfl ?_
  refine hp_aload_n E 0 dX0_split_16 rfl rfl ?_
  refine hp_gR E g_RX0_33 fB_64_3 dX0_split_17 ?_
  refine hp_gI E g_RX0_76 fB_35_2 dX0_split_20 ?_
  refine hp_icmp_ge E 59 dX0_split_23 (by decide) (fun c6 => ?_) (fun c6 => ?_)
  · replace hq := hq.1 c6
    refine hp_aload_n E 0 dX0_split_59 rfl rfl ?_
    refine hp_gM E g_RX0_11 fB_64_2 dX0_split_60 ?_
    refine hp_topw (fun w7 ew7 => ?_)
    replace hq := hq w7 ew7
    have ow7 := hq.1
    replace hq := hq.2
    refine hp_astore_n (lv' := [(0, .ref (ad 64)), (1, .int a1), (2, .ref (ad w7))]) E dX0_split_63 rfl (by decide) rfl rfl ?_
    refine hp_aload_n E 0 dX0_split_64 rfl rfl ?_
    refine hp_aload_n E 0 dX0_split_65 rfl rfl ?_
    refine hp_gM E g_RX0_21 fB_64_7 dX0_split_66 ?_
    refine hp_topw (fun w8 ew8 => ?_)
    replace hq := hq w8 ew8
    have ow8 := hq.1
    replace hq := hq.2
    refine hp_pM E p_RX0_11 fB_64_2 (by decide) (mut_0) (pw_l ow8) (pw_s ow8) hJ dX0_split_69 ?_
    refine hp_toph (fun h9 eh9 => ?_)
    replace hq := hq h9 eh9
    refine hp_aload_n E 0 dX0_split_72 rfl rfl ?_
    refine hp_aload_n E 2 dX0_split_73 rfl rfl ?_
    refine hp_pM E p_RX0_21 fB_64_7 (by decide) (mut_1) (pw_l ow7) (pw_s ow7) hJ dX0_split_74 ?_
    refine hp_toph (fun h10 eh10 => ?_)
    replace hq := hq h10 eh10
    exact hp_vret E hq hZ dX0_split_77
  · replace hq := hq.2 c6
    refine hp_aload_n E 0 dX0_split_26 rfl rfl ?_
    refine hp_iload_n E 2 dX0_split_27 rfl rfl ?_
    refine hp_iload_n E 1 dX0_split_28 rfl rfl ?_
    refine hp_callVip (rest := []) E 64 fB_64_0 vcl_0 (c_X0_newPartLike l hJ hq) F_X0_newPartLike m_RX0_97 ⟨rfl, rfl⟩ ⟨Nat.le_of_ble_eq_true rfl, Nat.le_of_ble_eq_true rfl⟩ ⟨Nat.zero_le _, Nat.zero_le _⟩ rfl rfl (Nat.le_of_ble_eq_true rfl) dX0_split_29 (fun r11 hq => ?_)
    refine hp_istore_n (lv' := [(0, .ref (ad 64)), (1, .int a1), (2, .int v4), (3, .int r11)]) E dX0_split_32 rfl (by decide) rfl rfl ?_
    refine hp_aload_n E 0 dX0_split_33 rfl rfl ?_
    refine hp_gM E g_RX0_21 fB_64_7 dX0_split_34 ?_
    refine hp_topw (fun w12 ew12 => ?_)
    replace hq := hq w12 ew12
    have ow12 := hq.1
    replace hq := hq.2
    refine hp_iload_n E 2 dX0_split_37 rfl rfl ?_
    refine hp_iload_n E 3 dX0_split_38 rfl rfl ?_
    refine hp_iconst E (-1) dX0_split_39 (by decide) ?_
    obtain ⟨K14, hq, hK14⟩ := hq
    have jK14 : ∀ (v15 : Int32) (h16 : hp_H), K14 v15 h16 → hp_G p l e rm_X0_split s m args below meth c SB cs ad A D 4 0 0 Z 52 [(0, .ref (ad 64)), (1, .int a1), (2, .int v4)] [.int v15, .int v4, .ref (ad w12)] h16 := by
      intro v15 h16 hq
      replace hq := hK14 v15 h16 hq
      have hin := hq.1
      replace hq := hq.2
      refine hp_iast E w12 (pw_a ow12) (pw_z ow12) hJ hin dX0_split_52 ?_
      refine hp_toph (fun h19 eh19 => ?_)
      replace hq := hq h19 eh19
      obtain ⟨v20, ev20⟩ : ∃ z : Int32, z = v4 + (nI 1) := ⟨_, rfl⟩
      replace hq := hq v20 ev20
      refine hp_iinc (lv' := [(0, .ref (ad 64)), (1, .int a1), (2, .int v20)]) E 2 v20 dX0_split_53 rfl (by rw [ev20]; rfl) (by decide) rfl rfl ?_
      refine hp_goto E 15 dX0_split_56 (by decide) ?_
      exact hB3 _ _ hq
    refine hp_icmp_ne E 51 dX0_split_40 (by decide) (fun c13 => ?_) (fun c13 => ?_)
    · replace hq := hq.2 c13
      refine hp_iload_n E 3 dX0_split_51 rfl rfl ?_
      refine hp_sub (lv' := [(0, .ref (ad 64)), (1, .int a1), (2, .int v4)]) [0, 1, 2] rfl ?_
      exact jK14 _ _ hq
    · replace hq := hq.1 c13
      refine hp_aload_n E 0 dX0_split_43 rfl rfl ?_
      refine hp_iload_n E 2 dX0_split_44 rfl rfl ?_
      refine hp_callVi' (rest := [.int v4, .ref (ad w12)]) E 64 fB_64_0 vcl_0 (c_X0_openPart l hJ hq) F_X0_openPart m_RX0_101 ⟨rfl, rfl⟩ ⟨Nat.le_of_ble_eq_true rfl, Nat.le_of_ble_eq_true rfl⟩ ⟨Nat.zero_le _, Nat.zero_le _⟩ rfl rfl (Nat.le_of_ble_eq_true rfl) dX0_split_45 (fun r17 h18 hq => ?_)
      refine hp_goto E 52 dX0_split_48 (by decide) ?_
      refine hp_sub (lv' := [(0, .ref (ad 64)), (1, .int a1), (2, .int v4)]) [0, 1, 2] rfl ?_
      exact jK14 _ _ hq
theorem dJ7_rangeCheck_23922_0 : decode cJ7_rangeCheck_23922 0 = .ok (.iload_n 1, 1) := by decide +kernel
theorem dJ7_rangeCheck_23922_1 : decode cJ7_rangeCheck_23922 1 = .ok (.iload_n 2, 1) := by decide +kernel
theorem dJ7_rangeCheck_23922_2 : decode cJ7_rangeCheck_23922 2 = .ok (.if_icmp .le 44, 3) := by decide +kernel
theorem dJ7_rangeCheck_23922_5 : decode cJ7_rangeCheck_23922 5 = .ok (.new 43, 3) := by decide +kernel
theorem dJ7_rangeCheck_23922_46 : decode cJ7_rangeCheck_23922 46 = .ok (.iload_n 1, 1) := by decide +kernel
theorem dJ7_rangeCheck_23922_47 : decode cJ7_rangeCheck_23922 47 = .ok (.ifCond .ge 12, 3) := by decide +kernel
theorem dJ7_rangeCheck_23922_50 : decode cJ7_rangeCheck_23922 50 = .ok (.new 68, 3) := by decide +kernel
theorem dJ7_rangeCheck_23922_59 : decode cJ7_rangeCheck_23922 59 = .ok (.iload_n 2, 1) := by decide +kernel
theorem dJ7_rangeCheck_23922_60 : decode cJ7_rangeCheck_23922 60 = .ok (.iload_n 0, 1) := by decide +kernel
theorem dJ7_rangeCheck_23922_61 : decode cJ7_rangeCheck_23922 61 = .ok (.if_icmp .le 12, 3) := by decide +kernel
theorem dJ7_rangeCheck_23922_64 : decode cJ7_rangeCheck_23922 64 = .ok (.new 68, 3) := by decide +kernel
theorem dJ7_rangeCheck_23922_73 : decode cJ7_rangeCheck_23922 73 = .ok (.return_, 1) := by decide +kernel
set_option maxHeartbeats 4000000 in
set_option maxRecDepth 100000 in
theorem c_J7_rangeCheck_23922 (l : Launch) {cs : Nat → ClassId} {ad : Nat → Nat} {A : Nat → Prop} {D : va_G} (hJ : hp_J SB ad A)   {h : hp_H} {a0 a1 a2 : Int32} {Q : Prop} (hq : q_J7_rangeCheck_23922 a0 a1 a2 Q) : hp_Mv l yJ7_rangeCheck_23922 cJ7_rangeCheck_23922 3 none rm_J7_rangeCheck_23922 [.int a0, .int a1, .int a2] SB cs ad A D h (fun h' => Q ∧ h' = h) := by
  refine hp_met (own := RJ7) rfl (by decide) (Nat.le_of_ble_eq_true rfl) rfl (fun p e s m args below meth c Z E hZ hnm => ?_)
  refine hp_sub (lv' := [(0, .int a0), (1, .int a1), (2, .int a2)]) [0, 1, 2] rfl ?_
  unfold q_J7_rangeCheck_23922 at hq
  refine hp_iload_n E 1 dJ7_rangeCheck_23922_0 rfl rfl ?_
  refine hp_iload_n E 2 dJ7_rangeCheck_23922_1 rfl rfl ?_
  refine hp_icmp_le E 46 dJ7_rangeCheck_23922_2 (by decide) (fun c1 => ?_) (fun c1 => ?_)
  · replace hq := hq.1 c1
    refine hp_iload_n E 1 dJ7_rangeCheck_23922_46 rfl rfl ?_
    refine hp_if_ge E 59 dJ7_rangeCheck_23922_47 (by decide) (fun c2 => ?_) (fun c2 => ?_)
    · replace hq := hq.1 c2
      refine hp_iload_n E 2 dJ7_rangeCheck_23922_59 rfl rfl ?_
      refine hp_iload_n E 0 dJ7_rangeCheck_23922_60 rfl rfl ?_
      refine hp_icmp_le E 73 dJ7_rangeCheck_23922_61 (by decide) (fun c3 => ?_) (fun c3 => ?_)
      · replace hq := hq.1 c3
        exact hp_vret E ⟨hq, rfl⟩ hZ dJ7_rangeCheck_23922_73
      · replace hq := hq.2 c3
        exact hq.elim
    · replace hq := hq.2 c2
      exact hq.elim
  · replace hq := hq.2 c1
    exact hq.elim
theorem dJ7_fill_fda19_0 : decode cJ7_fill_fda19 0 = .ok (.aload_n 0, 1) := by decide +kernel
theorem dJ7_fill_fda19_1 : decode cJ7_fill_fda19 1 = .ok (.arraylength, 1) := by decide +kernel
theorem dJ7_fill_fda19_2 : decode cJ7_fill_fda19 2 = .ok (.iload_n 1, 1) := by decide +kernel
theorem dJ7_fill_fda19_3 : decode cJ7_fill_fda19 3 = .ok (.iload_n 2, 1) := by decide +kernel
theorem dJ7_fill_fda19_4 : decode cJ7_fill_fda19 4 = .ok (.invokestatic 13, 3) := by decide +kernel
theorem dJ7_fill_fda19_7 : decode cJ7_fill_fda19 7 = .ok (.iload_n 1, 1) := by decide +kernel
theorem dJ7_fill_fda19_8 : decode cJ7_fill_fda19 8 = .ok (.istore 4, 2) := by decide +kernel
theorem dJ7_fill_fda19_10 : decode cJ7_fill_fda19 10 = .ok (.iload 4, 2) := by decide +kernel
theorem dJ7_fill_fda19_12 : decode cJ7_fill_fda19 12 = .ok (.iload_n 2, 1) := by decide +kernel
theorem dJ7_fill_fda19_13 : decode cJ7_fill_fda19 13 = .ok (.if_icmp .ge 14, 3) := by decide +kernel
theorem dJ7_fill_fda19_16 : decode cJ7_fill_fda19 16 = .ok (.aload_n 0, 1) := by decide +kernel
theorem dJ7_fill_fda19_17 : decode cJ7_fill_fda19 17 = .ok (.iload 4, 2) := by decide +kernel
theorem dJ7_fill_fda19_19 : decode cJ7_fill_fda19 19 = .ok (.iload_n 3, 1) := by decide +kernel
theorem dJ7_fill_fda19_20 : decode cJ7_fill_fda19 20 = .ok (.iastore, 1) := by decide +kernel
theorem dJ7_fill_fda19_21 : decode cJ7_fill_fda19 21 = .ok (.iinc 4 1, 3) := by decide +kernel
theorem dJ7_fill_fda19_24 : decode cJ7_fill_fda19 24 = .ok (.goto (-14), 3) := by decide +kernel
theorem dJ7_fill_fda19_27 : decode cJ7_fill_fda19 27 = .ok (.return_, 1) := by decide +kernel
set_option maxHeartbeats 4000000 in
set_option maxRecDepth 100000 in
theorem c_J7_fill_fda19 (l : Launch) {cs : Nat → ClassId} {ad : Nat → Nat} {A : Nat → Prop} {D : va_G} (hJ : hp_J SB ad A) {x0 : Nat} {nx0 : Nat} (hx0 : SB[x0]? = some (.inr (0, nx0))) (hzx0 : x0 ≠ hp_V) {h : hp_H} {a1 a2 a3 : Int32} {Q : hp_H → Prop} (hq : q_J7_fill_fda19 x0 nx0 h a1 a2 a3 Q) : hp_Mv l yJ7_fill_fda19 cJ7_fill_fda19 5 none rm_J7_fill_fda19 [.ref (ad x0), .int a1, .int a2, .int a3] SB cs ad A D h Q := by
  refine hp_met (own := RJ7) rfl (by decide) (Nat.le_of_ble_eq_true rfl) rfl (fun p e s m args below meth c Z E hZ hnm => ?_)
  refine hp_sub (lv' := [(0, .ref (ad x0)), (1, .int a1), (2, .int a2), (3, .int a3)]) [0, 1, 2, 3] rfl ?_
  unfold q_J7_fill_fda19 at hq
  refine hp_aload_n E 0 dJ7_fill_fda19_0 rfl rfl ?_
  refine hp_alen E x0 hx0 dJ7_fill_fda19_1 ?_
  refine hp_iload_n E 1 dJ7_fill_fda19_2 rfl rfl ?_
  refine hp_iload_n E 2 dJ7_fill_fda19_3 rfl rfl ?_
  refine hp_callSvp (rest := []) E (c_J7_rangeCheck_23922 l hJ hq) F_J7_rangeCheck_23922 m_RJ7_13 ⟨rfl, rfl⟩ ⟨Nat.le_of_ble_eq_true rfl, Nat.le_of_ble_eq_true rfl⟩ ⟨Nat.zero_le _, Nat.zero_le _⟩ rfl rfl (Nat.le_of_ble_eq_true rfl) dJ7_fill_fda19_4 (fun hq => ?_)
  refine hp_iload_n E 1 dJ7_fill_fda19_7 rfl rfl ?_
  refine hp_istore (lv' := [(0, .ref (ad x0)), (1, .int a1), (2, .int a2), (3, .int a3), (4, .int a1)]) E dJ7_fill_fda19_8 (by decide) rfl rfl ?_
  refine hp_sub (lv' := [(0, .ref (ad x0)), (2, .int a2), (3, .int a3), (4, .int a1)]) [0, 2, 3, 4] rfl ?_
  refine hq (fun v2 h3 => hp_G p l e rm_J7_fill_fda19 s m args below meth c SB cs ad A D 5 0 0 Z 10 [(0, .ref (ad x0)), (2, .int a2), (3, .int a3), (4, .int v2)] [] h3) (fun v2 h3 hB => ?_)
  obtain ⟨B1, hq, hB1⟩ := hB
  refine hp_iload E 3 dJ7_fill_fda19_10 rfl ?_
  refine hp_iload_n E 1 dJ7_fill_fda19_12 rfl rfl ?_
  refine hp_icmp_ge E 27 dJ7_fill_fda19_13 (by decide) (fun c4 => ?_) (fun c4 => ?_)
  · replace hq := hq.1 c4
    exact hp_vret E hq hZ dJ7_fill_fda19_27
  · replace hq := hq.2 c4
    refine hp_aload_n E 0 dJ7_fill_fda19_16 rfl rfl ?_
    refine hp_iload E 3 dJ7_fill_fda19_17 rfl ?_
    refine hp_iload_n E 2 dJ7_fill_fda19_19 rfl rfl ?_
    have hin := hq.1
    replace hq := hq.2
    refine hp_iast E x0 hx0 hzx0 hJ hin dJ7_fill_fda19_20 ?_
    refine hp_toph (fun h5 eh5 => ?_)
    replace hq := hq h5 eh5
    obtain ⟨v6, ev6⟩ : ∃ z : Int32, z = v2 + (nI 1) := ⟨_, rfl⟩
    replace hq := hq v6 ev6
    refine hp_iinc (lv' := [(0, .ref (ad x0)), (2, .int a2), (3, .int a3), (4, .int v6)]) E 3 v6 dJ7_fill_fda19_21 rfl (by rw [ev6]; rfl) (by decide) rfl rfl ?_
    refine hp_goto E 10 dJ7_fill_fda19_24 (by decide) ?_
    exact hB1 _ _ hq
